theorem dX10_isLit_4 : decode cX10_isLit 4 = .ok (.getfield 62, 3) := by decide +kernel
theorem dX10_isLit_7 : decode cX10_isLit 7 = .ok (.getfield 86, 3) := by decide +kernel
theorem dX10_isLit_10 : decode cX10_isLit 10 = .ok (.getfield 112, 3) := by decide +kernel
theorem dX10_isLit_13 : decode cX10_isLit 13 = .ok (.aload_n 0, 1) := by decide +kernel
theorem dX10_isLit_14 : decode cX10_isLit 14 = .ok (.iload_n 1, 1) := by decide +kernel
theorem dX10_isLit_15 : decode cX10_isLit 15 = .ok (.iload_n 2, 1) := by decide +kernel
theorem dX10_isLit_16 : decode cX10_isLit 16 = .ok (.invokevirtual 109, 3) := by decide +kernel
theorem dX10_isLit_19 : decode cX10_isLit 19 = .ok (.iaload, 1) := by decide +kernel
theorem dX10_isLit_20 : decode cX10_isLit 20 = .ok (.aload_n 0, 1) := by decide +kernel
theorem dX10_isLit_21 : decode cX10_isLit 21 = .ok (.getfield 10, 3) := by decide +kernel
theorem dX10_isLit_24 : decode cX10_isLit 24 = .ok (.getfield 62, 3) := by decide +kernel
theorem dX10_isLit_27 : decode cX10_isLit 27 = .ok (.getfield 118, 3) := by decide +kernel
theorem dX10_isLit_30 : decode cX10_isLit 30 = .ok (.if_icmp .gt 7, 3) := by decide +kernel
theorem dX10_isLit_33 : decode cX10_isLit 33 = .ok (.iconst 1, 1) := by decide +kernel
theorem dX10_isLit_34 : decode cX10_isLit 34 = .ok (.goto 4, 3) := by decide +kernel
theorem dX10_isLit_37 : decode cX10_isLit 37 = .ok (.iconst 0, 1) := by decide +kernel
theorem dX10_isLit_38 : decode cX10_isLit 38 = .ok (.ireturn, 1) := by decide +kernel
set_option maxRecDepth 20000 in
theorem ggX10_lowerPortAt_X10_checkPosition : GoodIn wsX10_lowerPortAt wsX10_checkPosition := goodIn_ca (goodIn_r _ [9, 10, 11, 1, 2, 3, 12, 13, 14, 15, 16, 17, 18, 19, 20, 21, 22, 23, 24, 25, 26, 27, 28, 29, 30, 31, 32, 33, 34, 35, 36, 37, 38, 39] (by decide +kernel) (by decide +kernel)) (goodIn_sub (fun _ h => List.mem_cons_of_mem _ (List.mem_append_right _ h)) (by decide +kernel))
set_option maxRecDepth 20000 in
theorem gX10_lowerPortAt_X10_checkPosition : GoodIn wsX10_lowerPortAt (wsV RX10 121 RX10 yX10_checkPosition wsX10_checkPosition) := goodIn_app (goodIn_of _ (by decide +kernel)) ggX10_lowerPortAt_X10_checkPosition
theorem dX10_lowerPortAt_0 : decode cX10_lowerPortAt 0 = .ok (.aload_n 0, 1) := by decide +kernel
theorem dX10_lowerPortAt_1 : decode cX10_lowerPortAt 1 = .ok (.iload_n 1, 1) := by decide +kernel
theorem dX10_lowerPortAt_2 : decode cX10_lowerPortAt 2 = .ok (.invokevirtual 121, 3) := by decide +kernel
theorem dX10_lowerPortAt_5 : decode cX10_lowerPortAt 5 = .ok (.aload_n 0, 1) := by decide +kernel
theorem dX10_lowerPortAt_6 : decode cX10_lowerPortAt 6 = .ok (.getfield 10, 3) := by decide +kernel
theorem dX10_lowerPortAt_9 : decode cX10_lowerPortAt 9 = .ok (.getfield 62, 3) := by decide +kernel
theorem dX10_lowerPortAt_12 : decode cX10_lowerPortAt 12 = .ok (.getfield 86, 3) := by decide +kernel
theorem dX10_lowerPortAt_15 : decode cX10_lowerPortAt 15 = .ok (.getfield 124, 3) := by decide +kernel
theorem dX10_lowerPortAt_18 : decode cX10_lowerPortAt 18 = .ok (.iload_n 1, 1) := by decide +kernel
theorem dX10_lowerPortAt_19 : decode cX10_lowerPortAt 19 = .ok (.iaload, 1) := by decide +kernel
theorem dX10_lowerPortAt_20 : decode cX10_lowerPortAt 20 = .ok (.ireturn, 1) := by decide +kernel
set_option maxRecDepth 20000 in
theorem ggX10_upperPortAt_X10_checkPosition : GoodIn wsX10_upperPortAt wsX10_checkPosition := goodIn_ca (goodIn_r _ [9, 10, 11, 1, 2, 3, 12, 13, 14, 15, 16, 17, 18, 19, 20, 21, 22, 23, 24, 25, 26, 27, 28, 29, 30, 31, 32, 33, 34, 35, 36, 37, 38, 39] (by decide +kernel) (by decide +kernel)) (goodIn_sub (fun _ h => List.mem_cons_of_mem _ (List.mem_append_right _ h)) (by decide +kernel))
set_option maxRecDepth 20000 in
theorem gX10_upperPortAt_X10_checkPosition : GoodIn wsX10_upperPortAt (wsV RX10 121 RX10 yX10_checkPosition wsX10_checkPosition) := goodIn_app (goodIn_of _ (by decide +kernel)) ggX10_upperPortAt_X10_checkPosition
theorem dX10_upperPortAt_0 : decode cX10_upperPortAt 0 = .ok (.aload_n 0, 1) := by decide +kernel
theorem dX10_upperPortAt_1 : decode cX10_upperPortAt 1 = .ok (.iload_n 1, 1) := by decide +kernel
theorem dX10_upperPortAt_2 : decode cX10_upperPortAt 2 = .ok (.invokevirtual 121, 3) := by decide +kernel
theorem dX10_upperPortAt_5 : decode cX10_upperPortAt 5 = .ok (.aload_n 0, 1) := by decide +kernel
theorem dX10_upperPortAt_6 : decode cX10_upperPortAt 6 = .ok (.getfield 10, 3) := by decide +kernel
theorem dX10_upperPortAt_9 : decode cX10_upperPortAt 9 = .ok (.getfield 62, 3) := by decide +kernel
theorem dX10_upperPortAt_12 : decode cX10_upperPortAt 12 = .ok (.getfield 86, 3) := by decide +kernel
theorem dX10_upperPortAt_15 : decode cX10_upperPortAt 15 = .ok (.getfield 127, 3) := by decide +kernel
theorem dX10_upperPortAt_18 : decode cX10_upperPortAt 18 = .ok (.iload_n 1, 1) := by decide +kernel
theorem dX10_upperPortAt_19 : decode cX10_upperPortAt 19 = .ok (.iaload, 1) := by decide +kernel
theorem dX10_upperPortAt_20 : decode cX10_upperPortAt 20 = .ok (.ireturn, 1) := by decide +kernel
set_option maxRecDepth 20000 in
theorem ggX10_distance_X10_checkPorts : GoodIn wsX10_distance wsX10_checkPorts := goodIn_ca (goodIn_r _ [9, 10, 11, 1, 3, 4, 12, 13, 14, 15, 16, 17, 52, 53, 54, 55, 56, 57, 58, 59, 60, 61, 62, 63, 64, 65, 66, 67, 68, 69, 70, 71, 72, 73, 74, 75, 76, 77, 78] (by decide +kernel) (by decide +kernel)) (goodIn_sub (fun _ h => List.mem_cons_of_mem _ (List.mem_append_left _ (List.mem_append_left _ (List.mem_append_right _ h)))) (by decide +kernel))
set_option maxRecDepth 20000 in
theorem gX10_distance_X10_checkPorts : GoodIn wsX10_distance (wsV RX10 98 RX10 yX10_checkPorts wsX10_checkPorts) := goodIn_app (goodIn_of _ (by decide +kernel)) ggX10_distance_X10_checkPorts
set_option maxRecDepth 20000 in
theorem ggX10_distance_X5_lengthByNearest : GoodIn wsX10_distance wsX5_lengthByNearest := goodIn_ca (goodIn_r _ [22, 23, 24, 25, 26, 27, 28, 21, 29, 30, 31, 32, 33, 34, 35, 36, 37, 38, 39, 40, 41, 42, 43, 44, 45, 46, 72, 73, 74, 75, 76, 77, 78, 79, 80, 81] (by decide +kernel) (by decide +kernel)) (goodIn_sub (fun _ h => List.mem_cons_of_mem _ (List.mem_append_left _ (List.mem_append_right _ h))) (by decide +kernel))
set_option maxRecDepth 20000 in
theorem gX10_distance_X5_lengthByNearest : GoodIn wsX10_distance (wsV RX10 134 RX5 yX5_lengthByNearest wsX5_lengthByNearest) := goodIn_app (goodIn_of _ (by decide +kernel)) ggX10_distance_X5_lengthByNearest
set_option maxRecDepth 20000 in
theorem ggX10_distance_X10_found : GoodIn wsX10_distance wsX10_found := goodIn_ca (goodIn_r _ [49, 50, 51] (by decide +kernel) (by decide +kernel)) (goodIn_sub (fun _ h => List.mem_cons_of_mem _ (List.mem_append_right _ h)) (by decide +kernel))
set_option maxRecDepth 20000 in
theorem gX10_distance_X10_found : GoodIn wsX10_distance (va_wsS RX10 140 yX10_found wsX10_found) := goodIn_app (goodIn_of _ (by decide +kernel)) ggX10_distance_X10_found
theorem dX10_distance_0 : decode cX10_distance 0 = .ok (.aload_n 0, 1) := by decide +kernel
theorem dX10_distance_1 : decode cX10_distance 1 = .ok (.iload_n 1, 1) := by decide +kernel
theorem dX10_distance_2 : decode cX10_distance 2 = .ok (.iload_n 2, 1) := by decide +kernel
theorem dX10_distance_3 : decode cX10_distance 3 = .ok (.invokevirtual 98, 3) := by decide +kernel
theorem dX10_distance_6 : decode cX10_distance 6 = .ok (.aload_n 0, 1) := by decide +kernel
theorem dX10_distance_7 : decode cX10_distance 7 = .ok (.getfield 10, 3) := by decide +kernel
theorem dX10_distance_10 : decode cX10_distance 10 = .ok (.getfield 130, 3) := by decide +kernel
theorem dX10_distance_13 : decode cX10_distance 13 = .ok (.aload_n 0, 1) := by decide +kernel
theorem dX10_distance_14 : decode cX10_distance 14 = .ok (.getfield 10, 3) := by decide +kernel
theorem dX10_distance_17 : decode cX10_distance 17 = .ok (.getfield 62, 3) := by decide +kernel
theorem dX10_distance_20 : decode cX10_distance 20 = .ok (.getfield 86, 3) := by decide +kernel
theorem dX10_distance_23 : decode cX10_distance 23 = .ok (.iload_n 1, 1) := by decide +kernel
theorem dX10_distance_24 : decode cX10_distance 24 = .ok (.iload_n 2, 1) := by decide +kernel
theorem dX10_distance_25 : decode cX10_distance 25 = .ok (.bipush 20, 2) := by decide +kernel
theorem dX10_distance_27 : decode cX10_distance 27 = .ok (.invokevirtual 134, 3) := by decide +kernel
theorem dX10_distance_30 : decode cX10_distance 30 = .ok (.invokestatic 140, 3) := by decide +kernel
theorem dX10_distance_33 : decode cX10_distance 33 = .ok (.ireturn, 1) := by decide +kernel
set_option maxRecDepth 20000 in
theorem ggX10_distanceByRounds_X10_checkPorts : GoodIn wsX10_distanceByRounds wsX10_checkPorts := goodIn_ca (goodIn_r _ [9, 10, 11, 1, 3, 4, 12, 13, 14, 15, 16, 17, 42, 43, 44, 45, 46, 47, 48, 49, 50, 51, 52, 53, 54, 55, 56, 57, 58, 59, 60, 61, 62, 63, 64, 65, 66, 67, 68] (by decide +kernel) (by decide +kernel)) (goodIn_sub (fun _ h => List.mem_cons_of_mem _ (List.mem_append_left _ (List.mem_append_left _ (List.mem_append_right _ h)))) (by decide +kernel))
set_option maxRecDepth 20000 in
theorem gX10_distanceByRounds_X10_checkPorts : GoodIn wsX10_distanceByRounds (wsV RX10 98 RX10 yX10_checkPorts wsX10_checkPorts) := goodIn_app (goodIn_of _ (by decide +kernel)) ggX10_distanceByRounds_X10_checkPorts
set_option maxRecDepth 20000 in
theorem ggX10_distanceByRounds_X5_lengthByRounds : GoodIn wsX10_distanceByRounds wsX5_lengthByRounds := goodIn_ca (goodIn_r _ [22, 23, 24, 25, 26, 27, 28, 29, 30, 21, 31, 32, 33, 34, 35, 36, 62, 63, 64, 65, 66, 67, 68, 69, 70, 71] (by decide +kernel) (by decide +kernel)) (goodIn_sub (fun _ h => List.mem_cons_of_mem _ (List.mem_append_left _ (List.mem_append_right _ h))) (by decide +kernel))
set_option maxRecDepth 20000 in
theorem gX10_distanceByRounds_X5_lengthByRounds : GoodIn wsX10_distanceByRounds (wsV RX10 144 RX5 yX5_lengthByRounds wsX5_lengthByRounds) := goodIn_app (goodIn_of _ (by decide +kernel)) ggX10_distanceByRounds_X5_lengthByRounds
set_option maxRecDepth 20000 in
theorem ggX10_distanceByRounds_X10_found : GoodIn wsX10_distanceByRounds wsX10_found := goodIn_ca (goodIn_r _ [39, 40, 41] (by decide +kernel) (by decide +kernel)) (goodIn_sub (fun _ h => List.mem_cons_of_mem _ (List.mem_append_right _ h)) (by decide +kernel))
set_option maxRecDepth 20000 in
theorem gX10_distanceByRounds_X10_found : GoodIn wsX10_distanceByRounds (va_wsS RX10 140 yX10_found wsX10_found) := goodIn_app (goodIn_of _ (by decide +kernel)) ggX10_distanceByRounds_X10_found
theorem dX10_distanceByRounds_0 : decode cX10_distanceByRounds 0 = .ok (.aload_n 0, 1) := by decide +kernel
theorem dX10_distanceByRounds_1 : decode cX10_distanceByRounds 1 = .ok (.iload_n 1, 1) := by decide +kernel
theorem dX10_distanceByRounds_2 : decode cX10_distanceByRounds 2 = .ok (.iload_n 2, 1) := by decide +kernel
theorem dX10_distanceByRounds_3 : decode cX10_distanceByRounds 3 = .ok (.invokevirtual 98, 3) := by decide +kernel
theorem dX10_distanceByRounds_6 : decode cX10_distanceByRounds 6 = .ok (.aload_n 0, 1) := by decide +kernel
theorem dX10_distanceByRounds_7 : decode cX10_distanceByRounds 7 = .ok (.getfield 10, 3) := by decide +kernel
theorem dX10_distanceByRounds_10 : decode cX10_distanceByRounds 10 = .ok (.getfield 130, 3) := by decide +kernel
theorem dX10_distanceByRounds_13 : decode cX10_distanceByRounds 13 = .ok (.aload_n 0, 1) := by decide +kernel
theorem dX10_distanceByRounds_14 : decode cX10_distanceByRounds 14 = .ok (.getfield 10, 3) := by decide +kernel
theorem dX10_distanceByRounds_17 : decode cX10_distanceByRounds 17 = .ok (.getfield 62, 3) := by decide +kernel
theorem dX10_distanceByRounds_20 : decode cX10_distanceByRounds 20 = .ok (.getfield 86, 3) := by decide +kernel
theorem dX10_distanceByRounds_23 : decode cX10_distanceByRounds 23 = .ok (.iload_n 1, 1) := by decide +kernel
theorem dX10_distanceByRounds_24 : decode cX10_distanceByRounds 24 = .ok (.iload_n 2, 1) := by decide +kernel
theorem dX10_distanceByRounds_25 : decode cX10_distanceByRounds 25 = .ok (.invokevirtual 144, 3) := by decide +kernel
theorem dX10_distanceByRounds_28 : decode cX10_distanceByRounds 28 = .ok (.invokestatic 140, 3) := by decide +kernel
theorem dX10_distanceByRounds_31 : decode cX10_distanceByRounds 31 = .ok (.ireturn, 1) := by decide +kernel
set_option maxRecDepth 20000 in
theorem ggX10_litDistance_X10_checkPorts : GoodIn wsX10_litDistance wsX10_checkPorts := goodIn_ca (goodIn_r _ [10, 11, 12, 1, 3, 4, 13, 14, 15, 16, 17, 18, 53, 54, 55, 56, 57, 58, 59, 60, 61, 62, 63, 64, 65, 66, 67, 68, 69, 70, 71, 72, 73, 74, 75, 76, 77, 78, 79] (by decide +kernel) (by decide +kernel)) (goodIn_sub (fun _ h => List.mem_cons_of_mem _ (List.mem_append_left _ (List.mem_append_left _ (List.mem_append_right _ h)))) (by decide +kernel))
set_option maxRecDepth 20000 in
theorem gX10_litDistance_X10_checkPorts : GoodIn wsX10_litDistance (wsV RX10 98 RX10 yX10_checkPorts wsX10_checkPorts) := goodIn_app (goodIn_of _ (by decide +kernel)) ggX10_litDistance_X10_checkPorts
set_option maxRecDepth 20000 in
theorem ggX10_litDistance_X5_lengthByNearest : GoodIn wsX10_litDistance wsX5_lengthByNearest := goodIn_ca (goodIn_r _ [23, 24, 25, 26, 27, 28, 29, 22, 30, 31, 32, 33, 34, 35, 36, 37, 38, 39, 40, 41, 42, 43, 44, 45, 46, 47, 73, 74, 75, 76, 77, 78, 79, 80, 81, 82] (by decide +kernel) (by decide +kernel)) (goodIn_sub (fun _ h => List.mem_cons_of_mem _ (List.mem_append_left _ (List.mem_append_right _ h))) (by decide +kernel))
set_option maxRecDepth 20000 in
theorem gX10_litDistance_X5_lengthByNearest : GoodIn wsX10_litDistance (wsV RX10 134 RX5 yX5_lengthByNearest wsX5_lengthByNearest) := goodIn_app (goodIn_of _ (by decide +kernel)) ggX10_litDistance_X5_lengthByNearest
set_option maxRecDepth 20000 in
theorem ggX10_litDistance_X10_found : GoodIn wsX10_litDistance wsX10_found := goodIn_ca (goodIn_r _ [50, 51, 52] (by decide +kernel) (by decide +kernel)) (goodIn_sub (fun _ h => List.mem_cons_of_mem _ (List.mem_append_right _ h)) (by decide +kernel))
set_option maxRecDepth 20000 in
theorem gX10_litDistance_X10_found : GoodIn wsX10_litDistance (va_wsS RX10 140 yX10_found wsX10_found) := goodIn_app (goodIn_of _ (by decide +kernel)) ggX10_litDistance_X10_found
theorem dX10_litDistance_0 : decode cX10_litDistance 0 = .ok (.aload_n 0, 1) := by decide +kernel
theorem dX10_litDistance_1 : decode cX10_litDistance 1 = .ok (.iload_n 1, 1) := by decide +kernel
theorem dX10_litDistance_2 : decode cX10_litDistance 2 = .ok (.iload_n 2, 1) := by decide +kernel
theorem dX10_litDistance_3 : decode cX10_litDistance 3 = .ok (.invokevirtual 98, 3) := by decide +kernel
theorem dX10_litDistance_6 : decode cX10_litDistance 6 = .ok (.aload_n 0, 1) := by decide +kernel
theorem dX10_litDistance_7 : decode cX10_litDistance 7 = .ok (.getfield 10, 3) := by decide +kernel
theorem dX10_litDistance_10 : decode cX10_litDistance 10 = .ok (.getfield 130, 3) := by decide +kernel
theorem dX10_litDistance_13 : decode cX10_litDistance 13 = .ok (.aload_n 0, 1) := by decide +kernel
theorem dX10_litDistance_14 : decode cX10_litDistance 14 = .ok (.getfield 10, 3) := by decide +kernel
theorem dX10_litDistance_17 : decode cX10_litDistance 17 = .ok (.getfield 62, 3) := by decide +kernel
theorem dX10_litDistance_20 : decode cX10_litDistance 20 = .ok (.getfield 86, 3) := by decide +kernel
theorem dX10_litDistance_23 : decode cX10_litDistance 23 = .ok (.iload_n 1, 1) := by decide +kernel
theorem dX10_litDistance_24 : decode cX10_litDistance 24 = .ok (.iload_n 2, 1) := by decide +kernel
theorem dX10_litDistance_25 : decode cX10_litDistance 25 = .ok (.aload_n 0, 1) := by decide +kernel
theorem dX10_litDistance_26 : decode cX10_litDistance 26 = .ok (.getfield 10, 3) := by decide +kernel
theorem dX10_litDistance_29 : decode cX10_litDistance 29 = .ok (.getfield 62, 3) := by decide +kernel
theorem dX10_litDistance_32 : decode cX10_litDistance 32 = .ok (.getfield 118, 3) := by decide +kernel
theorem dX10_litDistance_35 : decode cX10_litDistance 35 = .ok (.invokevirtual 134, 3) := by decide +kernel
theorem dX10_litDistance_38 : decode cX10_litDistance 38 = .ok (.invokestatic 140, 3) := by decide +kernel
theorem dX10_litDistance_41 : decode cX10_litDistance 41 = .ok (.ireturn, 1) := by decide +kernel
set_option maxRecDepth 20000 in
theorem ggX10_neededRange_X10_checkDifferentPorts : GoodIn wsX10_neededRange wsX10_checkDifferentPorts := goodIn_ca (goodIn_ca (goodIn_r _ [9, 10, 11, 12, 13, 14, 8, 15, 16, 17, 1, 3, 4, 18, 19, 20, 21, 22, 23, 47, 48, 49, 50, 51, 52, 53, 54, 55, 56, 57, 58, 59, 60, 61, 62, 63, 64, 65, 66, 67, 68, 69, 70, 71, 72, 73] (by decide +kernel) (by decide +kernel)) (goodIn_sub (fun _ h => List.mem_cons_of_mem _ (List.mem_append_left _ (List.mem_append_left _ (List.mem_append_left _ (List.mem_append_right _ h))))) (by decide +kernel))) (goodIn_sub (fun _ h => List.mem_cons_of_mem _ (List.mem_append_left _ (List.mem_append_left _ (List.mem_append_right _ h)))) (by decide +kernel))
set_option maxRecDepth 20000 in
theorem gX10_neededRange_X10_checkDifferentPorts : GoodIn wsX10_neededRange (wsV RX10 148 RX10 yX10_checkDifferentPorts wsX10_checkDifferentPorts) := goodIn_app (goodIn_of _ (by decide +kernel)) ggX10_neededRange_X10_checkDifferentPorts
set_option maxRecDepth 20000 in
theorem ggX10_neededRange_X5_needByJoining : GoodIn wsX10_neededRange wsX5_needByJoining := goodIn_ca (goodIn_r _ [28, 29, 30, 31, 32, 33, 34, 35, 36, 27, 37, 38, 39, 40, 41, 67, 68, 69, 70, 71, 72, 73, 74, 75, 76] (by decide +kernel) (by decide +kernel)) (goodIn_sub (fun _ h => List.mem_cons_of_mem _ (List.mem_append_left _ (List.mem_append_right _ h))) (by decide +kernel))
set_option maxRecDepth 20000 in
theorem gX10_neededRange_X5_needByJoining : GoodIn wsX10_neededRange (wsV RX10 151 RX5 yX5_needByJoining wsX5_needByJoining) := goodIn_app (goodIn_of _ (by decide +kernel)) ggX10_neededRange_X5_needByJoining
set_option maxRecDepth 20000 in
theorem ggX10_neededRange_X10_found : GoodIn wsX10_neededRange wsX10_found := goodIn_ca (goodIn_r _ [44, 45, 46] (by decide +kernel) (by decide +kernel)) (goodIn_sub (fun _ h => List.mem_cons_of_mem _ (List.mem_append_right _ h)) (by decide +kernel))
set_option maxRecDepth 20000 in
theorem gX10_neededRange_X10_found : GoodIn wsX10_neededRange (va_wsS RX10 140 yX10_found wsX10_found) := goodIn_app (goodIn_of _ (by decide +kernel)) ggX10_neededRange_X10_found
theorem dX10_neededRange_0 : decode cX10_neededRange 0 = .ok (.aload_n 0, 1) := by decide +kernel
theorem dX10_neededRange_1 : decode cX10_neededRange 1 = .ok (.iload_n 1, 1) := by decide +kernel
theorem dX10_neededRange_2 : decode cX10_neededRange 2 = .ok (.iload_n 2, 1) := by decide +kernel
theorem dX10_neededRange_3 : decode cX10_neededRange 3 = .ok (.invokevirtual 148, 3) := by decide +kernel
theorem dX10_neededRange_6 : decode cX10_neededRange 6 = .ok (.aload_n 0, 1) := by decide +kernel
theorem dX10_neededRange_7 : decode cX10_neededRange 7 = .ok (.getfield 10, 3) := by decide +kernel
theorem dX10_neededRange_10 : decode cX10_neededRange 10 = .ok (.getfield 130, 3) := by decide +kernel
theorem dX10_neededRange_13 : decode cX10_neededRange 13 = .ok (.aload_n 0, 1) := by decide +kernel
theorem dX10_neededRange_14 : decode cX10_neededRange 14 = .ok (.getfield 10, 3) := by decide +kernel
theorem dX10_neededRange_17 : decode cX10_neededRange 17 = .ok (.getfield 62, 3) := by decide +kernel
theorem dX10_neededRange_20 : decode cX10_neededRange 20 = .ok (.getfield 86, 3) := by decide +kernel
theorem dX10_neededRange_23 : decode cX10_neededRange 23 = .ok (.iload_n 1, 1) := by decide +kernel
theorem dX10_neededRange_24 : decode cX10_neededRange 24 = .ok (.iload_n 2, 1) := by decide +kernel
theorem dX10_neededRange_25 : decode cX10_neededRange 25 = .ok (.invokevirtual 151, 3) := by decide +kernel
theorem dX10_neededRange_28 : decode cX10_neededRange 28 = .ok (.invokestatic 140, 3) := by decide +kernel
theorem dX10_neededRange_31 : decode cX10_neededRange 31 = .ok (.ireturn, 1) := by decide +kernel
set_option maxRecDepth 20000 in
theorem ggX10_neededRangeByTrial_X10_checkDifferentPorts : GoodIn wsX10_neededRangeByTrial wsX10_checkDifferentPorts := goodIn_ca (goodIn_ca (goodIn_r _ [9, 10, 11, 12, 13, 14, 8, 15, 16, 17, 1, 3, 4, 18, 19, 20, 21, 22, 23, 43, 44, 45, 46, 47, 48, 49, 50, 51, 52, 53, 54, 55, 56, 57, 58, 59, 60, 61, 62, 63, 64, 65, 66, 67, 68, 69] (by decide +kernel) (by decide +kernel)) (goodIn_sub (fun _ h => List.mem_cons_of_mem _ (List.mem_append_left _ (List.mem_append_left _ (List.mem_append_left _ (List.mem_append_right _ h))))) (by decide +kernel))) (goodIn_sub (fun _ h => List.mem_cons_of_mem _ (List.mem_append_left _ (List.mem_append_left _ (List.mem_append_right _ h)))) (by decide +kernel))
set_option maxRecDepth 20000 in
theorem gX10_neededRangeByTrial_X10_checkDifferentPorts : GoodIn wsX10_neededRangeByTrial (wsV RX10 148 RX10 yX10_checkDifferentPorts wsX10_checkDifferentPorts) := goodIn_app (goodIn_of _ (by decide +kernel)) ggX10_neededRangeByTrial_X10_checkDifferentPorts
set_option maxRecDepth 20000 in
theorem ggX10_neededRangeByTrial_X5_needByTrial : GoodIn wsX10_neededRangeByTrial wsX5_needByTrial := goodIn_ca (goodIn_r _ [28, 29, 30, 31, 27, 32, 33, 34, 35, 36, 37, 70, 71, 72, 63, 64, 65, 66, 67, 68, 69] (by decide +kernel) (by decide +kernel)) (goodIn_sub (fun _ h => List.mem_cons_of_mem _ (List.mem_append_left _ (List.mem_append_right _ h))) (by decide +kernel))
set_option maxRecDepth 20000 in
theorem gX10_neededRangeByTrial_X5_needByTrial : GoodIn wsX10_neededRangeByTrial (wsV RX10 154 RX5 yX5_needByTrial wsX5_needByTrial) := goodIn_app (goodIn_of _ (by decide +kernel)) ggX10_neededRangeByTrial_X5_needByTrial
set_option maxRecDepth 20000 in
theorem ggX10_neededRangeByTrial_X10_found : GoodIn wsX10_neededRangeByTrial wsX10_found := goodIn_ca (goodIn_r _ [40, 41, 42] (by decide +kernel) (by decide +kernel)) (goodIn_sub (fun _ h => List.mem_cons_of_mem _ (List.mem_append_right _ h)) (by decide +kernel))
set_option maxRecDepth 20000 in
theorem gX10_neededRangeByTrial_X10_found : GoodIn wsX10_neededRangeByTrial (va_wsS RX10 140 yX10_found wsX10_found) := goodIn_app (goodIn_of _ (by decide +kernel)) ggX10_neededRangeByTrial_X10_found
theorem dX10_neededRangeByTrial_0 : decode cX10_neededRangeByTrial 0 = .ok (.aload_n 0, 1) := by decide +kernel
theorem dX10_neededRangeByTrial_1 : decode cX10_neededRangeByTrial 1 = .ok (.iload_n 1, 1) := by decide +kernel
theorem dX10_neededRangeByTrial_2 : decode cX10_neededRangeByTrial 2 = .ok (.iload_n 2, 1) := by decide +kernel
theorem dX10_neededRangeByTrial_3 : decode cX10_neededRangeByTrial 3 = .ok (.invokevirtual 148, 3) := by decide +kernel
theorem dX10_neededRangeByTrial_6 : decode cX10_neededRangeByTrial 6 = .ok (.aload_n 0, 1) := by decide +kernel
theorem dX10_neededRangeByTrial_7 : decode cX10_neededRangeByTrial 7 = .ok (.getfield 10, 3) := by decide +kernel
theorem dX10_neededRangeByTrial_10 : decode cX10_neededRangeByTrial 10 = .ok (.getfield 130, 3) := by decide +kernel
theorem dX10_neededRangeByTrial_13 : decode cX10_neededRangeByTrial 13 = .ok (.aload_n 0, 1) := by decide +kernel
theorem dX10_neededRangeByTrial_14 : decode cX10_neededRangeByTrial 14 = .ok (.getfield 10, 3) := by decide +kernel
theorem dX10_neededRangeByTrial_17 : decode cX10_neededRangeByTrial 17 = .ok (.getfield 62, 3) := by decide +kernel
theorem dX10_neededRangeByTrial_20 : decode cX10_neededRangeByTrial 20 = .ok (.getfield 86, 3) := by decide +kernel
theorem dX10_neededRangeByTrial_23 : decode cX10_neededRangeByTrial 23 = .ok (.iload_n 1, 1) := by decide +kernel
theorem dX10_neededRangeByTrial_24 : decode cX10_neededRangeByTrial 24 = .ok (.iload_n 2, 1) := by decide +kernel
theorem dX10_neededRangeByTrial_25 : decode cX10_neededRangeByTrial 25 = .ok (.invokevirtual 154, 3) := by decide +kernel
theorem dX10_neededRangeByTrial_28 : decode cX10_neededRangeByTrial 28 = .ok (.invokestatic 140, 3) := by decide +kernel
theorem dX10_neededRangeByTrial_31 : decode cX10_neededRangeByTrial 31 = .ok (.ireturn, 1) := by decide +kernel
set_option maxRecDepth 20000 in
theorem ggX10_litGroups_X5_countGroups : GoodIn wsX10_litGroups wsX5_countGroups := goodIn_ca (goodIn_r _ [10, 11, 12, 13, 14, 15, 16, 17, 18, 9, 19, 20, 21, 22, 23, 24, 45, 46, 47, 48, 49, 50, 51, 52, 53, 54] (by decide +kernel) (by decide +kernel)) (goodIn_sub (fun _ h => List.mem_cons_of_mem _ (List.mem_append_right _ h)) (by decide +kernel))
set_option maxRecDepth 20000 in
theorem gX10_litGroups_X5_countGroups : GoodIn wsX10_litGroups (wsV RX10 157 RX5 yX5_countGroups wsX5_countGroups) := goodIn_app (goodIn_of _ (by decide +kernel)) ggX10_litGroups_X5_countGroups
theorem dX10_litGroups_0 : decode cX10_litGroups 0 = .ok (.aload_n 0, 1) := by decide +kernel
theorem dX10_litGroups_1 : decode cX10_litGroups 1 = .ok (.getfield 10, 3) := by decide +kernel
theorem dX10_litGroups_4 : decode cX10_litGroups 4 = .ok (.getfield 130, 3) := by decide +kernel
theorem dX10_litGroups_7 : decode cX10_litGroups 7 = .ok (.aload_n 0, 1) := by decide +kernel
theorem dX10_litGroups_8 : decode cX10_litGroups 8 = .ok (.getfield 10, 3) := by decide +kernel
theorem dX10_litGroups_11 : decode cX10_litGroups 11 = .ok (.getfield 62, 3) := by decide +kernel
theorem dX10_litGroups_14 : decode cX10_litGroups 14 = .ok (.getfield 86, 3) := by decide +kernel
theorem dX10_litGroups_17 : decode cX10_litGroups 17 = .ok (.aload_n 0, 1) := by decide +kernel
theorem dX10_litGroups_18 : decode cX10_litGroups 18 = .ok (.getfield 10, 3) := by decide +kernel
theorem dX10_litGroups_21 : decode cX10_litGroups 21 = .ok (.getfield 62, 3) := by decide +kernel
theorem dX10_litGroups_24 : decode cX10_litGroups 24 = .ok (.getfield 118, 3) := by decide +kernel
theorem dX10_litGroups_27 : decode cX10_litGroups 27 = .ok (.invokevirtual 157, 3) := by decide +kernel
theorem dX10_litGroups_30 : decode cX10_litGroups 30 = .ok (.ireturn, 1) := by decide +kernel
set_option maxRecDepth 20000 in
theorem ggX10_subscribe_X4_shipFault : GoodIn wsX10_subscribe wsX4_shipFault := goodIn_ca (goodIn_r _ [8, 9, 10, 11, 12, 13, 14, 15, 16, 17, 18, 19, 20, 21, 22, 23, 24, 25, 26, 27, 28, 29, 30, 31, 32, 33, 34, 35, 36, 37, 121, 122, 123, 124, 125, 126, 127, 128, 129, 130, 131, 132, 133, 134, 135, 136, 137, 138, 139, 140, 141, 142, 143, 144, 145, 146, 147] (by decide +kernel) (by decide +kernel)) (goodIn_sub (fun _ h => List.mem_cons_of_mem _ (List.mem_append_left _ (List.mem_append_left _ (List.mem_append_left _ (List.mem_append_left _ (List.mem_append_left _ (List.mem_append_right _ h))))))) (by decide +kernel))
set_option maxRecDepth 20000 in
theorem gX10_subscribe_X4_shipFault : GoodIn wsX10_subscribe (wsV RX10 161 RX4 yX4_shipFault wsX4_shipFault) := goodIn_app (goodIn_of _ (by decide +kernel)) ggX10_subscribe_X4_shipFault
set_option maxRecDepth 20000 in
theorem ggX10_subscribe_X10_refuse : GoodIn wsX10_subscribe wsX10_refuse := goodIn_ca (goodIn_ca (goodIn_ca (goodIn_ca (goodIn_ca (goodIn_r _ [41, 42, 43, 44, 45, 46, 47, 48, 49, 50, 51] (by decide +kernel) (by decide +kernel)) (goodIn_sub (fun _ h => List.mem_cons_of_mem _ (List.mem_append_left _ (List.mem_append_left _ (List.mem_append_left _ (List.mem_append_left _ (List.mem_append_right _ h)))))) (by decide +kernel))) (goodIn_sub (fun _ h => List.mem_cons_of_mem _ (List.mem_append_left _ (List.mem_append_left _ (List.mem_append_left _ (List.mem_append_right _ h))))) (by decide +kernel))) (goodIn_sub (fun _ h => List.mem_cons_of_mem _ (List.mem_append_left _ (List.mem_append_left _ (List.mem_append_right _ h)))) (by decide +kernel))) (goodIn_sub (fun _ h => List.mem_cons_of_mem _ (List.mem_append_left _ (List.mem_append_right _ h))) (by decide +kernel))) (goodIn_sub (fun _ h => List.mem_cons_of_mem _ (List.mem_append_right _ h)) (by decide +kernel))
set_option maxRecDepth 20000 in
theorem gX10_subscribe_X10_refuse : GoodIn wsX10_subscribe (va_wsS RX10 58 yX10_refuse wsX10_refuse) := goodIn_app (goodIn_of _ (by decide +kernel)) ggX10_subscribe_X10_refuse
set_option maxRecDepth 20000 in
theorem ggX10_subscribe_X3_keep : GoodIn wsX10_subscribe wsX3_keep := goodIn_r _ [56, 57, 58, 59, 60, 61, 62, 63, 64, 65, 66, 67, 68, 69, 70, 71, 72, 73, 74, 75, 76, 77, 78, 79, 17, 80, 19, 81, 82, 83, 84, 85, 86, 87, 88, 89, 90, 91, 92, 93, 94, 95, 96, 97, 98, 99, 100, 101, 102, 148, 149, 150, 124, 125, 126, 127, 128, 129, 130, 131, 138, 139, 140, 141, 142, 143, 144, 132, 133, 134, 135, 136, 137] (by decide +kernel) (by decide +kernel)
set_option maxRecDepth 20000 in
theorem gX10_subscribe_X3_keep : GoodIn wsX10_subscribe (wsV RX10 65 RX3 yX3_keep wsX3_keep) := goodIn_app (goodIn_of _ (by decide +kernel)) ggX10_subscribe_X3_keep
set_option maxRecDepth 20000 in
theorem ggX10_subscribe_X4_putShip : GoodIn wsX10_subscribe wsX4_putShip := goodIn_ca (goodIn_r _ [106, 9, 11, 12, 107, 108, 109, 110, 94, 111, 96, 97, 99, 100, 101, 102, 121, 122, 123, 124, 125, 126, 127, 128, 129, 130, 131, 132, 133, 134, 135, 136, 137] (by decide +kernel) (by decide +kernel)) (goodIn_sub (fun _ h => List.mem_cons_of_mem _ (List.mem_append_left _ (List.mem_append_left _ (List.mem_append_left _ (List.mem_append_left _ (List.mem_append_left _ (List.mem_append_right _ h))))))) (by decide +kernel))
set_option maxRecDepth 20000 in
theorem gX10_subscribe_X4_putShip : GoodIn wsX10_subscribe (wsV RX10 165 RX4 yX4_putShip wsX4_putShip) := goodIn_app (goodIn_of _ (by decide +kernel)) ggX10_subscribe_X4_putShip
theorem dX10_subscribe_0 : decode cX10_subscribe 0 = .ok (.aload_n 0, 1) := by decide +kernel
theorem dX10_subscribe_1 : decode cX10_subscribe 1 = .ok (.getfield 10, 3) := by decide +kernel
theorem dX10_subscribe_4 : decode cX10_subscribe 4 = .ok (.iload_n 1, 1) := by decide +kernel
theorem dX10_subscribe_5 : decode cX10_subscribe 5 = .ok (.iload_n 2, 1) := by decide +kernel
theorem dX10_subscribe_6 : decode cX10_subscribe 6 = .ok (.iload_n 3, 1) := by decide +kernel
theorem dX10_subscribe_7 : decode cX10_subscribe 7 = .ok (.invokevirtual 161, 3) := by decide +kernel
theorem dX10_subscribe_10 : decode cX10_subscribe 10 = .ok (.invokestatic 58, 3) := by decide +kernel
theorem dX10_subscribe_13 : decode cX10_subscribe 13 = .ok (.aload_n 0, 1) := by decide +kernel
theorem dX10_subscribe_14 : decode cX10_subscribe 14 = .ok (.getfield 26, 3) := by decide +kernel
theorem dX10_subscribe_17 : decode cX10_subscribe 17 = .ok (.aload_n 0, 1) := by decide +kernel
theorem dX10_subscribe_18 : decode cX10_subscribe 18 = .ok (.getfield 10, 3) := by decide +kernel
theorem dX10_subscribe_21 : decode cX10_subscribe 21 = .ok (.getfield 62, 3) := by decide +kernel
theorem dX10_subscribe_24 : decode cX10_subscribe 24 = .ok (.invokevirtual 65, 3) := by decide +kernel
theorem dX10_subscribe_27 : decode cX10_subscribe 27 = .ok (.aload_n 0, 1) := by decide +kernel
theorem dX10_subscribe_28 : decode cX10_subscribe 28 = .ok (.getfield 10, 3) := by decide +kernel
theorem dX10_subscribe_31 : decode cX10_subscribe 31 = .ok (.iload_n 1, 1) := by decide +kernel
theorem dX10_subscribe_32 : decode cX10_subscribe 32 = .ok (.iload_n 2, 1) := by decide +kernel
theorem dX10_subscribe_33 : decode cX10_subscribe 33 = .ok (.iload_n 3, 1) := by decide +kernel
theorem dX10_subscribe_34 : decode cX10_subscribe 34 = .ok (.invokevirtual 165, 3) := by decide +kernel
theorem dX10_subscribe_37 : decode cX10_subscribe 37 = .ok (.ireturn, 1) := by decide +kernel
set_option maxRecDepth 20000 in
theorem ggX10_leave_X4_leaveFault : GoodIn wsX10_leave wsX4_leaveFault := goodIn_r _ [8, 9, 10, 11, 12, 13, 14, 15, 16, 102, 103, 104, 105, 106, 107, 108, 109, 110, 111, 112, 113, 114, 115, 116, 117, 118] (by decide +kernel) (by decide +kernel)
set_option maxRecDepth 20000 in
theorem gX10_leave_X4_leaveFault : GoodIn wsX10_leave (wsV RX10 168 RX4 yX4_leaveFault wsX4_leaveFault) := goodIn_app (goodIn_of _ (by decide +kernel)) ggX10_leave_X4_leaveFault
set_option maxRecDepth 20000 in
theorem ggX10_leave_X10_refuse : GoodIn wsX10_leave wsX10_refuse := goodIn_ca (goodIn_ca (goodIn_ca (goodIn_ca (goodIn_ca (goodIn_r _ [20, 21, 22, 23, 24, 25, 26, 27, 28, 29, 30] (by decide +kernel) (by decide +kernel)) (goodIn_sub (fun _ h => List.mem_cons_of_mem _ (List.mem_append_left _ (List.mem_append_left _ (List.mem_append_left _ (List.mem_append_left _ (List.mem_append_left _ (List.mem_append_right _ h))))))) (by decide +kernel))) (goodIn_sub (fun _ h => List.mem_cons_of_mem _ (List.mem_append_left _ (List.mem_append_left _ (List.mem_append_left _ (List.mem_append_left _ (List.mem_append_right _ h)))))) (by decide +kernel))) (goodIn_sub (fun _ h => List.mem_cons_of_mem _ (List.mem_append_left _ (List.mem_append_left _ (List.mem_append_left _ (List.mem_append_right _ h))))) (by decide +kernel))) (goodIn_sub (fun _ h => List.mem_cons_of_mem _ (List.mem_append_left _ (List.mem_append_left _ (List.mem_append_right _ h)))) (by decide +kernel))) (goodIn_sub (fun _ h => List.mem_cons_of_mem _ (List.mem_append_left _ (List.mem_append_right _ h))) (by decide +kernel))
set_option maxRecDepth 20000 in
theorem gX10_leave_X10_refuse : GoodIn wsX10_leave (va_wsS RX10 58 yX10_refuse wsX10_refuse) := goodIn_app (goodIn_of _ (by decide +kernel)) ggX10_leave_X10_refuse
set_option maxRecDepth 20000 in
theorem ggX10_leave_X3_keep : GoodIn wsX10_leave wsX3_keep := goodIn_r _ [35, 36, 37, 38, 39, 40, 41, 42, 43, 44, 45, 46, 47, 48, 49, 50, 51, 52, 53, 54, 55, 56, 57, 58, 59, 60, 61, 62, 63, 64, 65, 66, 67, 68, 69, 70, 71, 72, 73, 74, 14, 75, 16, 76, 77, 78, 79, 80, 81, 119, 120, 121, 105, 106, 107, 108, 109, 110, 111, 112, 122, 123, 124, 125, 126, 127, 128, 113, 114, 115, 116, 117, 118] (by decide +kernel) (by decide +kernel)
set_option maxRecDepth 20000 in
theorem gX10_leave_X3_keep : GoodIn wsX10_leave (wsV RX10 65 RX3 yX3_keep wsX3_keep) := goodIn_app (goodIn_of _ (by decide +kernel)) ggX10_leave_X3_keep
set_option maxRecDepth 20000 in
theorem ggX10_leave_X4_letGo : GoodIn wsX10_leave wsX4_letGo := goodIn_ca (goodIn_r _ [85, 9, 10, 86, 87, 88, 89, 90, 14, 91, 16, 76, 78, 79, 80, 81, 92, 12, 13, 15, 102, 103, 104, 105, 106, 107, 108, 109, 110, 111, 112, 113, 114, 115, 116, 117, 118] (by decide +kernel) (by decide +kernel)) (goodIn_sub (fun _ h => List.mem_cons_of_mem _ (List.mem_append_right _ h)) (by decide +kernel))
set_option maxRecDepth 20000 in
theorem gX10_leave_X4_letGo : GoodIn wsX10_leave (wsV RX10 171 RX4 yX4_letGo wsX4_letGo) := goodIn_app (goodIn_of _ (by decide +kernel)) ggX10_leave_X4_letGo
theorem dX10_leave_0 : decode cX10_leave 0 = .ok (.aload_n 0, 1) := by decide +kernel
theorem dX10_leave_1 : decode cX10_leave 1 = .ok (.getfield 10, 3) := by decide +kernel
theorem dX10_leave_4 : decode cX10_leave 4 = .ok (.iload_n 1, 1) := by decide +kernel
theorem dX10_leave_5 : decode cX10_leave 5 = .ok (.invokevirtual 168, 3) := by decide +kernel
theorem dX10_leave_8 : decode cX10_leave 8 = .ok (.invokestatic 58, 3) := by decide +kernel
theorem dX10_leave_11 : decode cX10_leave 11 = .ok (.aload_n 0, 1) := by decide +kernel
theorem dX10_leave_12 : decode cX10_leave 12 = .ok (.getfield 26, 3) := by decide +kernel
theorem dX10_leave_15 : decode cX10_leave 15 = .ok (.aload_n 0, 1) := by decide +kernel
theorem dX10_leave_16 : decode cX10_leave 16 = .ok (.getfield 10, 3) := by decide +kernel
theorem dX10_leave_19 : decode cX10_leave 19 = .ok (.getfield 62, 3) := by decide +kernel
theorem dX10_leave_22 : decode cX10_leave 22 = .ok (.invokevirtual 65, 3) := by decide +kernel
theorem dX10_leave_25 : decode cX10_leave 25 = .ok (.aload_n 0, 1) := by decide +kernel
theorem dX10_leave_26 : decode cX10_leave 26 = .ok (.getfield 10, 3) := by decide +kernel
theorem dX10_leave_29 : decode cX10_leave 29 = .ok (.iload_n 1, 1) := by decide +kernel
theorem dX10_leave_30 : decode cX10_leave 30 = .ok (.invokevirtual 171, 3) := by decide +kernel
theorem dX10_leave_33 : decode cX10_leave 33 = .ok (.ireturn, 1) := by decide +kernel
set_option maxRecDepth 20000 in
theorem ggX10_deposit_X4_payFault : GoodIn wsX10_deposit wsX4_payFault := goodIn_r _ [8, 9, 10, 11, 12, 13, 14, 15, 16, 97, 98, 99, 100, 101, 102, 103, 104, 105, 106, 107, 108, 109, 110, 111, 112, 113] (by decide +kernel) (by decide +kernel)
set_option maxRecDepth 20000 in
theorem gX10_deposit_X4_payFault : GoodIn wsX10_deposit (wsV RX10 174 RX4 yX4_payFault wsX4_payFault) := goodIn_app (goodIn_of _ (by decide +kernel)) ggX10_deposit_X4_payFault
set_option maxRecDepth 20000 in
theorem ggX10_deposit_X10_refuse : GoodIn wsX10_deposit wsX10_refuse := goodIn_ca (goodIn_ca (goodIn_ca (goodIn_ca (goodIn_ca (goodIn_r _ [20, 21, 22, 23, 24, 25, 26, 27, 28, 29, 30] (by decide +kernel) (by decide +kernel)) (goodIn_sub (fun _ h => List.mem_cons_of_mem _ (List.mem_append_left _ (List.mem_append_left _ (List.mem_append_left _ (List.mem_append_left _ (List.mem_append_left _ (List.mem_append_right _ h))))))) (by decide +kernel))) (goodIn_sub (fun _ h => List.mem_cons_of_mem _ (List.mem_append_left _ (List.mem_append_left _ (List.mem_append_left _ (List.mem_append_left _ (List.mem_append_right _ h)))))) (by decide +kernel))) (goodIn_sub (fun _ h => List.mem_cons_of_mem _ (List.mem_append_left _ (List.mem_append_left _ (List.mem_append_left _ (List.mem_append_right _ h))))) (by decide +kernel))) (goodIn_sub (fun _ h => List.mem_cons_of_mem _ (List.mem_append_left _ (List.mem_append_left _ (List.mem_append_right _ h)))) (by decide +kernel))) (goodIn_sub (fun _ h => List.mem_cons_of_mem _ (List.mem_append_left _ (List.mem_append_right _ h))) (by decide +kernel))
set_option maxRecDepth 20000 in
theorem gX10_deposit_X10_refuse : GoodIn wsX10_deposit (va_wsS RX10 58 yX10_refuse wsX10_refuse) := goodIn_app (goodIn_of _ (by decide +kernel)) ggX10_deposit_X10_refuse
set_option maxRecDepth 20000 in
theorem ggX10_deposit_X3_keep : GoodIn wsX10_deposit wsX3_keep := goodIn_r _ [35, 36, 37, 38, 39, 40, 41, 42, 43, 44, 45, 46, 47, 48, 49, 50, 51, 52, 53, 54, 55, 56, 57, 58, 59, 60, 61, 62, 63, 64, 65, 66, 67, 68, 69, 70, 71, 72, 73, 74, 14, 75, 16, 76, 77, 78, 79, 80, 81, 114, 115, 116, 100, 101, 102, 103, 104, 105, 106, 107, 117, 118, 119, 120, 121, 122, 123, 108, 109, 110, 111, 112, 113] (by decide +kernel) (by decide +kernel)
set_option maxRecDepth 20000 in
theorem gX10_deposit_X3_keep : GoodIn wsX10_deposit (wsV RX10 65 RX3 yX3_keep wsX3_keep) := goodIn_app (goodIn_of _ (by decide +kernel)) ggX10_deposit_X3_keep
set_option maxRecDepth 20000 in
theorem ggX10_deposit_X4_payIn : GoodIn wsX10_deposit wsX4_payIn := goodIn_ca (goodIn_r _ [85, 9, 10, 86, 87, 97, 98, 99, 100, 101, 102, 103, 104, 105, 106, 107, 108, 109, 110, 111, 112, 113] (by decide +kernel) (by decide +kernel)) (goodIn_sub (fun _ h => List.mem_cons_of_mem _ (List.mem_append_right _ h)) (by decide +kernel))
set_option maxRecDepth 20000 in
theorem gX10_deposit_X4_payIn : GoodIn wsX10_deposit (wsV RX10 177 RX4 yX4_payIn wsX4_payIn) := goodIn_app (goodIn_of _ (by decide +kernel)) ggX10_deposit_X4_payIn
theorem dX10_deposit_0 : decode cX10_deposit 0 = .ok (.aload_n 0, 1) := by decide +kernel
theorem dX10_deposit_1 : decode cX10_deposit 1 = .ok (.getfield 10, 3) := by decide +kernel
theorem dX10_deposit_4 : decode cX10_deposit 4 = .ok (.iload_n 1, 1) := by decide +kernel
theorem dX10_deposit_5 : decode cX10_deposit 5 = .ok (.iload_n 2, 1) := by decide +kernel
theorem dX10_deposit_6 : decode cX10_deposit 6 = .ok (.invokevirtual 174, 3) := by decide +kernel
theorem dX10_deposit_9 : decode cX10_deposit 9 = .ok (.invokestatic 58, 3) := by decide +kernel
theorem dX10_deposit_12 : decode cX10_deposit 12 = .ok (.aload_n 0, 1) := by decide +kernel
theorem dX10_deposit_13 : decode cX10_deposit 13 = .ok (.getfield 26, 3) := by decide +kernel
theorem dX10_deposit_16 : decode cX10_deposit 16 = .ok (.aload_n 0, 1) := by decide +kernel
theorem dX10_deposit_17 : decode cX10_deposit 17 = .ok (.getfield 10, 3) := by decide +kernel
theorem dX10_deposit_20 : decode cX10_deposit 20 = .ok (.getfield 62, 3) := by decide +kernel
theorem dX10_deposit_23 : decode cX10_deposit 23 = .ok (.invokevirtual 65, 3) := by decide +kernel
theorem dX10_deposit_26 : decode cX10_deposit 26 = .ok (.aload_n 0, 1) := by decide +kernel
theorem dX10_deposit_27 : decode cX10_deposit 27 = .ok (.getfield 10, 3) := by decide +kernel
theorem dX10_deposit_30 : decode cX10_deposit 30 = .ok (.iload_n 1, 1) := by decide +kernel
theorem dX10_deposit_31 : decode cX10_deposit 31 = .ok (.iload_n 2, 1) := by decide +kernel
theorem dX10_deposit_32 : decode cX10_deposit 32 = .ok (.invokevirtual 177, 3) := by decide +kernel
theorem dX10_deposit_35 : decode cX10_deposit 35 = .ok (.ireturn, 1) := by decide +kernel
theorem dX10_subscriberCount_0 : decode cX10_subscriberCount 0 = .ok (.aload_n 0, 1) := by decide +kernel
theorem dX10_subscriberCount_1 : decode cX10_subscriberCount 1 = .ok (.getfield 10, 3) := by decide +kernel
theorem dX10_subscriberCount_4 : decode cX10_subscriberCount 4 = .ok (.getfield 62, 3) := by decide +kernel
theorem dX10_subscriberCount_7 : decode cX10_subscriberCount 7 = .ok (.getfield 180, 3) := by decide +kernel
theorem dX10_subscriberCount_10 : decode cX10_subscriberCount 10 = .ok (.getfield 184, 3) := by decide +kernel
theorem dX10_subscriberCount_13 : decode cX10_subscriberCount 13 = .ok (.ireturn, 1) := by decide +kernel
set_option maxRecDepth 20000 in
theorem ggX10_startOf_X10_checkSubscriber : GoodIn wsX10_startOf wsX10_checkSubscriber := goodIn_ca (goodIn_r _ [9, 10, 11, 1, 2, 3, 12, 13, 14, 15, 16, 17, 18, 19, 20, 21, 22, 23, 24, 25, 26, 27, 28, 29, 30, 31, 32, 33, 34, 35, 36, 37, 38, 39, 40, 41, 42, 43] (by decide +kernel) (by decide +kernel)) (goodIn_sub (fun _ h => List.mem_cons_of_mem _ (List.mem_append_right _ h)) (by decide +kernel))
set_option maxRecDepth 20000 in
theorem gX10_startOf_X10_checkSubscriber : GoodIn wsX10_startOf (wsV RX10 189 RX10 yX10_checkSubscriber wsX10_checkSubscriber) := goodIn_app (goodIn_of _ (by decide +kernel)) ggX10_startOf_X10_checkSubscriber
theorem dX10_startOf_0 : decode cX10_startOf 0 = .ok (.aload_n 0, 1) := by decide +kernel
theorem dX10_startOf_1 : decode cX10_startOf 1 = .ok (.iload_n 1, 1) := by decide +kernel
theorem dX10_startOf_2 : decode cX10_startOf 2 = .ok (.invokevirtual 189, 3) := by decide +kernel
theorem dX10_startOf_5 : decode cX10_startOf 5 = .ok (.aload_n 0, 1) := by decide +kernel
theorem dX10_startOf_6 : decode cX10_startOf 6 = .ok (.getfield 10, 3) := by decide +kernel
theorem dX10_startOf_9 : decode cX10_startOf 9 = .ok (.getfield 62, 3) := by decide +kernel
theorem dX10_startOf_12 : decode cX10_startOf 12 = .ok (.getfield 180, 3) := by decide +kernel
theorem dX10_startOf_15 : decode cX10_startOf 15 = .ok (.getfield 192, 3) := by decide +kernel
theorem dX10_startOf_18 : decode cX10_startOf 18 = .ok (.iload_n 1, 1) := by decide +kernel
theorem dX10_startOf_19 : decode cX10_startOf 19 = .ok (.iaload, 1) := by decide +kernel
theorem dX10_startOf_20 : decode cX10_startOf 20 = .ok (.ireturn, 1) := by decide +kernel
set_option maxRecDepth 20000 in
theorem ggX10_goalOf_X10_checkSubscriber : GoodIn wsX10_goalOf wsX10_checkSubscriber := goodIn_ca (goodIn_r _ [9, 10, 11, 1, 2, 3, 12, 13, 14, 15, 16, 17, 18, 19, 20, 21, 22, 23, 24, 25, 26, 27, 28, 29, 30, 31, 32, 33, 34, 35, 36, 37, 38, 39, 40, 41, 42, 43] (by decide +kernel) (by decide +kernel)) (goodIn_sub (fun _ h => List.mem_cons_of_mem _ (List.mem_append_right _ h)) (by decide +kernel))
set_option maxRecDepth 20000 in
theorem gX10_goalOf_X10_checkSubscriber : GoodIn wsX10_goalOf (wsV RX10 189 RX10 yX10_checkSubscriber wsX10_checkSubscriber) := goodIn_app (goodIn_of _ (by decide +kernel)) ggX10_goalOf_X10_checkSubscriber
theorem dX10_goalOf_0 : decode cX10_goalOf 0 = .ok (.aload_n 0, 1) := by decide +kernel
theorem dX10_goalOf_1 : decode cX10_goalOf 1 = .ok (.iload_n 1, 1) := by decide +kernel
theorem dX10_goalOf_2 : decode cX10_goalOf 2 = .ok (.invokevirtual 189, 3) := by decide +kernel
theorem dX10_goalOf_5 : decode cX10_goalOf 5 = .ok (.aload_n 0, 1) := by decide +kernel
theorem dX10_goalOf_6 : decode cX10_goalOf 6 = .ok (.getfield 10, 3) := by decide +kernel
theorem dX10_goalOf_9 : decode cX10_goalOf 9 = .ok (.getfield 62, 3) := by decide +kernel
theorem dX10_goalOf_12 : decode cX10_goalOf 12 = .ok (.getfield 180, 3) := by decide +kernel
theorem dX10_goalOf_15 : decode cX10_goalOf 15 = .ok (.getfield 195, 3) := by decide +kernel
theorem dX10_goalOf_18 : decode cX10_goalOf 18 = .ok (.iload_n 1, 1) := by decide +kernel
theorem dX10_goalOf_19 : decode cX10_goalOf 19 = .ok (.iaload, 1) := by decide +kernel
theorem dX10_goalOf_20 : decode cX10_goalOf 20 = .ok (.ireturn, 1) := by decide +kernel
set_option maxRecDepth 20000 in
theorem ggX10_moneyOf_X10_checkSubscriber : GoodIn wsX10_moneyOf wsX10_checkSubscriber := goodIn_ca (goodIn_r _ [9, 10, 11, 1, 2, 3, 12, 13, 14, 15, 16, 17, 18, 19, 20, 21, 22, 23, 24, 25, 26, 27, 28, 29, 30, 31, 32, 33, 34, 35, 36, 37, 38, 39, 40, 41, 42, 43] (by decide +kernel) (by decide +kernel)) (goodIn_sub (fun _ h => List.mem_cons_of_mem _ (List.mem_append_right _ h)) (by decide +kernel))
set_option maxRecDepth 20000 in
theorem gX10_moneyOf_X10_checkSubscriber : GoodIn wsX10_moneyOf (wsV RX10 189 RX10 yX10_checkSubscriber wsX10_checkSubscriber) := goodIn_app (goodIn_of _ (by decide +kernel)) ggX10_moneyOf_X10_checkSubscriber
theorem dX10_moneyOf_0 : decode cX10_moneyOf 0 = .ok (.aload_n 0, 1) := by decide +kernel
theorem dX10_moneyOf_1 : decode cX10_moneyOf 1 = .ok (.iload_n 1, 1) := by decide +kernel
theorem dX10_moneyOf_2 : decode cX10_moneyOf 2 = .ok (.invokevirtual 189, 3) := by decide +kernel
theorem dX10_moneyOf_5 : decode cX10_moneyOf 5 = .ok (.aload_n 0, 1) := by decide +kernel
theorem dX10_moneyOf_6 : decode cX10_moneyOf 6 = .ok (.getfield 10, 3) := by decide +kernel
theorem dX10_moneyOf_9 : decode cX10_moneyOf 9 = .ok (.getfield 62, 3) := by decide +kernel
theorem dX10_moneyOf_12 : decode cX10_moneyOf 12 = .ok (.getfield 180, 3) := by decide +kernel
theorem dX10_moneyOf_15 : decode cX10_moneyOf 15 = .ok (.getfield 198, 3) := by decide +kernel
theorem dX10_moneyOf_18 : decode cX10_moneyOf 18 = .ok (.iload_n 1, 1) := by decide +kernel
theorem dX10_moneyOf_19 : decode cX10_moneyOf 19 = .ok (.iaload, 1) := by decide +kernel
theorem dX10_moneyOf_20 : decode cX10_moneyOf 20 = .ok (.ireturn, 1) := by decide +kernel
set_option maxRecDepth 20000 in
theorem ggX10_needOf_X10_checkSubscriber : GoodIn wsX10_needOf wsX10_checkSubscriber := goodIn_ca (goodIn_r _ [6, 7, 8, 1, 9, 10, 11, 12, 13, 14, 15, 16, 51, 52, 53, 54, 55, 56, 57, 58, 59, 60, 61, 62, 63, 64, 65, 66, 67, 68, 69, 70, 71, 72, 73, 74, 75, 76] (by decide +kernel) (by decide +kernel)) (goodIn_sub (fun _ h => List.mem_cons_of_mem _ (List.mem_append_left _ (List.mem_append_left _ (List.mem_append_right _ h)))) (by decide +kernel))
set_option maxRecDepth 20000 in
theorem gX10_needOf_X10_checkSubscriber : GoodIn wsX10_needOf (wsV RX10 189 RX10 yX10_checkSubscriber wsX10_checkSubscriber) := goodIn_app (goodIn_of _ (by decide +kernel)) ggX10_needOf_X10_checkSubscriber
set_option maxRecDepth 20000 in
theorem ggX10_needOf_X4_findNeed : GoodIn wsX10_needOf wsX4_findNeed := goodIn_ca (goodIn_r _ [21, 22, 23, 24, 25, 26, 27, 28, 29, 30, 31, 32, 33, 34, 35, 36, 37, 38, 39, 40, 41, 42, 43, 44, 45, 60, 61, 62, 63, 64, 65, 66, 67, 68, 69, 70, 71, 72, 73, 74, 75, 76, 77, 78, 79, 80, 81, 82, 83, 84, 85, 86] (by decide +kernel) (by decide +kernel)) (goodIn_sub (fun _ h => List.mem_cons_of_mem _ (List.mem_append_left _ (List.mem_append_right _ h))) (by decide +kernel))
set_option maxRecDepth 20000 in
theorem gX10_needOf_X4_findNeed : GoodIn wsX10_needOf (wsV RX10 201 RX4 yX4_findNeed wsX4_findNeed) := goodIn_app (goodIn_of _ (by decide +kernel)) ggX10_needOf_X4_findNeed
set_option maxRecDepth 20000 in
theorem ggX10_needOf_X10_found : GoodIn wsX10_needOf wsX10_found := goodIn_ca (goodIn_r _ [48, 49, 50] (by decide +kernel) (by decide +kernel)) (goodIn_sub (fun _ h => List.mem_cons_of_mem _ (List.mem_append_right _ h)) (by decide +kernel))
set_option maxRecDepth 20000 in
theorem gX10_needOf_X10_found : GoodIn wsX10_needOf (va_wsS RX10 140 yX10_found wsX10_found) := goodIn_app (goodIn_of _ (by decide +kernel)) ggX10_needOf_X10_found
theorem dX10_needOf_0 : decode cX10_needOf 0 = .ok (.aload_n 0, 1) := by decide +kernel
theorem dX10_needOf_1 : decode cX10_needOf 1 = .ok (.iload_n 1, 1) := by decide +kernel
theorem dX10_needOf_2 : decode cX10_needOf 2 = .ok (.invokevirtual 189, 3) := by decide +kernel
theorem dX10_needOf_5 : decode cX10_needOf 5 = .ok (.aload_n 0, 1) := by decide +kernel
theorem dX10_needOf_6 : decode cX10_needOf 6 = .ok (.getfield 10, 3) := by decide +kernel
theorem dX10_needOf_9 : decode cX10_needOf 9 = .ok (.iload_n 1, 1) := by decide +kernel
theorem dX10_needOf_10 : decode cX10_needOf 10 = .ok (.invokevirtual 201, 3) := by decide +kernel
theorem dX10_needOf_13 : decode cX10_needOf 13 = .ok (.invokestatic 140, 3) := by decide +kernel
theorem dX10_needOf_16 : decode cX10_needOf 16 = .ok (.ireturn, 1) := by decide +kernel
set_option maxRecDepth 20000 in
theorem ggX10_litNightsOf_X10_checkSubscriber : GoodIn wsX10_litNightsOf wsX10_checkSubscriber := goodIn_ca (goodIn_r _ [9, 10, 11, 1, 2, 3, 12, 13, 14, 15, 16, 17, 18, 19, 20, 21, 22, 23, 24, 25, 26, 27, 28, 29, 30, 31, 32, 33, 34, 35, 36, 37, 38, 39, 40, 41, 42, 43] (by decide +kernel) (by decide +kernel)) (goodIn_sub (fun _ h => List.mem_cons_of_mem _ (List.mem_append_right _ h)) (by decide +kernel))
set_option maxRecDepth 20000 in
theorem gX10_litNightsOf_X10_checkSubscriber : GoodIn wsX10_litNightsOf (wsV RX10 189 RX10 yX10_checkSubscriber wsX10_checkSubscriber) := goodIn_app (goodIn_of _ (by decide +kernel)) ggX10_litNightsOf_X10_checkSubscriber
theorem dX10_litNightsOf_0 : decode cX10_litNightsOf 0 = .ok (.aload_n 0, 1) := by decide +kernel
theorem dX10_litNightsOf_1 : decode cX10_litNightsOf 1 = .ok (.iload_n 1, 1) := by decide +kernel
theorem dX10_litNightsOf_2 : decode cX10_litNightsOf 2 = .ok (.invokevirtual 189, 3) := by decide +kernel
theorem dX10_litNightsOf_5 : decode cX10_litNightsOf 5 = .ok (.aload_n 0, 1) := by decide +kernel
theorem dX10_litNightsOf_6 : decode cX10_litNightsOf 6 = .ok (.getfield 10, 3) := by decide +kernel
theorem dX10_litNightsOf_9 : decode cX10_litNightsOf 9 = .ok (.getfield 62, 3) := by decide +kernel
theorem dX10_litNightsOf_12 : decode cX10_litNightsOf 12 = .ok (.getfield 180, 3) := by decide +kernel
theorem dX10_litNightsOf_15 : decode cX10_litNightsOf 15 = .ok (.getfield 204, 3) := by decide +kernel
theorem dX10_litNightsOf_18 : decode cX10_litNightsOf 18 = .ok (.iload_n 1, 1) := by decide +kernel
theorem dX10_litNightsOf_19 : decode cX10_litNightsOf 19 = .ok (.iaload, 1) := by decide +kernel
theorem dX10_litNightsOf_20 : decode cX10_litNightsOf 20 = .ok (.ireturn, 1) := by decide +kernel
set_option maxRecDepth 20000 in
theorem ggX10_darkNightsOf_X10_checkSubscriber : GoodIn wsX10_darkNightsOf wsX10_checkSubscriber := goodIn_ca (goodIn_r _ [9, 10, 11, 1, 2, 3, 12, 13, 14, 15, 16, 17, 18, 19, 20, 21, 22, 23, 24, 25, 26, 27, 28, 29, 30, 31, 32, 33, 34, 35, 36, 37, 38, 39, 40, 41, 42, 43] (by decide +kernel) (by decide +kernel)) (goodIn_sub (fun _ h => List.mem_cons_of_mem _ (List.mem_append_right _ h)) (by decide +kernel))
set_option maxRecDepth 20000 in
theorem gX10_darkNightsOf_X10_checkSubscriber : GoodIn wsX10_darkNightsOf (wsV RX10 189 RX10 yX10_checkSubscriber wsX10_checkSubscriber) := goodIn_app (goodIn_of _ (by decide +kernel)) ggX10_darkNightsOf_X10_checkSubscriber
theorem dX10_darkNightsOf_0 : decode cX10_darkNightsOf 0 = .ok (.aload_n 0, 1) := by decide +kernel
theorem dX10_darkNightsOf_1 : decode cX10_darkNightsOf 1 = .ok (.iload_n 1, 1) := by decide +kernel
theorem dX10_darkNightsOf_2 : decode cX10_darkNightsOf 2 = .ok (.invokevirtual 189, 3) := by decide +kernel
theorem dX10_darkNightsOf_5 : decode cX10_darkNightsOf 5 = .ok (.aload_n 0, 1) := by decide +kernel
theorem dX10_darkNightsOf_6 : decode cX10_darkNightsOf 6 = .ok (.getfield 10, 3) := by decide +kernel
theorem dX10_darkNightsOf_9 : decode cX10_darkNightsOf 9 = .ok (.getfield 62, 3) := by decide +kernel
theorem dX10_darkNightsOf_12 : decode cX10_darkNightsOf 12 = .ok (.getfield 180, 3) := by decide +kernel
theorem dX10_darkNightsOf_15 : decode cX10_darkNightsOf 15 = .ok (.getfield 207, 3) := by decide +kernel
theorem dX10_darkNightsOf_18 : decode cX10_darkNightsOf 18 = .ok (.iload_n 1, 1) := by decide +kernel
theorem dX10_darkNightsOf_19 : decode cX10_darkNightsOf 19 = .ok (.iaload, 1) := by decide +kernel
theorem dX10_darkNightsOf_20 : decode cX10_darkNightsOf 20 = .ok (.ireturn, 1) := by decide +kernel
set_option maxRecDepth 20000 in
theorem ggX10_shareOf_X10_checkSubscriber : GoodIn wsX10_shareOf wsX10_checkSubscriber := goodIn_ca (goodIn_r _ [8, 9, 10, 1, 11, 12, 13, 14, 15, 16, 17, 18, 90, 91, 92, 93, 94, 95, 96, 97, 98, 99, 100, 101, 107, 108, 109, 110, 111, 112, 113, 114, 115, 116, 117, 118, 119, 120] (by decide +kernel) (by decide +kernel)) (goodIn_sub (fun _ h => List.mem_cons_of_mem _ (List.mem_append_left _ (List.mem_append_left _ (List.mem_append_right _ h)))) (by decide +kernel))
set_option maxRecDepth 20000 in
theorem gX10_shareOf_X10_checkSubscriber : GoodIn wsX10_shareOf (wsV RX10 189 RX10 yX10_checkSubscriber wsX10_checkSubscriber) := goodIn_app (goodIn_of _ (by decide +kernel)) ggX10_shareOf_X10_checkSubscriber
set_option maxRecDepth 20000 in
theorem ggX10_shareOf_X4_gatherAll : GoodIn wsX10_shareOf wsX4_gatherAll := goodIn_ca (goodIn_r _ [23, 24, 25, 26, 27, 28, 29, 30, 31, 32, 33, 34, 35, 36, 37, 38, 39, 40, 41, 42, 43, 44, 45, 46, 47, 48, 49, 50, 51, 52, 53, 54, 55, 56, 57, 58, 59, 60, 99, 100, 101, 107, 108, 109, 110, 111, 112, 113, 114, 115, 116, 117, 118, 119, 120, 102, 103, 104, 105, 106, 121, 122, 123, 124, 125, 126, 127, 128, 129, 130] (by decide +kernel) (by decide +kernel)) (goodIn_sub (fun _ h => List.mem_cons_of_mem _ (List.mem_append_left _ (List.mem_append_left _ (List.mem_append_left _ (List.mem_append_right _ h))))) (by decide +kernel))
set_option maxRecDepth 20000 in
theorem gX10_shareOf_X4_gatherAll : GoodIn wsX10_shareOf (wsV RX10 210 RX4 yX4_gatherAll wsX4_gatherAll) := goodIn_app (goodIn_of _ (by decide +kernel)) ggX10_shareOf_X4_gatherAll
set_option maxRecDepth 20000 in
theorem ggX10_shareOf_X7_divide : GoodIn wsX10_shareOf wsX7_divide := goodIn_ca (goodIn_ca (goodIn_r _ [64, 65, 37, 66, 67, 68, 35, 69, 60, 70, 71, 72, 73, 74, 75, 76, 77, 78, 79, 80, 81, 82, 83, 84, 102, 103, 104, 105, 106] (by decide +kernel) (by decide +kernel)) (goodIn_sub (fun _ h => List.mem_cons_of_mem _ (List.mem_append_left _ (List.mem_append_left _ (List.mem_append_left _ (List.mem_append_right _ h))))) (by decide +kernel))) (goodIn_sub (fun _ h => List.mem_cons_of_mem _ (List.mem_append_left _ (List.mem_append_right _ h))) (by decide +kernel))
set_option maxRecDepth 20000 in
theorem gX10_shareOf_X7_divide : GoodIn wsX10_shareOf (wsV RX10 217 RX7 yX7_divide wsX7_divide) := goodIn_app (goodIn_of _ (by decide +kernel)) ggX10_shareOf_X7_divide
set_option maxRecDepth 20000 in
theorem ggX10_shareOf_X10_found : GoodIn wsX10_shareOf wsX10_found := goodIn_ca (goodIn_r _ [87, 88, 89] (by decide +kernel) (by decide +kernel)) (goodIn_sub (fun _ h => List.mem_cons_of_mem _ (List.mem_append_right _ h)) (by decide +kernel))
set_option maxRecDepth 20000 in
theorem gX10_shareOf_X10_found : GoodIn wsX10_shareOf (va_wsS RX10 140 yX10_found wsX10_found) := goodIn_app (goodIn_of _ (by decide +kernel)) ggX10_shareOf_X10_found
theorem dX10_shareOf_0 : decode cX10_shareOf 0 = .ok (.aload_n 0, 1) := by decide +kernel
theorem dX10_shareOf_1 : decode cX10_shareOf 1 = .ok (.iload_n 1, 1) := by decide +kernel
theorem dX10_shareOf_2 : decode cX10_shareOf 2 = .ok (.invokevirtual 189, 3) := by decide +kernel
theorem dX10_shareOf_5 : decode cX10_shareOf 5 = .ok (.aload_n 0, 1) := by decide +kernel
theorem dX10_shareOf_6 : decode cX10_shareOf 6 = .ok (.getfield 10, 3) := by decide +kernel
theorem dX10_shareOf_9 : decode cX10_shareOf 9 = .ok (.invokevirtual 210, 3) := by decide +kernel
theorem dX10_shareOf_12 : decode cX10_shareOf 12 = .ok (.aload_n 0, 1) := by decide +kernel
theorem dX10_shareOf_13 : decode cX10_shareOf 13 = .ok (.getfield 10, 3) := by decide +kernel
theorem dX10_shareOf_16 : decode cX10_shareOf 16 = .ok (.getfield 213, 3) := by decide +kernel
theorem dX10_shareOf_19 : decode cX10_shareOf 19 = .ok (.invokevirtual 217, 3) := by decide +kernel
theorem dX10_shareOf_22 : decode cX10_shareOf 22 = .ok (.aload_n 0, 1) := by decide +kernel
theorem dX10_shareOf_23 : decode cX10_shareOf 23 = .ok (.getfield 10, 3) := by decide +kernel
theorem dX10_shareOf_26 : decode cX10_shareOf 26 = .ok (.getfield 213, 3) := by decide +kernel
theorem dX10_shareOf_29 : decode cX10_shareOf 29 = .ok (.getfield 222, 3) := by decide +kernel
theorem dX10_shareOf_32 : decode cX10_shareOf 32 = .ok (.iload_n 1, 1) := by decide +kernel
theorem dX10_shareOf_33 : decode cX10_shareOf 33 = .ok (.iaload, 1) := by decide +kernel
theorem dX10_shareOf_34 : decode cX10_shareOf 34 = .ok (.invokestatic 140, 3) := by decide +kernel
theorem dX10_shareOf_37 : decode cX10_shareOf 37 = .ok (.ireturn, 1) := by decide +kernel
set_option maxRecDepth 20000 in
theorem ggX10_shareByOrders_X10_checkSubscriber : GoodIn wsX10_shareByOrders wsX10_checkSubscriber := goodIn_ca (goodIn_r _ [7, 8, 9, 1, 10, 11, 12, 13, 14, 15, 16, 17, 94, 95, 96, 97, 98, 99, 100, 101, 102, 103, 104, 105, 106, 107, 108, 109, 110, 111, 112, 113, 114, 115, 116, 117, 118, 119] (by decide +kernel) (by decide +kernel)) (goodIn_sub (fun _ h => List.mem_cons_of_mem _ (List.mem_append_left _ (List.mem_append_left _ (List.mem_append_left _ (List.mem_append_right _ h))))) (by decide +kernel))
set_option maxRecDepth 20000 in
theorem gX10_shareByOrders_X10_checkSubscriber : GoodIn wsX10_shareByOrders (wsV RX10 189 RX10 yX10_checkSubscriber wsX10_checkSubscriber) := goodIn_app (goodIn_of _ (by decide +kernel)) ggX10_shareByOrders_X10_checkSubscriber
set_option maxRecDepth 20000 in
theorem ggX10_shareByOrders_X4_gatherAll : GoodIn wsX10_shareByOrders wsX4_gatherAll := goodIn_ca (goodIn_r _ [22, 23, 24, 25, 26, 27, 28, 29, 30, 31, 32, 33, 34, 35, 36, 37, 38, 39, 40, 41, 42, 43, 44, 45, 46, 47, 48, 49, 50, 51, 52, 53, 54, 55, 56, 57, 58, 59, 103, 104, 105, 106, 107, 108, 109, 110, 111, 112, 113, 114, 115, 116, 117, 118, 119, 120, 121, 122, 123, 124, 125, 126, 127, 128, 129, 130, 131, 132, 133, 134] (by decide +kernel) (by decide +kernel)) (goodIn_sub (fun _ h => List.mem_cons_of_mem _ (List.mem_append_left _ (List.mem_append_left _ (List.mem_append_right _ h)))) (by decide +kernel))
set_option maxRecDepth 20000 in
theorem gX10_shareByOrders_X4_gatherAll : GoodIn wsX10_shareByOrders (wsV RX10 210 RX4 yX4_gatherAll wsX4_gatherAll) := goodIn_app (goodIn_of _ (by decide +kernel)) ggX10_shareByOrders_X4_gatherAll
set_option maxRecDepth 20000 in
theorem ggX10_shareByOrders_X7_meanOverOrders : GoodIn wsX10_shareByOrders wsX7_meanOverOrders := goodIn_ca (goodIn_ca (goodIn_r _ [63, 36, 64, 65, 66, 34, 67, 68, 69, 70, 71, 72, 73, 59, 74, 75, 76, 77, 78, 79, 80, 81, 82, 83, 84, 85, 86, 87, 88, 120, 121, 122, 123, 124] (by decide +kernel) (by decide +kernel)) (goodIn_sub (fun _ h => List.mem_cons_of_mem _ (List.mem_append_left _ (List.mem_append_left _ (List.mem_append_right _ h)))) (by decide +kernel))) (goodIn_sub (fun _ h => List.mem_cons_of_mem _ (List.mem_append_left _ (List.mem_append_right _ h))) (by decide +kernel))
set_option maxRecDepth 20000 in
theorem gX10_shareByOrders_X7_meanOverOrders : GoodIn wsX10_shareByOrders (wsV RX10 225 RX7 yX7_meanOverOrders wsX7_meanOverOrders) := goodIn_app (goodIn_of _ (by decide +kernel)) ggX10_shareByOrders_X7_meanOverOrders
set_option maxRecDepth 20000 in
theorem ggX10_shareByOrders_X10_found : GoodIn wsX10_shareByOrders wsX10_found := goodIn_ca (goodIn_r _ [91, 92, 93] (by decide +kernel) (by decide +kernel)) (goodIn_sub (fun _ h => List.mem_cons_of_mem _ (List.mem_append_right _ h)) (by decide +kernel))
set_option maxRecDepth 20000 in
theorem gX10_shareByOrders_X10_found : GoodIn wsX10_shareByOrders (va_wsS RX10 140 yX10_found wsX10_found) := goodIn_app (goodIn_of _ (by decide +kernel)) ggX10_shareByOrders_X10_found
theorem dX10_shareByOrders_0 : decode cX10_shareByOrders 0 = .ok (.aload_n 0, 1) := by decide +kernel
theorem dX10_shareByOrders_1 : decode cX10_shareByOrders 1 = .ok (.iload_n 1, 1) := by decide +kernel
theorem dX10_shareByOrders_2 : decode cX10_shareByOrders 2 = .ok (.invokevirtual 189, 3) := by decide +kernel
theorem dX10_shareByOrders_5 : decode cX10_shareByOrders 5 = .ok (.aload_n 0, 1) := by decide +kernel
theorem dX10_shareByOrders_6 : decode cX10_shareByOrders 6 = .ok (.getfield 10, 3) := by decide +kernel
theorem dX10_shareByOrders_9 : decode cX10_shareByOrders 9 = .ok (.invokevirtual 210, 3) := by decide +kernel
theorem dX10_shareByOrders_12 : decode cX10_shareByOrders 12 = .ok (.aload_n 0, 1) := by decide +kernel
theorem dX10_shareByOrders_13 : decode cX10_shareByOrders 13 = .ok (.getfield 10, 3) := by decide +kernel
theorem dX10_shareByOrders_16 : decode cX10_shareByOrders 16 = .ok (.getfield 213, 3) := by decide +kernel
theorem dX10_shareByOrders_19 : decode cX10_shareByOrders 19 = .ok (.iload_n 1, 1) := by decide +kernel
theorem dX10_shareByOrders_20 : decode cX10_shareByOrders 20 = .ok (.invokevirtual 225, 3) := by decide +kernel
theorem dX10_shareByOrders_23 : decode cX10_shareByOrders 23 = .ok (.invokestatic 140, 3) := by decide +kernel
theorem dX10_shareByOrders_26 : decode cX10_shareByOrders 26 = .ok (.ireturn, 1) := by decide +kernel
set_option maxRecDepth 20000 in
theorem ggX10_subscriberByDark_X8_atDarkRank : GoodIn wsX10_subscriberByDark wsX8_atDarkRank := goodIn_ca (goodIn_r _ [8, 9, 10, 11, 12, 7, 13, 14, 41, 42, 43, 44, 45, 46] (by decide +kernel) (by decide +kernel)) (goodIn_sub (fun _ h => List.mem_cons_of_mem _ (List.mem_append_left _ (List.mem_append_right _ h))) (by decide +kernel))
set_option maxRecDepth 20000 in
theorem gX10_subscriberByDark_X8_atDarkRank : GoodIn wsX10_subscriberByDark (wsV RX10 228 RX8 yX8_atDarkRank wsX8_atDarkRank) := goodIn_app (goodIn_of _ (by decide +kernel)) ggX10_subscriberByDark_X8_atDarkRank
set_option maxRecDepth 20000 in
theorem ggX10_subscriberByDark_X10_found : GoodIn wsX10_subscriberByDark wsX10_found := goodIn_ca (goodIn_r _ [18, 19, 20] (by decide +kernel) (by decide +kernel)) (goodIn_sub (fun _ h => List.mem_cons_of_mem _ (List.mem_append_right _ h)) (by decide +kernel))
set_option maxRecDepth 20000 in
theorem gX10_subscriberByDark_X10_found : GoodIn wsX10_subscriberByDark (va_wsS RX10 140 yX10_found wsX10_found) := goodIn_app (goodIn_of _ (by decide +kernel)) ggX10_subscriberByDark_X10_found
theorem dX10_subscriberByDark_0 : decode cX10_subscriberByDark 0 = .ok (.aload_n 0, 1) := by decide +kernel
theorem dX10_subscriberByDark_1 : decode cX10_subscriberByDark 1 = .ok (.getfield 10, 3) := by decide +kernel
theorem dX10_subscriberByDark_4 : decode cX10_subscriberByDark 4 = .ok (.getfield 62, 3) := by decide +kernel
theorem dX10_subscriberByDark_7 : decode cX10_subscriberByDark 7 = .ok (.getfield 180, 3) := by decide +kernel
theorem dX10_subscriberByDark_10 : decode cX10_subscriberByDark 10 = .ok (.iload_n 1, 1) := by decide +kernel
theorem dX10_subscriberByDark_11 : decode cX10_subscriberByDark 11 = .ok (.invokevirtual 228, 3) := by decide +kernel
theorem dX10_subscriberByDark_14 : decode cX10_subscriberByDark 14 = .ok (.invokestatic 140, 3) := by decide +kernel
theorem dX10_subscriberByDark_17 : decode cX10_subscriberByDark 17 = .ok (.ireturn, 1) := by decide +kernel
set_option maxRecDepth 20000 in
theorem ggX10_setFog_X4_fogFault : GoodIn wsX10_setFog wsX4_fogFault := goodIn_r _ [8] (by decide +kernel) (by decide +kernel)
set_option maxRecDepth 20000 in
theorem gX10_setFog_X4_fogFault : GoodIn wsX10_setFog (wsV RX10 231 RX4 yX4_fogFault wsX4_fogFault) := goodIn_app (goodIn_of _ (by decide +kernel)) ggX10_setFog_X4_fogFault
set_option maxRecDepth 20000 in
theorem ggX10_setFog_X10_refuse : GoodIn wsX10_setFog wsX10_refuse := goodIn_ca (goodIn_ca (goodIn_ca (goodIn_ca (goodIn_ca (goodIn_r _ [12, 13, 14, 15, 16, 17, 18, 19, 20, 21, 22] (by decide +kernel) (by decide +kernel)) (goodIn_sub (fun _ h => List.mem_cons_of_mem _ (List.mem_append_left _ (List.mem_append_left _ (List.mem_append_left _ (List.mem_append_left _ (List.mem_append_right _ h)))))) (by decide +kernel))) (goodIn_sub (fun _ h => List.mem_cons_of_mem _ (List.mem_append_left _ (List.mem_append_left _ (List.mem_append_left _ (List.mem_append_right _ h))))) (by decide +kernel))) (goodIn_sub (fun _ h => List.mem_cons_of_mem _ (List.mem_append_left _ (List.mem_append_left _ (List.mem_append_right _ h)))) (by decide +kernel))) (goodIn_sub (fun _ h => List.mem_cons_of_mem _ (List.mem_append_left _ (List.mem_append_right _ h))) (by decide +kernel))) (goodIn_sub (fun _ h => List.mem_cons_of_mem _ (List.mem_append_right _ h)) (by decide +kernel))
set_option maxRecDepth 20000 in
theorem gX10_setFog_X10_refuse : GoodIn wsX10_setFog (va_wsS RX10 58 yX10_refuse wsX10_refuse) := goodIn_app (goodIn_of _ (by decide +kernel)) ggX10_setFog_X10_refuse
set_option maxRecDepth 20000 in
theorem ggX10_setFog_X3_keep : GoodIn wsX10_setFog wsX3_keep := goodIn_r _ [27, 28, 29, 30, 31, 32, 33, 34, 35, 36, 37, 38, 39, 40, 41, 42, 43, 44, 45, 46, 47, 48, 49, 50, 51, 52, 53, 54, 55, 56, 57, 58, 59, 60, 61, 62, 63, 64, 65, 66, 67, 68, 69, 70, 71, 72, 73, 74, 75, 94, 95, 96, 97, 98, 99, 100, 101, 102, 103, 104, 105, 106, 107, 108, 109, 110, 111, 112, 113, 114, 115, 116, 117] (by decide +kernel) (by decide +kernel)
set_option maxRecDepth 20000 in
theorem gX10_setFog_X3_keep : GoodIn wsX10_setFog (wsV RX10 65 RX3 yX3_keep wsX3_keep) := goodIn_app (goodIn_of _ (by decide +kernel)) ggX10_setFog_X3_keep
set_option maxRecDepth 20000 in
theorem ggX10_setFog_X4_putFog : GoodIn wsX10_setFog wsX4_putFog := goodIn_r _ [79, 80, 81, 91, 92, 93, 97, 98, 99, 100, 101, 102, 103, 104] (by decide +kernel) (by decide +kernel)
set_option maxRecDepth 20000 in
theorem gX10_setFog_X4_putFog : GoodIn wsX10_setFog (wsV RX10 234 RX4 yX4_putFog wsX4_putFog) := goodIn_app (goodIn_of _ (by decide +kernel)) ggX10_setFog_X4_putFog
theorem dX10_setFog_0 : decode cX10_setFog 0 = .ok (.aload_n 0, 1) := by decide +kernel
theorem dX10_setFog_1 : decode cX10_setFog 1 = .ok (.getfield 10, 3) := by decide +kernel
theorem dX10_setFog_4 : decode cX10_setFog 4 = .ok (.iload_n 1, 1) := by decide +kernel
theorem dX10_setFog_5 : decode cX10_setFog 5 = .ok (.invokevirtual 231, 3) := by decide +kernel
theorem dX10_setFog_8 : decode cX10_setFog 8 = .ok (.invokestatic 58, 3) := by decide +kernel
theorem dX10_setFog_11 : decode cX10_setFog 11 = .ok (.aload_n 0, 1) := by decide +kernel
theorem dX10_setFog_12 : decode cX10_setFog 12 = .ok (.getfield 26, 3) := by decide +kernel
theorem dX10_setFog_15 : decode cX10_setFog 15 = .ok (.aload_n 0, 1) := by decide +kernel
theorem dX10_setFog_16 : decode cX10_setFog 16 = .ok (.getfield 10, 3) := by decide +kernel
theorem dX10_setFog_19 : decode cX10_setFog 19 = .ok (.getfield 62, 3) := by decide +kernel
theorem dX10_setFog_22 : decode cX10_setFog 22 = .ok (.invokevirtual 65, 3) := by decide +kernel
theorem dX10_setFog_25 : decode cX10_setFog 25 = .ok (.aload_n 0, 1) := by decide +kernel
theorem dX10_setFog_26 : decode cX10_setFog 26 = .ok (.getfield 10, 3) := by decide +kernel
theorem dX10_setFog_29 : decode cX10_setFog 29 = .ok (.iload_n 1, 1) := by decide +kernel
theorem dX10_setFog_30 : decode cX10_setFog 30 = .ok (.invokevirtual 234, 3) := by decide +kernel
theorem dX10_setFog_33 : decode cX10_setFog 33 = .ok (.ireturn, 1) := by decide +kernel
theorem dX10_fogNights_0 : decode cX10_fogNights 0 = .ok (.aload_n 0, 1) := by decide +kernel
theorem dX10_fogNights_1 : decode cX10_fogNights 1 = .ok (.getfield 10, 3) := by decide +kernel
theorem dX10_fogNights_4 : decode cX10_fogNights 4 = .ok (.getfield 62, 3) := by decide +kernel
theorem dX10_fogNights_7 : decode cX10_fogNights 7 = .ok (.getfield 237, 3) := by decide +kernel
theorem dX10_fogNights_10 : decode cX10_fogNights 10 = .ok (.ireturn, 1) := by decide +kernel
set_option maxRecDepth 20000 in
theorem ggX10_night_X3_keep : GoodIn wsX10_night wsX3_keep := goodIn_r _ [8, 9, 10, 11, 12, 13, 14, 15, 16, 17, 18, 19, 20, 21, 22, 23, 24, 25, 26, 27, 28, 29, 30, 31, 32, 33, 34, 35, 36, 37, 38, 39, 40, 41, 42, 43, 44, 45, 46, 47, 48, 49, 50, 51, 52, 53, 54, 55, 56, 172, 173, 174, 175, 176, 177, 178, 179, 180, 181, 182, 183, 184, 185, 186, 187, 188, 189, 190, 191, 192, 193, 194, 195] (by decide +kernel) (by decide +kernel)
set_option maxRecDepth 20000 in
theorem gX10_night_X3_keep : GoodIn wsX10_night (wsV RX10 65 RX3 yX3_keep wsX3_keep) := goodIn_app (goodIn_of _ (by decide +kernel)) ggX10_night_X3_keep
set_option maxRecDepth 20000 in
theorem ggX10_night_X4_passNight : GoodIn wsX10_night wsX4_passNight := goodIn_ca (goodIn_ca (goodIn_r _ [61, 62, 63, 64, 65, 66, 67, 68, 69, 70, 71, 72, 73, 74, 75, 76, 60, 77, 78, 79, 80, 81, 82, 83, 84, 85, 86, 87, 88, 89, 90, 91, 92, 93, 94, 95, 96, 97, 98, 99, 100, 101, 102, 103, 104, 105, 106, 107, 108, 109, 110, 111, 112, 113, 114, 115, 116, 117, 118, 119, 120, 121, 122, 123, 124, 125, 126, 127, 128, 129, 130, 131, 132, 133, 134, 135, 136, 137, 138, 139, 140, 141, 142, 143, 144, 145, 146, 147, 148, 149, 150, 151, 152, 153, 154, 155, 156, 157, 158, 32, 159, 35, 43, 44, 169, 170, 171, 175, 176, 177, 178, 179, 180, 181, 182, 190, 191, 192, 193, 194, 195, 196, 197, 198, 199, 200, 183, 184, 185, 186, 187, 188, 189, 201, 202, 203] (by decide +kernel) (by decide +kernel)) (goodIn_sub (fun _ h => List.mem_cons_of_mem _ (List.mem_append_left _ (List.mem_append_right _ h))) (by decide +kernel))) (goodIn_sub (fun _ h => List.mem_cons_of_mem _ (List.mem_append_right _ h)) (by decide +kernel))
set_option maxRecDepth 20000 in
theorem gX10_night_X4_passNight : GoodIn wsX10_night (wsV RX10 240 RX4 yX4_passNight wsX4_passNight) := goodIn_app (goodIn_of _ (by decide +kernel)) ggX10_night_X4_passNight
theorem dX10_night_0 : decode cX10_night 0 = .ok (.aload_n 0, 1) := by decide +kernel
theorem dX10_night_1 : decode cX10_night 1 = .ok (.getfield 26, 3) := by decide +kernel
theorem dX10_night_4 : decode cX10_night 4 = .ok (.aload_n 0, 1) := by decide +kernel
theorem dX10_night_5 : decode cX10_night 5 = .ok (.getfield 10, 3) := by decide +kernel
theorem dX10_night_8 : decode cX10_night 8 = .ok (.getfield 62, 3) := by decide +kernel
theorem dX10_night_11 : decode cX10_night 11 = .ok (.invokevirtual 65, 3) := by decide +kernel
theorem dX10_night_14 : decode cX10_night 14 = .ok (.aload_n 0, 1) := by decide +kernel
theorem dX10_night_15 : decode cX10_night 15 = .ok (.getfield 10, 3) := by decide +kernel
theorem dX10_night_18 : decode cX10_night 18 = .ok (.invokevirtual 240, 3) := by decide +kernel
theorem dX10_night_21 : decode cX10_night 21 = .ok (.ireturn, 1) := by decide +kernel
set_option maxRecDepth 20000 in
theorem ggX10_wouldBeLit_X10_checkSubscriber : GoodIn wsX10_wouldBeLit wsX10_checkSubscriber := goodIn_ca (goodIn_r _ [8, 9, 10, 1, 11, 12, 13, 14, 15, 16, 17, 18, 99, 100, 101, 102, 103, 104, 105, 106, 107, 108, 109, 110, 116, 117, 118, 119, 120, 121, 122, 123, 124, 125, 126, 127, 128, 129] (by decide +kernel) (by decide +kernel)) (goodIn_sub (fun _ h => List.mem_cons_of_mem _ (List.mem_append_left _ (List.mem_append_right _ h))) (by decide +kernel))
set_option maxRecDepth 20000 in
theorem gX10_wouldBeLit_X10_checkSubscriber : GoodIn wsX10_wouldBeLit (wsV RX10 189 RX10 yX10_checkSubscriber wsX10_checkSubscriber) := goodIn_app (goodIn_of _ (by decide +kernel)) ggX10_wouldBeLit_X10_checkSubscriber
set_option maxRecDepth 20000 in
theorem ggX10_wouldBeLit_X4_planNight : GoodIn wsX10_wouldBeLit wsX4_planNight := goodIn_ca (goodIn_ca (goodIn_r _ [23, 24, 25, 26, 27, 28, 29, 22, 30, 31, 32, 33, 34, 35, 36, 37, 38, 39, 40, 41, 42, 43, 44, 45, 46, 47, 48, 49, 50, 51, 52, 53, 54, 55, 56, 57, 58, 59, 60, 61, 62, 63, 64, 65, 66, 67, 68, 69, 70, 71, 72, 73, 74, 75, 76, 77, 78, 79, 80, 81, 82, 83, 84, 85, 86, 87, 88, 89, 90, 91, 92, 93, 94, 95, 96, 97, 98, 108, 109, 110, 116, 117, 118, 119, 120, 121, 122, 123, 124, 125, 126, 127, 128, 129, 111, 112, 113, 114, 115, 130, 131, 132, 133, 134, 135, 136, 137, 138, 139] (by decide +kernel) (by decide +kernel)) (goodIn_sub (fun _ h => List.mem_cons_of_mem _ (List.mem_append_left _ (List.mem_append_left _ (List.mem_append_right _ h)))) (by decide +kernel))) (goodIn_sub (fun _ h => List.mem_cons_of_mem _ (List.mem_append_right _ h)) (by decide +kernel))
set_option maxRecDepth 20000 in
theorem gX10_wouldBeLit_X4_planNight : GoodIn wsX10_wouldBeLit (wsV RX10 243 RX4 yX4_planNight wsX4_planNight) := goodIn_app (goodIn_of _ (by decide +kernel)) ggX10_wouldBeLit_X4_planNight
theorem dX10_wouldBeLit_0 : decode cX10_wouldBeLit 0 = .ok (.aload_n 0, 1) := by decide +kernel
theorem dX10_wouldBeLit_1 : decode cX10_wouldBeLit 1 = .ok (.iload_n 1, 1) := by decide +kernel
theorem dX10_wouldBeLit_2 : decode cX10_wouldBeLit 2 = .ok (.invokevirtual 189, 3) := by decide +kernel
theorem dX10_wouldBeLit_5 : decode cX10_wouldBeLit 5 = .ok (.aload_n 0, 1) := by decide +kernel
theorem dX10_wouldBeLit_6 : decode cX10_wouldBeLit 6 = .ok (.getfield 10, 3) := by decide +kernel
theorem dX10_wouldBeLit_9 : decode cX10_wouldBeLit 9 = .ok (.invokevirtual 243, 3) := by decide +kernel
theorem dX10_wouldBeLit_12 : decode cX10_wouldBeLit 12 = .ok (.aload_n 0, 1) := by decide +kernel
theorem dX10_wouldBeLit_13 : decode cX10_wouldBeLit 13 = .ok (.getfield 10, 3) := by decide +kernel
theorem dX10_wouldBeLit_16 : decode cX10_wouldBeLit 16 = .ok (.getfield 213, 3) := by decide +kernel
theorem dX10_wouldBeLit_19 : decode cX10_wouldBeLit 19 = .ok (.getfield 246, 3) := by decide +kernel
theorem dX10_wouldBeLit_22 : decode cX10_wouldBeLit 22 = .ok (.iload_n 1, 1) := by decide +kernel
theorem dX10_wouldBeLit_23 : decode cX10_wouldBeLit 23 = .ok (.baload, 1) := by decide +kernel
theorem dX10_wouldBeLit_24 : decode cX10_wouldBeLit 24 = .ok (.ireturn, 1) := by decide +kernel
set_option maxRecDepth 20000 in
theorem ggX10_nextRange_X4_planNight : GoodIn wsX10_nextRange wsX4_planNight := goodIn_ca (goodIn_ca (goodIn_r _ [7, 8, 9, 10, 11, 12, 13, 6, 14, 15, 16, 17, 18, 19, 20, 21, 22, 23, 24, 25, 26, 27, 28, 29, 30, 31, 32, 33, 34, 35, 36, 37, 38, 39, 40, 41, 42, 43, 44, 45, 46, 47, 48, 49, 50, 51, 52, 53, 54, 55, 56, 57, 58, 59, 60, 61, 62, 63, 64, 65, 66, 67, 68, 69, 70, 71, 72, 73, 74, 75, 76, 77, 78, 79, 80, 81, 82, 93, 94, 95, 96, 97, 98, 99, 100, 101, 102, 103, 104, 105, 106, 107, 108, 109, 110, 111, 112, 113, 114, 115, 116, 117, 118, 119, 120, 121, 122, 123, 124] (by decide +kernel) (by decide +kernel)) (goodIn_sub (fun _ h => List.mem_cons_of_mem _ (List.mem_append_left _ (List.mem_append_right _ h))) (by decide +kernel))) (goodIn_sub (fun _ h => List.mem_cons_of_mem _ (List.mem_append_right _ h)) (by decide +kernel))
set_option maxRecDepth 20000 in
theorem gX10_nextRange_X4_planNight : GoodIn wsX10_nextRange (wsV RX10 243 RX4 yX4_planNight wsX4_planNight) := goodIn_app (goodIn_of _ (by decide +kernel)) ggX10_nextRange_X4_planNight
set_option maxRecDepth 20000 in
theorem ggX10_nextRange_X7_greatestNeed : GoodIn wsX10_nextRange wsX7_greatestNeed := goodIn_ca (goodIn_r _ [61, 25, 48, 110, 111, 112, 113, 114] (by decide +kernel) (by decide +kernel)) (goodIn_sub (fun _ h => List.mem_cons_of_mem _ (List.mem_append_left _ (List.mem_append_right _ h))) (by decide +kernel))
set_option maxRecDepth 20000 in
theorem gX10_nextRange_X7_greatestNeed : GoodIn wsX10_nextRange (wsV RX10 250 RX7 yX7_greatestNeed wsX7_greatestNeed) := goodIn_app (goodIn_of _ (by decide +kernel)) ggX10_nextRange_X7_greatestNeed
theorem dX10_nextRange_0 : decode cX10_nextRange 0 = .ok (.aload_n 0, 1) := by decide +kernel
theorem dX10_nextRange_1 : decode cX10_nextRange 1 = .ok (.getfield 10, 3) := by decide +kernel
theorem dX10_nextRange_4 : decode cX10_nextRange 4 = .ok (.invokevirtual 243, 3) := by decide +kernel
theorem dX10_nextRange_7 : decode cX10_nextRange 7 = .ok (.aload_n 0, 1) := by decide +kernel
theorem dX10_nextRange_8 : decode cX10_nextRange 8 = .ok (.getfield 10, 3) := by decide +kernel
theorem dX10_nextRange_11 : decode cX10_nextRange 11 = .ok (.getfield 213, 3) := by decide +kernel
theorem dX10_nextRange_14 : decode cX10_nextRange 14 = .ok (.invokevirtual 250, 3) := by decide +kernel
theorem dX10_nextRange_17 : decode cX10_nextRange 17 = .ok (.ireturn, 1) := by decide +kernel
theorem dX10_range_0 : decode cX10_range 0 = .ok (.aload_n 0, 1) := by decide +kernel
theorem dX10_range_1 : decode cX10_range 1 = .ok (.getfield 10, 3) := by decide +kernel
theorem dX10_range_4 : decode cX10_range 4 = .ok (.getfield 62, 3) := by decide +kernel
theorem dX10_range_7 : decode cX10_range 7 = .ok (.getfield 118, 3) := by decide +kernel
theorem dX10_range_10 : decode cX10_range 10 = .ok (.ireturn, 1) := by decide +kernel
theorem dX10_nightCount_0 : decode cX10_nightCount 0 = .ok (.aload_n 0, 1) := by decide +kernel
theorem dX10_nightCount_1 : decode cX10_nightCount 1 = .ok (.getfield 10, 3) := by decide +kernel
theorem dX10_nightCount_4 : decode cX10_nightCount 4 = .ok (.getfield 62, 3) := by decide +kernel
theorem dX10_nightCount_7 : decode cX10_nightCount 7 = .ok (.getfield 253, 3) := by decide +kernel
theorem dX10_nightCount_10 : decode cX10_nightCount 10 = .ok (.ireturn, 1) := by decide +kernel
set_option maxRecDepth 20000 in
theorem ggX10_costOf_X7_cost : GoodIn wsX10_costOf wsX7_cost := goodIn_r _ [6] (by decide +kernel) (by decide +kernel)
set_option maxRecDepth 20000 in
theorem gX10_costOf_X7_cost : GoodIn wsX10_costOf (va_wsS RX10 263 yX7_cost wsX7_cost) := goodIn_app (goodIn_of _ (by decide +kernel)) ggX10_costOf_X7_cost
theorem dX10_costOf_0 : decode cX10_costOf 0 = .ok (.iload_n 1, 1) := by decide +kernel
theorem dX10_costOf_1 : decode cX10_costOf 1 = .ok (.ifCond .lt 9, 3) := by decide +kernel
theorem dX10_costOf_4 : decode cX10_costOf 4 = .ok (.iload_n 1, 1) := by decide +kernel
theorem dX10_costOf_5 : decode cX10_costOf 5 = .ok (.bipush 20, 2) := by decide +kernel
theorem dX10_costOf_7 : decode cX10_costOf 7 = .ok (.if_icmp .le 14, 3) := by decide +kernel
theorem dX10_costOf_10 : decode cX10_costOf 10 = .ok (.new 256, 3) := by decide +kernel
theorem dX10_costOf_13 : decode cX10_costOf 13 = .ok (.dup, 1) := by decide +kernel
theorem dX10_costOf_14 : decode cX10_costOf 14 = .ok (.ldc_w 258, 3) := by decide +kernel
theorem dX10_costOf_17 : decode cX10_costOf 17 = .ok (.invokespecial 260, 3) := by decide +kernel
theorem dX10_costOf_20 : decode cX10_costOf 20 = .ok (.athrow, 1) := by decide +kernel
theorem dX10_costOf_21 : decode cX10_costOf 21 = .ok (.iload_n 1, 1) := by decide +kernel
theorem dX10_costOf_22 : decode cX10_costOf 22 = .ok (.invokestatic 263, 3) := by decide +kernel
theorem dX10_costOf_25 : decode cX10_costOf 25 = .ok (.ireturn, 1) := by decide +kernel
theorem dX10_fund_0 : decode cX10_fund 0 = .ok (.aload_n 0, 1) := by decide +kernel
theorem dX10_fund_1 : decode cX10_fund 1 = .ok (.getfield 10, 3) := by decide +kernel
theorem dX10_fund_4 : decode cX10_fund 4 = .ok (.getfield 62, 3) := by decide +kernel
theorem dX10_fund_7 : decode cX10_fund 7 = .ok (.getfield 266, 3) := by decide +kernel
theorem dX10_fund_10 : decode cX10_fund 10 = .ok (.lreturn, 1) := by decide +kernel
theorem dX10_refunded_0 : decode cX10_refunded 0 = .ok (.aload_n 0, 1) := by decide +kernel
theorem dX10_refunded_1 : decode cX10_refunded 1 = .ok (.getfield 10, 3) := by decide +kernel
theorem dX10_refunded_4 : decode cX10_refunded 4 = .ok (.getfield 62, 3) := by decide +kernel
theorem dX10_refunded_7 : decode cX10_refunded 7 = .ok (.getfield 270, 3) := by decide +kernel
theorem dX10_refunded_10 : decode cX10_refunded 10 = .ok (.lreturn, 1) := by decide +kernel
set_option maxRecDepth 20000 in
theorem ggX10_meanMoney_X8_totalMoney : GoodIn wsX10_meanMoney wsX8_totalMoney := goodIn_ca (goodIn_r _ [11, 12, 13, 34, 35, 36, 37, 38, 39] (by decide +kernel) (by decide +kernel)) (goodIn_sub (fun _ h => List.mem_cons_of_mem _ (List.mem_append_right _ h)) (by decide +kernel))
set_option maxRecDepth 20000 in
theorem gX10_meanMoney_X8_totalMoney : GoodIn wsX10_meanMoney (wsV RX10 278 RX8 yX8_totalMoney wsX8_totalMoney) := goodIn_app (goodIn_of _ (by decide +kernel)) ggX10_meanMoney_X8_totalMoney
theorem dX10_meanMoney_0 : decode cX10_meanMoney 0 = .ok (.aload_n 0, 1) := by decide +kernel
theorem dX10_meanMoney_1 : decode cX10_meanMoney 1 = .ok (.getfield 10, 3) := by decide +kernel
theorem dX10_meanMoney_4 : decode cX10_meanMoney 4 = .ok (.getfield 62, 3) := by decide +kernel
theorem dX10_meanMoney_7 : decode cX10_meanMoney 7 = .ok (.getfield 180, 3) := by decide +kernel
theorem dX10_meanMoney_10 : decode cX10_meanMoney 10 = .ok (.getfield 184, 3) := by decide +kernel
theorem dX10_meanMoney_13 : decode cX10_meanMoney 13 = .ok (.istore_n 1, 1) := by decide +kernel
theorem dX10_meanMoney_14 : decode cX10_meanMoney 14 = .ok (.iload_n 1, 1) := by decide +kernel
theorem dX10_meanMoney_15 : decode cX10_meanMoney 15 = .ok (.ifCond .ne 14, 3) := by decide +kernel
theorem dX10_meanMoney_18 : decode cX10_meanMoney 18 = .ok (.new 273, 3) := by decide +kernel
theorem dX10_meanMoney_21 : decode cX10_meanMoney 21 = .ok (.dup, 1) := by decide +kernel
theorem dX10_meanMoney_22 : decode cX10_meanMoney 22 = .ok (.ldc_w 275, 3) := by decide +kernel
theorem dX10_meanMoney_25 : decode cX10_meanMoney 25 = .ok (.invokespecial 277, 3) := by decide +kernel
theorem dX10_meanMoney_28 : decode cX10_meanMoney 28 = .ok (.athrow, 1) := by decide +kernel
theorem dX10_meanMoney_29 : decode cX10_meanMoney 29 = .ok (.aload_n 0, 1) := by decide +kernel
theorem dX10_meanMoney_30 : decode cX10_meanMoney 30 = .ok (.getfield 10, 3) := by decide +kernel
theorem dX10_meanMoney_33 : decode cX10_meanMoney 33 = .ok (.getfield 62, 3) := by decide +kernel
theorem dX10_meanMoney_36 : decode cX10_meanMoney 36 = .ok (.getfield 180, 3) := by decide +kernel
theorem dX10_meanMoney_39 : decode cX10_meanMoney 39 = .ok (.invokevirtual 278, 3) := by decide +kernel
theorem dX10_meanMoney_42 : decode cX10_meanMoney 42 = .ok (.l2d, 1) := by decide +kernel
theorem dX10_meanMoney_43 : decode cX10_meanMoney 43 = .ok (.iload_n 1, 1) := by decide +kernel
theorem dX10_meanMoney_44 : decode cX10_meanMoney 44 = .ok (.i2d, 1) := by decide +kernel
theorem dX10_meanMoney_45 : decode cX10_meanMoney 45 = .ok (.ddiv, 1) := by decide +kernel
theorem dX10_meanMoney_46 : decode cX10_meanMoney 46 = .ok (.dreturn, 1) := by decide +kernel
set_option maxRecDepth 20000 in
theorem ggX10_litShare_X8_totalLitNights : GoodIn wsX10_litShare wsX8_totalLitNights := goodIn_ca (goodIn_r _ [10, 11, 12, 38, 39, 40, 41, 42, 43] (by decide +kernel) (by decide +kernel)) (goodIn_sub (fun _ h => List.mem_cons_of_mem _ (List.mem_append_right _ h)) (by decide +kernel))
set_option maxRecDepth 20000 in
theorem gX10_litShare_X8_totalLitNights : GoodIn wsX10_litShare (wsV RX10 282 RX8 yX8_totalLitNights wsX8_totalLitNights) := goodIn_app (goodIn_of _ (by decide +kernel)) ggX10_litShare_X8_totalLitNights
set_option maxRecDepth 20000 in
theorem ggX10_litShare_X8_totalDarkNights : GoodIn wsX10_litShare wsX8_totalDarkNights := goodIn_ca (goodIn_r _ [16, 11, 17, 38, 39, 40, 41, 42, 43] (by decide +kernel) (by decide +kernel)) (goodIn_sub (fun _ h => List.mem_cons_of_mem _ (List.mem_append_right _ h)) (by decide +kernel))
set_option maxRecDepth 20000 in
theorem gX10_litShare_X8_totalDarkNights : GoodIn wsX10_litShare (wsV RX10 285 RX8 yX8_totalDarkNights wsX8_totalDarkNights) := goodIn_app (goodIn_of _ (by decide +kernel)) ggX10_litShare_X8_totalDarkNights
theorem dX10_litShare_0 : decode cX10_litShare 0 = .ok (.aload_n 0, 1) := by decide +kernel
theorem dX10_litShare_1 : decode cX10_litShare 1 = .ok (.getfield 10, 3) := by decide +kernel
theorem dX10_litShare_4 : decode cX10_litShare 4 = .ok (.getfield 62, 3) := by decide +kernel
theorem dX10_litShare_7 : decode cX10_litShare 7 = .ok (.getfield 180, 3) := by decide +kernel
theorem dX10_litShare_10 : decode cX10_litShare 10 = .ok (.invokevirtual 282, 3) := by decide +kernel
theorem dX10_litShare_13 : decode cX10_litShare 13 = .ok (.istore_n 1, 1) := by decide +kernel
theorem dX10_litShare_14 : decode cX10_litShare 14 = .ok (.iload_n 1, 1) := by decide +kernel
theorem dX10_litShare_15 : decode cX10_litShare 15 = .ok (.aload_n 0, 1) := by decide +kernel
theorem dX10_litShare_16 : decode cX10_litShare 16 = .ok (.getfield 10, 3) := by decide +kernel
theorem dX10_litShare_19 : decode cX10_litShare 19 = .ok (.getfield 62, 3) := by decide +kernel
theorem dX10_litShare_22 : decode cX10_litShare 22 = .ok (.getfield 180, 3) := by decide +kernel
theorem dX10_litShare_25 : decode cX10_litShare 25 = .ok (.invokevirtual 285, 3) := by decide +kernel
theorem dX10_litShare_28 : decode cX10_litShare 28 = .ok (.iadd, 1) := by decide +kernel
theorem dX10_litShare_29 : decode cX10_litShare 29 = .ok (.istore_n 2, 1) := by decide +kernel
theorem dX10_litShare_30 : decode cX10_litShare 30 = .ok (.iload_n 2, 1) := by decide +kernel
theorem dX10_litShare_31 : decode cX10_litShare 31 = .ok (.ifCond .ne 14, 3) := by decide +kernel
theorem dX10_litShare_34 : decode cX10_litShare 34 = .ok (.new 273, 3) := by decide +kernel
theorem dX10_litShare_37 : decode cX10_litShare 37 = .ok (.dup, 1) := by decide +kernel
theorem dX10_litShare_38 : decode cX10_litShare 38 = .ok (.ldc_w 288, 3) := by decide +kernel
theorem dX10_litShare_41 : decode cX10_litShare 41 = .ok (.invokespecial 277, 3) := by decide +kernel
theorem dX10_litShare_44 : decode cX10_litShare 44 = .ok (.athrow, 1) := by decide +kernel
theorem dX10_litShare_45 : decode cX10_litShare 45 = .ok (.iload_n 1, 1) := by decide +kernel
theorem dX10_litShare_46 : decode cX10_litShare 46 = .ok (.i2f, 1) := by decide +kernel
theorem dX10_litShare_47 : decode cX10_litShare 47 = .ok (.iload_n 2, 1) := by decide +kernel
theorem dX10_litShare_48 : decode cX10_litShare 48 = .ok (.i2f, 1) := by decide +kernel
theorem dX10_litShare_49 : decode cX10_litShare 49 = .ok (.fdiv, 1) := by decide +kernel
theorem dX10_litShare_50 : decode cX10_litShare 50 = .ok (.freturn, 1) := by decide +kernel
set_option maxRecDepth 20000 in
theorem ggX10_writeSubscriber_X10_checkSubscriber : GoodIn wsX10_writeSubscriber wsX10_checkSubscriber := goodIn_ca (goodIn_r _ [12, 13, 14, 1, 2, 3, 15, 16, 17, 18, 19, 20, 239, 240, 241, 242, 243, 244, 245, 246, 247, 248, 249, 250, 251, 252, 253, 254, 255, 256, 257, 258, 259, 260, 261, 262, 263, 264] (by decide +kernel) (by decide +kernel)) (goodIn_sub (fun _ h => List.mem_cons_of_mem _ (List.mem_append_right _ h)) (by decide +kernel))
set_option maxRecDepth 20000 in
theorem gX10_writeSubscriber_X10_checkSubscriber : GoodIn wsX10_writeSubscriber (wsV RX10 189 RX10 yX10_checkSubscriber wsX10_checkSubscriber) := goodIn_app (goodIn_of _ (by decide +kernel)) ggX10_writeSubscriber_X10_checkSubscriber
set_option maxRecDepth 20000 in
theorem ggX10_writeSubscriber_J4_setLength_d00df : GoodIn wsX10_writeSubscriber wsJ4_setLength_d00df := goodIn_r _ [25, 26, 27, 28, 29, 30, 31, 32, 33, 34, 35, 36, 37, 38, 39, 40, 41, 42, 43, 44, 45, 46, 47, 48, 49, 50, 51, 52, 53, 54, 55, 56, 57, 58, 59, 60, 61, 62, 63, 64, 65, 66, 67, 68, 69, 70, 71, 72, 73, 74, 75, 76, 77, 78, 79, 80, 81, 82, 83, 84, 85, 86, 87, 88, 89, 90, 91, 92, 93, 94, 95, 96, 97, 24, 98, 99, 100, 101, 102, 103, 104, 105, 265, 266, 267, 268, 269, 270, 271, 272, 273, 274, 275, 276, 277, 278, 279, 280] (by decide +kernel) (by decide +kernel)
set_option maxRecDepth 20000 in
theorem gX10_writeSubscriber_J4_setLength_d00df : GoodIn wsX10_writeSubscriber (wsV RX10 290 RJ4 yJ4_setLength_d00df wsJ4_setLength_d00df) := goodIn_app (goodIn_of _ (by decide +kernel)) ggX10_writeSubscriber_J4_setLength_d00df
set_option maxRecDepth 20000 in
theorem ggX10_writeSubscriber_J4_append_bf812 : GoodIn wsX10_writeSubscriber wsJ4_append_bf812 := goodIn_r _ [109, 110, 111, 28, 112, 30, 113, 35, 36, 114, 115, 116, 117, 38, 39, 40, 41, 42, 43, 44, 45, 46, 47, 48, 49, 50, 51, 52, 53, 54, 55, 56, 57, 58, 59, 60, 61, 62, 63, 64, 65, 66, 67, 68, 69, 70, 71, 72, 73, 74, 75, 76, 77, 78, 79, 80, 81, 82, 83, 84, 85, 118, 119, 120, 121, 122, 123, 124, 103, 125, 126, 127, 128, 129, 130, 131, 132, 133, 134, 135, 136, 137, 138, 139, 140, 141, 142, 143, 144, 145, 146, 147, 148, 149, 150, 151, 271, 272, 273, 274] (by decide +kernel) (by decide +kernel)
set_option maxRecDepth 20000 in
theorem gX10_writeSubscriber_J4_append_bf812 : GoodIn wsX10_writeSubscriber (wsV RX10 293 RJ4 yJ4_append_bf812 wsJ4_append_bf812) := goodIn_app (goodIn_of _ (by decide +kernel)) ggX10_writeSubscriber_J4_append_bf812
set_option maxRecDepth 20000 in
theorem ggX10_writeSubscriber_J4_append_cf468 : GoodIn wsX10_writeSubscriber wsJ4_append_cf468 := goodIn_r _ [155, 156, 157, 28, 158, 30, 159, 35, 36, 38, 39, 40, 41, 42, 43, 44, 45, 46, 47, 48, 49, 50, 51, 52, 53, 54, 55, 56, 57, 58, 59, 60, 61, 62, 63, 64, 65, 66, 67, 68, 69, 70, 71, 72, 73, 74, 75, 76, 77, 78, 79, 80, 81, 82, 83, 84, 85, 160, 161, 88, 162, 163, 164, 165, 166, 167, 168, 169, 103, 170, 171, 172, 173, 174, 175, 176, 177, 178, 179, 180, 181, 182, 183, 130, 131, 132, 184, 185, 135, 186, 137, 187, 188, 140, 189, 147, 148, 149, 126, 150, 151, 190, 191, 192, 193, 194, 195, 196, 197, 198, 199, 200, 201, 271, 272, 273, 274] (by decide +kernel) (by decide +kernel)
set_option maxRecDepth 20000 in
theorem gX10_writeSubscriber_J4_append_cf468 : GoodIn wsX10_writeSubscriber (wsV RX10 297 RJ4 yJ4_append_cf468 wsJ4_append_cf468) := goodIn_app (goodIn_of _ (by decide +kernel)) ggX10_writeSubscriber_J4_append_cf468
set_option maxRecDepth 20000 in
theorem ggX10_writeSubscriber_X4_findNeed : GoodIn wsX10_writeSubscriber wsX4_findNeed := goodIn_ca (goodIn_r _ [206, 207, 208, 209, 210, 211, 212, 213, 214, 215, 216, 217, 218, 219, 220, 221, 222, 223, 224, 225, 226, 227, 228, 229, 230, 248, 249, 250, 251, 252, 253, 254, 255, 256, 257, 258, 259, 260, 261, 262, 263, 264, 281, 282, 283, 284, 285, 286, 287, 288, 289, 290] (by decide +kernel) (by decide +kernel)) (goodIn_sub (fun _ h => List.mem_cons_of_mem _ (List.mem_append_left _ (List.mem_append_right _ h))) (by decide +kernel))
set_option maxRecDepth 20000 in
theorem gX10_writeSubscriber_X4_findNeed : GoodIn wsX10_writeSubscriber (wsV RX10 201 RX4 yX4_findNeed wsX4_findNeed) := goodIn_app (goodIn_of _ (by decide +kernel)) ggX10_writeSubscriber_X4_findNeed
set_option maxRecDepth 20000 in
theorem ggX10_writeSubscriber_J4_length_8abf5 : GoodIn wsX10_writeSubscriber wsJ4_length_8abf5 := goodIn_r _ [234, 235, 236, 28, 237, 30, 238, 35, 271, 272, 273, 274] (by decide +kernel) (by decide +kernel)
set_option maxRecDepth 20000 in
theorem gX10_writeSubscriber_J4_length_8abf5 : GoodIn wsX10_writeSubscriber (wsV RX10 300 RJ4 yJ4_length_8abf5 wsJ4_length_8abf5) := goodIn_app (goodIn_of _ (by decide +kernel)) ggX10_writeSubscriber_J4_length_8abf5
theorem dX10_writeSubscriber_0 : decode cX10_writeSubscriber 0 = .ok (.aload_n 0, 1) := by decide +kernel
theorem dX10_writeSubscriber_1 : decode cX10_writeSubscriber 1 = .ok (.iload_n 1, 1) := by decide +kernel
theorem dX10_writeSubscriber_2 : decode cX10_writeSubscriber 2 = .ok (.invokevirtual 189, 3) := by decide +kernel
theorem dX10_writeSubscriber_5 : decode cX10_writeSubscriber 5 = .ok (.aload_n 0, 1) := by decide +kernel
theorem dX10_writeSubscriber_6 : decode cX10_writeSubscriber 6 = .ok (.getfield 10, 3) := by decide +kernel
theorem dX10_writeSubscriber_9 : decode cX10_writeSubscriber 9 = .ok (.getfield 62, 3) := by decide +kernel
theorem dX10_writeSubscriber_12 : decode cX10_writeSubscriber 12 = .ok (.getfield 180, 3) := by decide +kernel
theorem dX10_writeSubscriber_15 : decode cX10_writeSubscriber 15 = .ok (.astore_n 2, 1) := by decide +kernel
theorem dX10_writeSubscriber_16 : decode cX10_writeSubscriber 16 = .ok (.aload_n 0, 1) := by decide +kernel
theorem dX10_writeSubscriber_17 : decode cX10_writeSubscriber 17 = .ok (.getfield 43, 3) := by decide +kernel
theorem dX10_writeSubscriber_20 : decode cX10_writeSubscriber 20 = .ok (.iconst 0, 1) := by decide +kernel
theorem dX10_writeSubscriber_21 : decode cX10_writeSubscriber 21 = .ok (.invokevirtual 290, 3) := by decide +kernel
theorem dX10_writeSubscriber_24 : decode cX10_writeSubscriber 24 = .ok (.aload_n 0, 1) := by decide +kernel
theorem dX10_writeSubscriber_25 : decode cX10_writeSubscriber 25 = .ok (.getfield 43, 3) := by decide +kernel
theorem dX10_writeSubscriber_28 : decode cX10_writeSubscriber 28 = .ok (.aload_n 2, 1) := by decide +kernel
theorem dX10_writeSubscriber_29 : decode cX10_writeSubscriber 29 = .ok (.getfield 192, 3) := by decide +kernel
theorem dX10_writeSubscriber_32 : decode cX10_writeSubscriber 32 = .ok (.iload_n 1, 1) := by decide +kernel
theorem dX10_writeSubscriber_33 : decode cX10_writeSubscriber 33 = .ok (.iaload, 1) := by decide +kernel
theorem dX10_writeSubscriber_34 : decode cX10_writeSubscriber 34 = .ok (.invokevirtual 293, 3) := by decide +kernel
theorem dX10_writeSubscriber_37 : decode cX10_writeSubscriber 37 = .ok (.bipush 62, 2) := by decide +kernel
theorem dX10_writeSubscriber_39 : decode cX10_writeSubscriber 39 = .ok (.invokevirtual 297, 3) := by decide +kernel
theorem dX10_writeSubscriber_42 : decode cX10_writeSubscriber 42 = .ok (.aload_n 2, 1) := by decide +kernel
theorem dX10_writeSubscriber_43 : decode cX10_writeSubscriber 43 = .ok (.getfield 195, 3) := by decide +kernel
theorem dX10_writeSubscriber_46 : decode cX10_writeSubscriber 46 = .ok (.iload_n 1, 1) := by decide +kernel
theorem dX10_writeSubscriber_47 : decode cX10_writeSubscriber 47 = .ok (.iaload, 1) := by decide +kernel
theorem dX10_writeSubscriber_48 : decode cX10_writeSubscriber 48 = .ok (.invokevirtual 293, 3) := by decide +kernel
theorem dX10_writeSubscriber_51 : decode cX10_writeSubscriber 51 = .ok (.pop, 1) := by decide +kernel
theorem dX10_writeSubscriber_52 : decode cX10_writeSubscriber 52 = .ok (.aload_n 0, 1) := by decide +kernel
theorem dX10_writeSubscriber_53 : decode cX10_writeSubscriber 53 = .ok (.getfield 43, 3) := by decide +kernel
theorem dX10_writeSubscriber_56 : decode cX10_writeSubscriber 56 = .ok (.bipush 58, 2) := by decide +kernel
theorem dX10_writeSubscriber_58 : decode cX10_writeSubscriber 58 = .ok (.invokevirtual 297, 3) := by decide +kernel
theorem dX10_writeSubscriber_61 : decode cX10_writeSubscriber 61 = .ok (.aload_n 2, 1) := by decide +kernel
theorem dX10_writeSubscriber_62 : decode cX10_writeSubscriber 62 = .ok (.getfield 198, 3) := by decide +kernel
theorem dX10_writeSubscriber_65 : decode cX10_writeSubscriber 65 = .ok (.iload_n 1, 1) := by decide +kernel
theorem dX10_writeSubscriber_66 : decode cX10_writeSubscriber 66 = .ok (.iaload, 1) := by decide +kernel
theorem dX10_writeSubscriber_67 : decode cX10_writeSubscriber 67 = .ok (.invokevirtual 293, 3) := by decide +kernel
theorem dX10_writeSubscriber_70 : decode cX10_writeSubscriber 70 = .ok (.pop, 1) := by decide +kernel
theorem dX10_writeSubscriber_71 : decode cX10_writeSubscriber 71 = .ok (.aload_n 0, 1) := by decide +kernel
theorem dX10_writeSubscriber_72 : decode cX10_writeSubscriber 72 = .ok (.getfield 10, 3) := by decide +kernel
theorem dX10_writeSubscriber_75 : decode cX10_writeSubscriber 75 = .ok (.iload_n 1, 1) := by decide +kernel
theorem dX10_writeSubscriber_76 : decode cX10_writeSubscriber 76 = .ok (.invokevirtual 201, 3) := by decide +kernel
theorem dX10_writeSubscriber_79 : decode cX10_writeSubscriber 79 = .ok (.istore_n 3, 1) := by decide +kernel
theorem dX10_writeSubscriber_80 : decode cX10_writeSubscriber 80 = .ok (.iload_n 3, 1) := by decide +kernel
theorem dX10_writeSubscriber_81 : decode cX10_writeSubscriber 81 = .ok (.iconst (-1), 1) := by decide +kernel
theorem dX10_writeSubscriber_82 : decode cX10_writeSubscriber 82 = .ok (.if_icmp .ne 16, 3) := by decide +kernel
theorem dX10_writeSubscriber_85 : decode cX10_writeSubscriber 85 = .ok (.aload_n 0, 1) := by decide +kernel
theorem dX10_writeSubscriber_86 : decode cX10_writeSubscriber 86 = .ok (.getfield 43, 3) := by decide +kernel
theorem dX10_writeSubscriber_89 : decode cX10_writeSubscriber 89 = .ok (.bipush 45, 2) := by decide +kernel
theorem dX10_writeSubscriber_91 : decode cX10_writeSubscriber 91 = .ok (.invokevirtual 297, 3) := by decide +kernel
theorem dX10_writeSubscriber_94 : decode cX10_writeSubscriber 94 = .ok (.pop, 1) := by decide +kernel
theorem dX10_writeSubscriber_95 : decode cX10_writeSubscriber 95 = .ok (.goto 17, 3) := by decide +kernel
theorem dX10_writeSubscriber_98 : decode cX10_writeSubscriber 98 = .ok (.aload_n 0, 1) := by decide +kernel
theorem dX10_writeSubscriber_99 : decode cX10_writeSubscriber 99 = .ok (.getfield 43, 3) := by decide +kernel
theorem dX10_writeSubscriber_102 : decode cX10_writeSubscriber 102 = .ok (.bipush 110, 2) := by decide +kernel
theorem dX10_writeSubscriber_104 : decode cX10_writeSubscriber 104 = .ok (.invokevirtual 297, 3) := by decide +kernel
theorem dX10_writeSubscriber_107 : decode cX10_writeSubscriber 107 = .ok (.iload_n 3, 1) := by decide +kernel
theorem dX10_writeSubscriber_108 : decode cX10_writeSubscriber 108 = .ok (.invokevirtual 293, 3) := by decide +kernel
theorem dX10_writeSubscriber_111 : decode cX10_writeSubscriber 111 = .ok (.pop, 1) := by decide +kernel
theorem dX10_writeSubscriber_112 : decode cX10_writeSubscriber 112 = .ok (.aload_n 0, 1) := by decide +kernel
theorem dX10_writeSubscriber_113 : decode cX10_writeSubscriber 113 = .ok (.getfield 43, 3) := by decide +kernel
theorem dX10_writeSubscriber_116 : decode cX10_writeSubscriber 116 = .ok (.invokevirtual 300, 3) := by decide +kernel
theorem dX10_writeSubscriber_119 : decode cX10_writeSubscriber 119 = .ok (.ireturn, 1) := by decide +kernel
set_option maxRecDepth 20000 in
theorem ggX10_writeLeg_X10_checkPosition : GoodIn wsX10_writeLeg wsX10_checkPosition := goodIn_ca (goodIn_r _ [14, 15, 16, 1, 2, 3, 17, 207, 208, 209, 210, 211, 212, 213, 214, 215, 216, 217, 218, 219, 220, 221, 222, 223, 224, 225, 226, 227, 228, 229, 230, 231, 232, 233] (by decide +kernel) (by decide +kernel)) (goodIn_sub (fun _ h => List.mem_cons_of_mem _ (List.mem_append_right _ h)) (by decide +kernel))
set_option maxRecDepth 20000 in
theorem gX10_writeLeg_X10_checkPosition : GoodIn wsX10_writeLeg (wsV RX10 121 RX10 yX10_checkPosition wsX10_checkPosition) := goodIn_app (goodIn_of _ (by decide +kernel)) ggX10_writeLeg_X10_checkPosition
set_option maxRecDepth 20000 in
theorem ggX10_writeLeg_J4_setLength_d00df : GoodIn wsX10_writeLeg wsJ4_setLength_d00df := goodIn_r _ [22, 23, 24, 25, 26, 27, 28, 29, 30, 31, 32, 33, 34, 35, 36, 37, 38, 39, 40, 41, 42, 43, 44, 45, 46, 47, 48, 49, 50, 51, 52, 53, 54, 55, 56, 57, 58, 59, 60, 61, 62, 63, 64, 65, 66, 67, 68, 69, 70, 71, 72, 73, 74, 75, 76, 77, 78, 79, 80, 81, 82, 83, 84, 85, 86, 87, 88, 89, 90, 91, 92, 93, 94, 21, 95, 96, 97, 98, 99, 100, 101, 102, 234, 235, 236, 237, 238, 239, 240, 241, 242, 243, 244, 245, 246, 247, 248, 249] (by decide +kernel) (by decide +kernel)
set_option maxRecDepth 20000 in
theorem gX10_writeLeg_J4_setLength_d00df : GoodIn wsX10_writeLeg (wsV RX10 290 RJ4 yJ4_setLength_d00df wsJ4_setLength_d00df) := goodIn_app (goodIn_of _ (by decide +kernel)) ggX10_writeLeg_J4_setLength_d00df
set_option maxRecDepth 20000 in
theorem ggX10_writeLeg_J4_append_bf812 : GoodIn wsX10_writeLeg wsJ4_append_bf812 := goodIn_r _ [106, 107, 108, 25, 109, 27, 110, 32, 33, 111, 112, 113, 114, 35, 36, 37, 38, 39, 40, 41, 42, 43, 44, 45, 46, 47, 48, 49, 50, 51, 52, 53, 54, 55, 56, 57, 58, 59, 60, 61, 62, 63, 64, 65, 66, 67, 68, 69, 70, 71, 72, 73, 74, 75, 76, 77, 78, 79, 80, 81, 82, 115, 116, 117, 118, 119, 120, 121, 100, 122, 123, 124, 125, 126, 127, 128, 129, 130, 131, 132, 133, 134, 135, 136, 137, 138, 139, 140, 141, 142, 143, 144, 145, 146, 147, 148, 240, 241, 242, 243] (by decide +kernel) (by decide +kernel)
set_option maxRecDepth 20000 in
theorem gX10_writeLeg_J4_append_bf812 : GoodIn wsX10_writeLeg (wsV RX10 293 RJ4 yJ4_append_bf812 wsJ4_append_bf812) := goodIn_app (goodIn_of _ (by decide +kernel)) ggX10_writeLeg_J4_append_bf812
set_option maxRecDepth 20000 in
theorem ggX10_writeLeg_J4_append_cf468 : GoodIn wsX10_writeLeg wsJ4_append_cf468 := goodIn_r _ [152, 153, 154, 25, 155, 27, 156, 32, 33, 35, 36, 37, 38, 39, 40, 41, 42, 43, 44, 45, 46, 47, 48, 49, 50, 51, 52, 53, 54, 55, 56, 57, 58, 59, 60, 61, 62, 63, 64, 65, 66, 67, 68, 69, 70, 71, 72, 73, 74, 75, 76, 77, 78, 79, 80, 81, 82, 157, 158, 85, 159, 160, 161, 162, 163, 164, 165, 166, 100, 167, 168, 169, 170, 171, 172, 173, 174, 175, 176, 177, 178, 179, 180, 127, 128, 129, 181, 182, 132, 183, 134, 184, 185, 137, 186, 144, 145, 146, 123, 147, 148, 187, 188, 189, 190, 191, 192, 193, 194, 195, 196, 197, 198, 240, 241, 242, 243] (by decide +kernel) (by decide +kernel)
set_option maxRecDepth 20000 in
theorem gX10_writeLeg_J4_append_cf468 : GoodIn wsX10_writeLeg (wsV RX10 297 RJ4 yJ4_append_cf468 wsJ4_append_cf468) := goodIn_app (goodIn_of _ (by decide +kernel)) ggX10_writeLeg_J4_append_cf468
set_option maxRecDepth 20000 in
theorem ggX10_writeLeg_J4_length_8abf5 : GoodIn wsX10_writeLeg wsJ4_length_8abf5 := goodIn_r _ [202, 203, 204, 25, 205, 27, 206, 32, 240, 241, 242, 243] (by decide +kernel) (by decide +kernel)
set_option maxRecDepth 20000 in
theorem gX10_writeLeg_J4_length_8abf5 : GoodIn wsX10_writeLeg (wsV RX10 300 RJ4 yJ4_length_8abf5 wsJ4_length_8abf5) := goodIn_app (goodIn_of _ (by decide +kernel)) ggX10_writeLeg_J4_length_8abf5
theorem dX10_writeLeg_0 : decode cX10_writeLeg 0 = .ok (.aload_n 0, 1) := by decide +kernel
theorem dX10_writeLeg_1 : decode cX10_writeLeg 1 = .ok (.iload_n 1, 1) := by decide +kernel
theorem dX10_writeLeg_2 : decode cX10_writeLeg 2 = .ok (.invokevirtual 121, 3) := by decide +kernel
theorem dX10_writeLeg_5 : decode cX10_writeLeg 5 = .ok (.aload_n 0, 1) := by decide +kernel
theorem dX10_writeLeg_6 : decode cX10_writeLeg 6 = .ok (.getfield 10, 3) := by decide +kernel
theorem dX10_writeLeg_9 : decode cX10_writeLeg 9 = .ok (.getfield 62, 3) := by decide +kernel
theorem dX10_writeLeg_12 : decode cX10_writeLeg 12 = .ok (.getfield 86, 3) := by decide +kernel
theorem dX10_writeLeg_15 : decode cX10_writeLeg 15 = .ok (.astore_n 2, 1) := by decide +kernel
theorem dX10_writeLeg_16 : decode cX10_writeLeg 16 = .ok (.aload_n 0, 1) := by decide +kernel
theorem dX10_writeLeg_17 : decode cX10_writeLeg 17 = .ok (.getfield 43, 3) := by decide +kernel
theorem dX10_writeLeg_20 : decode cX10_writeLeg 20 = .ok (.iconst 0, 1) := by decide +kernel
theorem dX10_writeLeg_21 : decode cX10_writeLeg 21 = .ok (.invokevirtual 290, 3) := by decide +kernel
theorem dX10_writeLeg_24 : decode cX10_writeLeg 24 = .ok (.aload_n 0, 1) := by decide +kernel
theorem dX10_writeLeg_25 : decode cX10_writeLeg 25 = .ok (.getfield 43, 3) := by decide +kernel
theorem dX10_writeLeg_28 : decode cX10_writeLeg 28 = .ok (.aload_n 2, 1) := by decide +kernel
theorem dX10_writeLeg_29 : decode cX10_writeLeg 29 = .ok (.getfield 124, 3) := by decide +kernel
theorem dX10_writeLeg_32 : decode cX10_writeLeg 32 = .ok (.iload_n 1, 1) := by decide +kernel
theorem dX10_writeLeg_33 : decode cX10_writeLeg 33 = .ok (.iaload, 1) := by decide +kernel
theorem dX10_writeLeg_34 : decode cX10_writeLeg 34 = .ok (.invokevirtual 293, 3) := by decide +kernel
theorem dX10_writeLeg_37 : decode cX10_writeLeg 37 = .ok (.bipush 45, 2) := by decide +kernel
theorem dX10_writeLeg_39 : decode cX10_writeLeg 39 = .ok (.invokevirtual 297, 3) := by decide +kernel
theorem dX10_writeLeg_42 : decode cX10_writeLeg 42 = .ok (.aload_n 2, 1) := by decide +kernel
theorem dX10_writeLeg_43 : decode cX10_writeLeg 43 = .ok (.getfield 127, 3) := by decide +kernel
theorem dX10_writeLeg_46 : decode cX10_writeLeg 46 = .ok (.iload_n 1, 1) := by decide +kernel
theorem dX10_writeLeg_47 : decode cX10_writeLeg 47 = .ok (.iaload, 1) := by decide +kernel
theorem dX10_writeLeg_48 : decode cX10_writeLeg 48 = .ok (.invokevirtual 293, 3) := by decide +kernel
theorem dX10_writeLeg_51 : decode cX10_writeLeg 51 = .ok (.pop, 1) := by decide +kernel
theorem dX10_writeLeg_52 : decode cX10_writeLeg 52 = .ok (.aload_n 0, 1) := by decide +kernel
theorem dX10_writeLeg_53 : decode cX10_writeLeg 53 = .ok (.getfield 43, 3) := by decide +kernel
theorem dX10_writeLeg_56 : decode cX10_writeLeg 56 = .ok (.bipush 58, 2) := by decide +kernel
theorem dX10_writeLeg_58 : decode cX10_writeLeg 58 = .ok (.invokevirtual 297, 3) := by decide +kernel
theorem dX10_writeLeg_61 : decode cX10_writeLeg 61 = .ok (.aload_n 2, 1) := by decide +kernel
theorem dX10_writeLeg_62 : decode cX10_writeLeg 62 = .ok (.getfield 105, 3) := by decide +kernel
theorem dX10_writeLeg_65 : decode cX10_writeLeg 65 = .ok (.iload_n 1, 1) := by decide +kernel
theorem dX10_writeLeg_66 : decode cX10_writeLeg 66 = .ok (.iaload, 1) := by decide +kernel
theorem dX10_writeLeg_67 : decode cX10_writeLeg 67 = .ok (.invokevirtual 293, 3) := by decide +kernel
theorem dX10_writeLeg_70 : decode cX10_writeLeg 70 = .ok (.pop, 1) := by decide +kernel
theorem dX10_writeLeg_71 : decode cX10_writeLeg 71 = .ok (.aload_n 0, 1) := by decide +kernel
theorem dX10_writeLeg_72 : decode cX10_writeLeg 72 = .ok (.getfield 43, 3) := by decide +kernel
theorem dX10_writeLeg_75 : decode cX10_writeLeg 75 = .ok (.bipush 47, 2) := by decide +kernel
theorem dX10_writeLeg_77 : decode cX10_writeLeg 77 = .ok (.invokevirtual 297, 3) := by decide +kernel
theorem dX10_writeLeg_80 : decode cX10_writeLeg 80 = .ok (.aload_n 2, 1) := by decide +kernel
theorem dX10_writeLeg_81 : decode cX10_writeLeg 81 = .ok (.getfield 112, 3) := by decide +kernel
theorem dX10_writeLeg_84 : decode cX10_writeLeg 84 = .ok (.iload_n 1, 1) := by decide +kernel
theorem dX10_writeLeg_85 : decode cX10_writeLeg 85 = .ok (.iaload, 1) := by decide +kernel
theorem dX10_writeLeg_86 : decode cX10_writeLeg 86 = .ok (.invokevirtual 293, 3) := by decide +kernel
theorem dX10_writeLeg_89 : decode cX10_writeLeg 89 = .ok (.pop, 1) := by decide +kernel
theorem dX10_writeLeg_90 : decode cX10_writeLeg 90 = .ok (.aload_n 2, 1) := by decide +kernel
theorem dX10_writeLeg_91 : decode cX10_writeLeg 91 = .ok (.getfield 112, 3) := by decide +kernel
theorem dX10_writeLeg_94 : decode cX10_writeLeg 94 = .ok (.iload_n 1, 1) := by decide +kernel
theorem dX10_writeLeg_95 : decode cX10_writeLeg 95 = .ok (.iaload, 1) := by decide +kernel
theorem dX10_writeLeg_96 : decode cX10_writeLeg 96 = .ok (.aload_n 0, 1) := by decide +kernel
theorem dX10_writeLeg_97 : decode cX10_writeLeg 97 = .ok (.getfield 10, 3) := by decide +kernel
theorem dX10_writeLeg_100 : decode cX10_writeLeg 100 = .ok (.getfield 62, 3) := by decide +kernel
theorem dX10_writeLeg_103 : decode cX10_writeLeg 103 = .ok (.getfield 118, 3) := by decide +kernel
theorem dX10_writeLeg_106 : decode cX10_writeLeg 106 = .ok (.if_icmp .gt 13, 3) := by decide +kernel
theorem dX10_writeLeg_109 : decode cX10_writeLeg 109 = .ok (.aload_n 0, 1) := by decide +kernel
theorem dX10_writeLeg_110 : decode cX10_writeLeg 110 = .ok (.getfield 43, 3) := by decide +kernel
theorem dX10_writeLeg_113 : decode cX10_writeLeg 113 = .ok (.bipush 42, 2) := by decide +kernel
theorem dX10_writeLeg_115 : decode cX10_writeLeg 115 = .ok (.invokevirtual 297, 3) := by decide +kernel
theorem dX10_writeLeg_118 : decode cX10_writeLeg 118 = .ok (.pop, 1) := by decide +kernel
theorem dX10_writeLeg_119 : decode cX10_writeLeg 119 = .ok (.aload_n 0, 1) := by decide +kernel
theorem dX10_writeLeg_120 : decode cX10_writeLeg 120 = .ok (.getfield 43, 3) := by decide +kernel
theorem dX10_writeLeg_123 : decode cX10_writeLeg 123 = .ok (.invokevirtual 300, 3) := by decide +kernel
theorem dX10_writeLeg_126 : decode cX10_writeLeg 126 = .ok (.ireturn, 1) := by decide +kernel
set_option maxRecDepth 20000 in
theorem ggX10_lineAt_J4_length_8abf5 : GoodIn wsX10_lineAt wsJ4_length_8abf5 := goodIn_r _ [8, 9, 10, 11, 12, 13, 14, 15, 58, 59, 60, 61] (by decide +kernel) (by decide +kernel)
set_option maxRecDepth 20000 in
theorem gX10_lineAt_J4_length_8abf5 : GoodIn wsX10_lineAt (wsV RX10 300 RJ4 yJ4_length_8abf5 wsJ4_length_8abf5) := goodIn_app (goodIn_of _ (by decide +kernel)) ggX10_lineAt_J4_length_8abf5
set_option maxRecDepth 20000 in
theorem ggX10_lineAt_J4_charAt_5068e : GoodIn wsX10_lineAt wsJ4_charAt_5068e := goodIn_r _ [19, 20, 21, 11, 22, 13, 23, 24, 25, 15, 26, 27, 28, 29, 30, 31, 32, 33, 34, 35, 36, 37, 38, 39, 40, 41, 42, 43, 44, 45, 46, 47, 48, 58, 59, 60, 61] (by decide +kernel) (by decide +kernel)
set_option maxRecDepth 20000 in
theorem gX10_lineAt_J4_charAt_5068e : GoodIn wsX10_lineAt (wsV RX10 307 RJ4 yJ4_charAt_5068e wsJ4_charAt_5068e) := goodIn_app (goodIn_of _ (by decide +kernel)) ggX10_lineAt_J4_charAt_5068e
theorem dX10_lineAt_0 : decode cX10_lineAt 0 = .ok (.iload_n 1, 1) := by decide +kernel
theorem dX10_lineAt_1 : decode cX10_lineAt 1 = .ok (.ifCond .lt 14, 3) := by decide +kernel
theorem dX10_lineAt_4 : decode cX10_lineAt 4 = .ok (.iload_n 1, 1) := by decide +kernel
theorem dX10_lineAt_5 : decode cX10_lineAt 5 = .ok (.aload_n 0, 1) := by decide +kernel
theorem dX10_lineAt_6 : decode cX10_lineAt 6 = .ok (.getfield 43, 3) := by decide +kernel
theorem dX10_lineAt_9 : decode cX10_lineAt 9 = .ok (.invokevirtual 300, 3) := by decide +kernel
theorem dX10_lineAt_12 : decode cX10_lineAt 12 = .ok (.if_icmp .lt 14, 3) := by decide +kernel
theorem dX10_lineAt_15 : decode cX10_lineAt 15 = .ok (.new 302, 3) := by decide +kernel
theorem dX10_lineAt_18 : decode cX10_lineAt 18 = .ok (.dup, 1) := by decide +kernel
theorem dX10_lineAt_19 : decode cX10_lineAt 19 = .ok (.ldc_w 304, 3) := by decide +kernel
theorem dX10_lineAt_22 : decode cX10_lineAt 22 = .ok (.invokespecial 306, 3) := by decide +kernel
theorem dX10_lineAt_25 : decode cX10_lineAt 25 = .ok (.athrow, 1) := by decide +kernel
theorem dX10_lineAt_26 : decode cX10_lineAt 26 = .ok (.aload_n 0, 1) := by decide +kernel
theorem dX10_lineAt_27 : decode cX10_lineAt 27 = .ok (.getfield 43, 3) := by decide +kernel
theorem dX10_lineAt_30 : decode cX10_lineAt 30 = .ok (.iload_n 1, 1) := by decide +kernel
theorem dX10_lineAt_31 : decode cX10_lineAt 31 = .ok (.invokevirtual 307, 3) := by decide +kernel
theorem dX10_lineAt_34 : decode cX10_lineAt 34 = .ok (.ireturn, 1) := by decide +kernel
set_option maxRecDepth 20000 in
theorem ggX10_isConsistent_X4_routesAgree : GoodIn wsX10_isConsistent wsX4_routesAgree := goodIn_ca (goodIn_r _ [6, 7, 8, 9, 10, 11, 12, 5, 13, 14, 15, 16, 17, 18, 19, 20, 21, 22, 23, 24, 25, 26, 27, 28, 29, 30, 31, 32, 33, 34, 35, 36, 37, 38, 39, 40, 41, 42, 43, 44, 45, 46, 47, 48, 49, 50, 51, 52, 53, 54, 55, 56, 57, 58, 59, 60, 61, 62, 63, 64, 65, 66, 67, 68, 166, 167, 168, 169, 170, 171, 172, 173, 174, 175, 176, 177, 178, 179, 180, 181, 182, 183, 184, 185, 186] (by decide +kernel) (by decide +kernel)) (goodIn_sub (fun _ h => List.mem_cons_of_mem _ (List.mem_append_left _ (List.mem_append_right _ h))) (by decide +kernel))
set_option maxRecDepth 20000 in
theorem gX10_isConsistent_X4_routesAgree : GoodIn wsX10_isConsistent (wsV RX10 311 RX4 yX4_routesAgree wsX4_routesAgree) := goodIn_app (goodIn_of _ (by decide +kernel)) ggX10_isConsistent_X4_routesAgree
set_option maxRecDepth 20000 in
theorem ggX10_isConsistent_X4_sharesAgree : GoodIn wsX10_isConsistent wsX4_sharesAgree := goodIn_ca (goodIn_ca (goodIn_r _ [72, 73, 7, 74, 75, 76, 77, 78, 79, 5, 80, 14, 8, 81, 82, 83, 84, 85, 86, 87, 88, 48, 49, 50, 18, 51, 35, 37, 38, 52, 36, 53, 54, 55, 56, 57, 58, 59, 60, 89, 90, 91, 92, 93, 94, 95, 96, 97, 98, 99, 100, 101, 102, 103, 104, 105, 106, 107, 108, 109, 110, 111, 112, 113, 114, 115, 116, 117, 118, 119, 120, 121, 122, 123, 124, 125, 126, 127, 128, 129, 130, 131, 132, 133, 134, 135, 136, 137, 138, 139, 140, 141, 142, 143, 166, 167, 168, 169, 170, 171, 172, 173, 174, 175, 176, 187, 188, 189, 190, 191, 192, 193, 194, 195, 196, 197, 177, 178, 179, 180, 181, 182, 183, 184, 185, 186] (by decide +kernel) (by decide +kernel)) (goodIn_sub (fun _ h => List.mem_cons_of_mem _ (List.mem_append_left _ (List.mem_append_right _ h))) (by decide +kernel))) (goodIn_sub (fun _ h => List.mem_cons_of_mem _ (List.mem_append_right _ h)) (by decide +kernel))
set_option maxRecDepth 20000 in
theorem gX10_isConsistent_X4_sharesAgree : GoodIn wsX10_isConsistent (wsV RX10 315 RX4 yX4_sharesAgree wsX4_sharesAgree) := goodIn_app (goodIn_of _ (by decide +kernel)) ggX10_isConsistent_X4_sharesAgree
set_option maxRecDepth 20000 in
theorem ggX10_isConsistent_X4_moneyAddsUp : GoodIn wsX10_isConsistent wsX4_moneyAddsUp := goodIn_ca (goodIn_r _ [147, 7, 74, 148, 149, 150, 151, 152, 153, 154, 155, 156, 166, 167, 168, 169, 170, 171, 172, 173, 174, 175, 176, 187, 188, 189, 190, 191, 192] (by decide +kernel) (by decide +kernel)) (goodIn_sub (fun _ h => List.mem_cons_of_mem _ (List.mem_append_left _ (List.mem_append_right _ h))) (by decide +kernel))
set_option maxRecDepth 20000 in
theorem gX10_isConsistent_X4_moneyAddsUp : GoodIn wsX10_isConsistent (wsV RX10 318 RX4 yX4_moneyAddsUp wsX4_moneyAddsUp) := goodIn_app (goodIn_of _ (by decide +kernel)) ggX10_isConsistent_X4_moneyAddsUp
theorem dX10_isConsistent_0 : decode cX10_isConsistent 0 = .ok (.aload_n 0, 1) := by decide +kernel
theorem dX10_isConsistent_1 : decode cX10_isConsistent 1 = .ok (.getfield 10, 3) := by decide +kernel
theorem dX10_isConsistent_4 : decode cX10_isConsistent 4 = .ok (.invokevirtual 311, 3) := by decide +kernel
theorem dX10_isConsistent_7 : decode cX10_isConsistent 7 = .ok (.ifCond .eq 27, 3) := by decide +kernel
theorem dX10_isConsistent_10 : decode cX10_isConsistent 10 = .ok (.aload_n 0, 1) := by decide +kernel
theorem dX10_isConsistent_11 : decode cX10_isConsistent 11 = .ok (.getfield 10, 3) := by decide +kernel
theorem dX10_isConsistent_14 : decode cX10_isConsistent 14 = .ok (.invokevirtual 315, 3) := by decide +kernel
theorem dX10_isConsistent_17 : decode cX10_isConsistent 17 = .ok (.ifCond .eq 17, 3) := by decide +kernel
theorem dX10_isConsistent_20 : decode cX10_isConsistent 20 = .ok (.aload_n 0, 1) := by decide +kernel
theorem dX10_isConsistent_21 : decode cX10_isConsistent 21 = .ok (.getfield 10, 3) := by decide +kernel
theorem dX10_isConsistent_24 : decode cX10_isConsistent 24 = .ok (.invokevirtual 318, 3) := by decide +kernel
theorem dX10_isConsistent_27 : decode cX10_isConsistent 27 = .ok (.ifCond .eq 7, 3) := by decide +kernel
theorem dX10_isConsistent_30 : decode cX10_isConsistent 30 = .ok (.iconst 1, 1) := by decide +kernel
theorem dX10_isConsistent_31 : decode cX10_isConsistent 31 = .ok (.goto 4, 3) := by decide +kernel
theorem dX10_isConsistent_34 : decode cX10_isConsistent 34 = .ok (.iconst 0, 1) := by decide +kernel
theorem dX10_isConsistent_35 : decode cX10_isConsistent 35 = .ok (.ireturn, 1) := by decide +kernel
set_option maxRecDepth 20000 in
theorem ggX10_type_X6_isFull : GoodIn wsX10_type wsX6_isFull := goodIn_r _ [10, 11, 27, 28, 29, 30, 31] (by decide +kernel) (by decide +kernel)
set_option maxRecDepth 20000 in
theorem gX10_type_X6_isFull : GoodIn wsX10_type (wsV RX10 321 RX6 yX6_isFull wsX6_isFull) := goodIn_app (goodIn_of _ (by decide +kernel)) ggX10_type_X6_isFull
set_option maxRecDepth 20000 in
theorem ggX10_type_X6_append : GoodIn wsX10_type wsX6_append := goodIn_ca (goodIn_r _ [15, 16, 11, 17, 7, 8, 9, 10, 27, 28, 29, 30, 31] (by decide +kernel) (by decide +kernel)) (goodIn_sub (fun _ h => List.mem_cons_of_mem _ (List.mem_append_right _ h)) (by decide +kernel))
set_option maxRecDepth 20000 in
theorem gX10_type_X6_append : GoodIn wsX10_type (wsV RX10 329 RX6 yX6_append wsX6_append) := goodIn_app (goodIn_of _ (by decide +kernel)) ggX10_type_X6_append
theorem dX10_type_0 : decode cX10_type 0 = .ok (.iload_n 1, 1) := by decide +kernel
theorem dX10_type_1 : decode cX10_type 1 = .ok (.bipush 32, 2) := by decide +kernel
theorem dX10_type_3 : decode cX10_type 3 = .ok (.if_icmp .lt 9, 3) := by decide +kernel
theorem dX10_type_6 : decode cX10_type 6 = .ok (.iload_n 1, 1) := by decide +kernel
theorem dX10_type_7 : decode cX10_type 7 = .ok (.bipush 126, 2) := by decide +kernel
theorem dX10_type_9 : decode cX10_type 9 = .ok (.if_icmp .le 14, 3) := by decide +kernel
theorem dX10_type_12 : decode cX10_type 12 = .ok (.new 256, 3) := by decide +kernel
theorem dX10_type_15 : decode cX10_type 15 = .ok (.dup, 1) := by decide +kernel
theorem dX10_type_16 : decode cX10_type 16 = .ok (.ldc_w 304, 3) := by decide +kernel
theorem dX10_type_19 : decode cX10_type 19 = .ok (.invokespecial 260, 3) := by decide +kernel
theorem dX10_type_22 : decode cX10_type 22 = .ok (.athrow, 1) := by decide +kernel
theorem dX10_type_23 : decode cX10_type 23 = .ok (.aload_n 0, 1) := by decide +kernel
theorem dX10_type_24 : decode cX10_type 24 = .ok (.getfield 19, 3) := by decide +kernel
theorem dX10_type_27 : decode cX10_type 27 = .ok (.invokevirtual 321, 3) := by decide +kernel
theorem dX10_type_30 : decode cX10_type 30 = .ok (.ifCond .eq 14, 3) := by decide +kernel
theorem dX10_type_33 : decode cX10_type 33 = .ok (.new 324, 3) := by decide +kernel
theorem dX10_type_36 : decode cX10_type 36 = .ok (.dup, 1) := by decide +kernel
theorem dX10_type_37 : decode cX10_type 37 = .ok (.ldc_w 326, 3) := by decide +kernel
theorem dX10_type_40 : decode cX10_type 40 = .ok (.invokespecial 328, 3) := by decide +kernel
theorem dX10_type_43 : decode cX10_type 43 = .ok (.athrow, 1) := by decide +kernel
theorem dX10_type_44 : decode cX10_type 44 = .ok (.aload_n 0, 1) := by decide +kernel
theorem dX10_type_45 : decode cX10_type 45 = .ok (.getfield 19, 3) := by decide +kernel
theorem dX10_type_48 : decode cX10_type 48 = .ok (.iload_n 1, 1) := by decide +kernel
theorem dX10_type_49 : decode cX10_type 49 = .ok (.invokevirtual 329, 3) := by decide +kernel
theorem dX10_type_52 : decode cX10_type 52 = .ok (.ireturn, 1) := by decide +kernel
set_option maxRecDepth 20000 in
theorem ggX10_execute_X6_countCommands : GoodIn wsX10_execute wsX6_countCommands := goodIn_ca (goodIn_r _ [19, 20, 21, 22, 23, 24, 18, 25, 26, 27, 28, 29, 30, 31, 32, 33, 34, 35, 36, 37, 38, 39, 40, 41, 42, 43, 44, 45, 46, 47, 48, 49, 50, 51, 52, 53, 54, 55, 56, 57, 58, 59, 60, 61, 62, 63, 64, 65, 66, 67, 68, 69, 70, 71, 72, 73, 74, 75, 76, 77, 78, 79, 80, 81, 82, 83, 84, 85, 86, 87, 88, 89, 90, 91, 92, 93, 94, 95, 96, 97, 98, 99, 100, 101, 102, 103, 104, 105, 106, 107, 108, 109, 110, 111, 398, 399, 400, 401, 402, 406, 407, 408, 409] (by decide +kernel) (by decide +kernel)) (goodIn_sub (fun _ h => List.mem_cons_of_mem _ (List.mem_append_left _ (List.mem_append_right _ h))) (by decide +kernel))
set_option maxRecDepth 20000 in
theorem gX10_execute_X6_countCommands : GoodIn wsX10_execute (wsV RX10 332 RX6 yX6_countCommands wsX6_countCommands) := goodIn_app (goodIn_of _ (by decide +kernel)) ggX10_execute_X6_countCommands
set_option maxRecDepth 20000 in
theorem ggX10_execute_X6_clear : GoodIn wsX10_execute wsX6_clear := goodIn_r _ [115, 21, 398, 399, 400, 401, 402] (by decide +kernel) (by decide +kernel)
set_option maxRecDepth 20000 in
theorem gX10_execute_X6_clear : GoodIn wsX10_execute (wsV RX10 338 RX6 yX6_clear wsX6_clear) := goodIn_app (goodIn_of _ (by decide +kernel)) ggX10_execute_X6_clear
set_option maxRecDepth 20000 in
theorem ggX10_execute_X9_copyFrom : GoodIn wsX10_execute wsX9_copyFrom := goodIn_r _ [120, 121, 122, 123, 124, 125, 126, 127, 128, 129, 130, 131, 132, 133, 134, 135, 136, 137, 138, 139, 140, 141, 142, 143, 144, 145, 146, 147, 148, 149, 150, 151, 152, 153, 154, 155, 156, 410, 411, 412, 413, 414, 415, 416, 417, 418, 419, 420, 421, 422, 423, 424, 425, 426, 427, 428, 429, 430] (by decide +kernel) (by decide +kernel)
set_option maxRecDepth 20000 in
theorem gX10_execute_X9_copyFrom : GoodIn wsX10_execute (wsV RX10 343 RX9 yX9_copyFrom wsX9_copyFrom) := goodIn_app (goodIn_of _ (by decide +kernel)) ggX10_execute_X9_copyFrom
set_option maxRecDepth 20000 in
theorem ggX10_execute_X6_rewind : GoodIn wsX10_execute wsX6_rewind := goodIn_r _ [25, 20, 398, 399, 400, 401, 402] (by decide +kernel) (by decide +kernel)
set_option maxRecDepth 20000 in
theorem gX10_execute_X6_rewind : GoodIn wsX10_execute (wsV RX10 346 RX6 yX6_rewind wsX6_rewind) := goodIn_app (goodIn_of _ (by decide +kernel)) ggX10_execute_X6_rewind
set_option maxRecDepth 20000 in
theorem ggX10_execute_X6_readNext : GoodIn wsX10_execute wsX6_readNext := goodIn_ca (goodIn_r _ [29, 20, 30, 31, 32, 18, 33, 21, 34, 35, 36, 37, 38, 39, 40, 41, 42, 43, 44, 45, 46, 47, 48, 49, 50, 51, 52, 53, 54, 55, 56, 57, 58, 59, 60, 61, 62, 63, 64, 65, 66, 67, 68, 69, 70, 71, 72, 73, 74, 75, 76, 77, 78, 79, 80, 81, 82, 83, 84, 85, 86, 87, 88, 89, 90, 91, 92, 93, 94, 95, 96, 97, 98, 99, 100, 101, 102, 103, 104, 105, 106, 107, 108, 109, 110, 111, 398, 399, 400, 401, 402, 406, 407, 408, 409] (by decide +kernel) (by decide +kernel)) (goodIn_sub (fun _ h => List.mem_cons_of_mem _ (List.mem_append_left _ (List.mem_append_right _ h))) (by decide +kernel))
set_option maxRecDepth 20000 in
theorem gX10_execute_X6_readNext : GoodIn wsX10_execute (wsV RX10 349 RX6 yX6_readNext wsX6_readNext) := goodIn_app (goodIn_of _ (by decide +kernel)) ggX10_execute_X6_readNext
set_option maxRecDepth 20000 in
theorem ggX10_execute_X4_perform : GoodIn wsX10_execute wsX4_perform := goodIn_ca (goodIn_ca (goodIn_r _ [163, 164, 165, 166, 167, 162, 168, 169, 170, 171, 172, 173, 174, 175, 176, 177, 178, 179, 180, 181, 182, 183, 184, 185, 186, 187, 188, 189, 190, 132, 191, 134, 192, 193, 194, 195, 196, 197, 44, 198, 199, 43, 45, 135, 136, 141, 200, 201, 202, 203, 204, 205, 206, 207, 208, 209, 210, 211, 212, 213, 214, 215, 216, 217, 218, 219, 220, 221, 222, 223, 224, 225, 226, 227, 228, 229, 230, 231, 232, 233, 234, 235, 148, 236, 150, 237, 238, 239, 240, 241, 242, 243, 244, 245, 246, 247, 248, 249, 250, 251, 252, 253, 254, 255, 256, 142, 143, 144, 257, 258, 259, 260, 261, 262, 263, 264, 265, 266, 267, 268, 269, 270, 271, 272, 273, 274, 275, 276, 277, 278, 279, 280, 281, 282, 151, 153, 154, 155, 156, 283, 284, 285, 286, 287, 288, 289, 290, 291, 292, 293, 294, 295, 296, 297, 298, 299, 300, 301, 302, 303, 304, 305, 306, 307, 308, 309, 310, 311, 312, 313, 314, 315, 316, 317, 318, 319, 320, 321, 322, 323, 324, 325, 326, 327, 328, 329, 330, 331, 332, 333, 334, 335, 336, 337, 338, 339, 340, 341, 342, 343, 344, 345, 346, 347, 348, 349, 350, 351, 352, 353, 354, 355, 356, 357, 358, 359, 360, 361, 362, 363, 364, 365, 366, 367, 368, 369, 370, 371, 372, 373, 374, 375, 376, 377, 378, 403, 404, 405, 410, 411, 412, 413, 414, 415, 416, 417, 418, 419, 420, 421, 422, 423, 424, 425, 426, 427, 428, 429, 430, 431, 432, 433, 434, 435, 436, 437, 438] (by decide +kernel) (by decide +kernel)) (goodIn_sub (fun _ h => List.mem_cons_of_mem _ (List.mem_append_left _ (List.mem_append_right _ h))) (by decide +kernel))) (goodIn_sub (fun _ h => List.mem_cons_of_mem _ (List.mem_append_right _ h)) (by decide +kernel))
set_option maxRecDepth 20000 in
theorem gX10_execute_X4_perform : GoodIn wsX10_execute (wsV RX10 359 RX4 yX4_perform wsX4_perform) := goodIn_app (goodIn_of _ (by decide +kernel)) ggX10_execute_X4_perform
set_option maxRecDepth 20000 in
theorem ggX10_execute_X3_keep : GoodIn wsX10_execute wsX3_keep := goodIn_r _ [383, 384, 385, 386, 387, 197, 44, 198, 388, 117, 118, 119, 120, 121, 122, 123, 124, 125, 126, 127, 128, 129, 130, 131, 132, 133, 134, 135, 136, 137, 138, 139, 140, 141, 142, 143, 144, 145, 146, 147, 148, 149, 150, 151, 152, 153, 154, 155, 156, 439, 440, 441, 410, 411, 412, 413, 414, 415, 416, 417, 418, 419, 420, 421, 422, 423, 424, 425, 426, 427, 428, 429, 430] (by decide +kernel) (by decide +kernel)
set_option maxRecDepth 20000 in
theorem gX10_execute_X3_keep : GoodIn wsX10_execute (wsV RX10 65 RX3 yX3_keep wsX3_keep) := goodIn_app (goodIn_of _ (by decide +kernel)) ggX10_execute_X3_keep
theorem dX10_execute_0 : decode cX10_execute 0 = .ok (.aload_n 0, 1) := by decide +kernel
theorem dX10_execute_1 : decode cX10_execute 1 = .ok (.getfield 19, 3) := by decide +kernel
theorem dX10_execute_4 : decode cX10_execute 4 = .ok (.invokevirtual 332, 3) := by decide +kernel
theorem dX10_execute_7 : decode cX10_execute 7 = .ok (.istore_n 1, 1) := by decide +kernel
theorem dX10_execute_8 : decode cX10_execute 8 = .ok (.iload_n 1, 1) := by decide +kernel
theorem dX10_execute_9 : decode cX10_execute 9 = .ok (.iconst (-1), 1) := by decide +kernel
theorem dX10_execute_10 : decode cX10_execute 10 = .ok (.if_icmp .ne 32, 3) := by decide +kernel
theorem dX10_execute_13 : decode cX10_execute 13 = .ok (.aload_n 0, 1) := by decide +kernel
theorem dX10_execute_14 : decode cX10_execute 14 = .ok (.aload_n 0, 1) := by decide +kernel
theorem dX10_execute_15 : decode cX10_execute 15 = .ok (.getfield 19, 3) := by decide +kernel
theorem dX10_execute_18 : decode cX10_execute 18 = .ok (.getfield 335, 3) := by decide +kernel
theorem dX10_execute_21 : decode cX10_execute 21 = .ok (.putfield 47, 3) := by decide +kernel
theorem dX10_execute_24 : decode cX10_execute 24 = .ok (.aload_n 0, 1) := by decide +kernel
theorem dX10_execute_25 : decode cX10_execute 25 = .ok (.getfield 19, 3) := by decide +kernel
theorem dX10_execute_28 : decode cX10_execute 28 = .ok (.invokevirtual 338, 3) := by decide +kernel
theorem dX10_execute_31 : decode cX10_execute 31 = .ok (.new 256, 3) := by decide +kernel
theorem dX10_execute_34 : decode cX10_execute 34 = .ok (.dup, 1) := by decide +kernel
theorem dX10_execute_35 : decode cX10_execute 35 = .ok (.ldc_w 341, 3) := by decide +kernel
theorem dX10_execute_38 : decode cX10_execute 38 = .ok (.invokespecial 260, 3) := by decide +kernel
theorem dX10_execute_41 : decode cX10_execute 41 = .ok (.athrow, 1) := by decide +kernel
theorem dX10_execute_42 : decode cX10_execute 42 = .ok (.aload_n 0, 1) := by decide +kernel
theorem dX10_execute_43 : decode cX10_execute 43 = .ok (.getfield 37, 3) := by decide +kernel
theorem dX10_execute_46 : decode cX10_execute 46 = .ok (.aload_n 0, 1) := by decide +kernel
theorem dX10_execute_47 : decode cX10_execute 47 = .ok (.getfield 10, 3) := by decide +kernel
theorem dX10_execute_50 : decode cX10_execute 50 = .ok (.getfield 62, 3) := by decide +kernel
theorem dX10_execute_53 : decode cX10_execute 53 = .ok (.invokevirtual 343, 3) := by decide +kernel
theorem dX10_execute_56 : decode cX10_execute 56 = .ok (.aload_n 0, 1) := by decide +kernel
theorem dX10_execute_57 : decode cX10_execute 57 = .ok (.getfield 19, 3) := by decide +kernel
theorem dX10_execute_60 : decode cX10_execute 60 = .ok (.invokevirtual 346, 3) := by decide +kernel
theorem dX10_execute_63 : decode cX10_execute 63 = .ok (.iconst 0, 1) := by decide +kernel
theorem dX10_execute_64 : decode cX10_execute 64 = .ok (.istore_n 2, 1) := by decide +kernel
theorem dX10_execute_65 : decode cX10_execute 65 = .ok (.iload_n 2, 1) := by decide +kernel
theorem dX10_execute_66 : decode cX10_execute 66 = .ok (.iload_n 1, 1) := by decide +kernel
theorem dX10_execute_67 : decode cX10_execute 67 = .ok (.if_icmp .ge 43, 3) := by decide +kernel
theorem dX10_execute_70 : decode cX10_execute 70 = .ok (.aload_n 0, 1) := by decide +kernel
theorem dX10_execute_71 : decode cX10_execute 71 = .ok (.getfield 19, 3) := by decide +kernel
theorem dX10_execute_74 : decode cX10_execute 74 = .ok (.invokevirtual 349, 3) := by decide +kernel
theorem dX10_execute_77 : decode cX10_execute 77 = .ok (.ifCond .eq 33, 3) := by decide +kernel
theorem dX10_execute_80 : decode cX10_execute 80 = .ok (.aload_n 0, 1) := by decide +kernel
theorem dX10_execute_81 : decode cX10_execute 81 = .ok (.getfield 10, 3) := by decide +kernel
theorem dX10_execute_84 : decode cX10_execute 84 = .ok (.aload_n 0, 1) := by decide +kernel
theorem dX10_execute_85 : decode cX10_execute 85 = .ok (.getfield 19, 3) := by decide +kernel
theorem dX10_execute_88 : decode cX10_execute 88 = .ok (.getfield 352, 3) := by decide +kernel
theorem dX10_execute_91 : decode cX10_execute 91 = .ok (.aload_n 0, 1) := by decide +kernel
theorem dX10_execute_92 : decode cX10_execute 92 = .ok (.getfield 19, 3) := by decide +kernel
theorem dX10_execute_95 : decode cX10_execute 95 = .ok (.getfield 356, 3) := by decide +kernel
theorem dX10_execute_98 : decode cX10_execute 98 = .ok (.invokevirtual 359, 3) := by decide +kernel
theorem dX10_execute_101 : decode cX10_execute 101 = .ok (.ifCond .eq 9, 3) := by decide +kernel
theorem dX10_execute_104 : decode cX10_execute 104 = .ok (.iinc 2 1, 3) := by decide +kernel
theorem dX10_execute_107 : decode cX10_execute 107 = .ok (.goto (-42), 3) := by decide +kernel
theorem dX10_execute_110 : decode cX10_execute 110 = .ok (.aload_n 0, 1) := by decide +kernel
theorem dX10_execute_111 : decode cX10_execute 111 = .ok (.getfield 19, 3) := by decide +kernel
theorem dX10_execute_114 : decode cX10_execute 114 = .ok (.invokevirtual 338, 3) := by decide +kernel
theorem dX10_execute_117 : decode cX10_execute 117 = .ok (.iload_n 2, 1) := by decide +kernel
theorem dX10_execute_118 : decode cX10_execute 118 = .ok (.iload_n 1, 1) := by decide +kernel
theorem dX10_execute_119 : decode cX10_execute 119 = .ok (.if_icmp .ge 33, 3) := by decide +kernel
theorem dX10_execute_122 : decode cX10_execute 122 = .ok (.aload_n 0, 1) := by decide +kernel
theorem dX10_execute_123 : decode cX10_execute 123 = .ok (.getfield 10, 3) := by decide +kernel
theorem dX10_execute_126 : decode cX10_execute 126 = .ok (.getfield 62, 3) := by decide +kernel
theorem dX10_execute_129 : decode cX10_execute 129 = .ok (.aload_n 0, 1) := by decide +kernel
theorem dX10_execute_130 : decode cX10_execute 130 = .ok (.getfield 37, 3) := by decide +kernel
theorem dX10_execute_133 : decode cX10_execute 133 = .ok (.invokevirtual 343, 3) := by decide +kernel
theorem dX10_execute_136 : decode cX10_execute 136 = .ok (.aload_n 0, 1) := by decide +kernel
theorem dX10_execute_137 : decode cX10_execute 137 = .ok (.iload_n 2, 1) := by decide +kernel
theorem dX10_execute_138 : decode cX10_execute 138 = .ok (.putfield 51, 3) := by decide +kernel
theorem dX10_execute_141 : decode cX10_execute 141 = .ok (.new 324, 3) := by decide +kernel
theorem dX10_execute_144 : decode cX10_execute 144 = .ok (.dup, 1) := by decide +kernel
theorem dX10_execute_145 : decode cX10_execute 145 = .ok (.ldc_w 363, 3) := by decide +kernel
theorem dX10_execute_148 : decode cX10_execute 148 = .ok (.invokespecial 328, 3) := by decide +kernel
theorem dX10_execute_151 : decode cX10_execute 151 = .ok (.athrow, 1) := by decide +kernel
theorem dX10_execute_152 : decode cX10_execute 152 = .ok (.aload_n 0, 1) := by decide +kernel
theorem dX10_execute_153 : decode cX10_execute 153 = .ok (.getfield 26, 3) := by decide +kernel
theorem dX10_execute_156 : decode cX10_execute 156 = .ok (.aload_n 0, 1) := by decide +kernel
theorem dX10_execute_157 : decode cX10_execute 157 = .ok (.getfield 37, 3) := by decide +kernel
theorem dX10_execute_160 : decode cX10_execute 160 = .ok (.invokevirtual 65, 3) := by decide +kernel
theorem dX10_execute_163 : decode cX10_execute 163 = .ok (.iload_n 1, 1) := by decide +kernel
theorem dX10_execute_164 : decode cX10_execute 164 = .ok (.ireturn, 1) := by decide +kernel
set_option maxRecDepth 20000 in
theorem ggX10_errorPosition_X10_found : GoodIn wsX10_errorPosition wsX10_found := goodIn_ca (goodIn_r _ [5, 6, 7] (by decide +kernel) (by decide +kernel)) (goodIn_sub (fun _ h => List.mem_cons_of_mem _ (List.mem_append_right _ h)) (by decide +kernel))
set_option maxRecDepth 20000 in
theorem gX10_errorPosition_X10_found : GoodIn wsX10_errorPosition (va_wsS RX10 140 yX10_found wsX10_found) := goodIn_app (goodIn_of _ (by decide +kernel)) ggX10_errorPosition_X10_found
theorem dX10_errorPosition_0 : decode cX10_errorPosition 0 = .ok (.aload_n 0, 1) := by decide +kernel
theorem dX10_errorPosition_1 : decode cX10_errorPosition 1 = .ok (.getfield 47, 3) := by decide +kernel
theorem dX10_errorPosition_4 : decode cX10_errorPosition 4 = .ok (.invokestatic 140, 3) := by decide +kernel
theorem dX10_errorPosition_7 : decode cX10_errorPosition 7 = .ok (.ireturn, 1) := by decide +kernel
set_option maxRecDepth 20000 in
theorem ggX10_failedCommand_X10_found : GoodIn wsX10_failedCommand wsX10_found := goodIn_ca (goodIn_r _ [5, 6, 7] (by decide +kernel) (by decide +kernel)) (goodIn_sub (fun _ h => List.mem_cons_of_mem _ (List.mem_append_right _ h)) (by decide +kernel))
set_option maxRecDepth 20000 in
theorem gX10_failedCommand_X10_found : GoodIn wsX10_failedCommand (va_wsS RX10 140 yX10_found wsX10_found) := goodIn_app (goodIn_of _ (by decide +kernel)) ggX10_failedCommand_X10_found
theorem dX10_failedCommand_0 : decode cX10_failedCommand 0 = .ok (.aload_n 0, 1) := by decide +kernel
theorem dX10_failedCommand_1 : decode cX10_failedCommand 1 = .ok (.getfield 51, 3) := by decide +kernel
theorem dX10_failedCommand_4 : decode cX10_failedCommand 4 = .ok (.invokestatic 140, 3) := by decide +kernel
theorem dX10_failedCommand_7 : decode cX10_failedCommand 7 = .ok (.ireturn, 1) := by decide +kernel
set_option maxRecDepth 20000 in
theorem ggX10_undo_X3_takeBack : GoodIn wsX10_undo wsX3_takeBack := goodIn_r _ [11, 12, 13, 14, 15, 16, 17, 18, 19, 20, 21, 22, 23, 24, 25, 26, 27, 28, 29, 30, 31, 32, 33, 34, 35, 36, 37, 38, 39, 40, 41, 42, 43, 44, 45, 46, 47, 48, 49, 50, 51, 52, 53, 54, 55, 65, 66, 67, 71, 72, 73, 74, 75, 76, 77, 78, 79, 80, 81, 82, 83, 84, 85, 86, 87, 88, 89, 90, 91] (by decide +kernel) (by decide +kernel)
set_option maxRecDepth 20000 in
theorem gX10_undo_X3_takeBack : GoodIn wsX10_undo (wsV RX10 368 RX3 yX3_takeBack wsX3_takeBack) := goodIn_app (goodIn_of _ (by decide +kernel)) ggX10_undo_X3_takeBack
theorem dX10_undo_0 : decode cX10_undo 0 = .ok (.aload_n 0, 1) := by decide +kernel
theorem dX10_undo_1 : decode cX10_undo 1 = .ok (.getfield 26, 3) := by decide +kernel
theorem dX10_undo_4 : decode cX10_undo 4 = .ok (.getfield 365, 3) := by decide +kernel
theorem dX10_undo_7 : decode cX10_undo 7 = .ok (.ifCond .ne 14, 3) := by decide +kernel
theorem dX10_undo_10 : decode cX10_undo 10 = .ok (.new 324, 3) := by decide +kernel
theorem dX10_undo_13 : decode cX10_undo 13 = .ok (.dup, 1) := by decide +kernel
theorem dX10_undo_14 : decode cX10_undo 14 = .ok (.ldc_w 366, 3) := by decide +kernel
theorem dX10_undo_17 : decode cX10_undo 17 = .ok (.invokespecial 328, 3) := by decide +kernel
theorem dX10_undo_20 : decode cX10_undo 20 = .ok (.athrow, 1) := by decide +kernel
theorem dX10_undo_21 : decode cX10_undo 21 = .ok (.aload_n 0, 1) := by decide +kernel
theorem dX10_undo_22 : decode cX10_undo 22 = .ok (.getfield 26, 3) := by decide +kernel
theorem dX10_undo_25 : decode cX10_undo 25 = .ok (.aload_n 0, 1) := by decide +kernel
theorem dX10_undo_26 : decode cX10_undo 26 = .ok (.getfield 10, 3) := by decide +kernel
theorem dX10_undo_29 : decode cX10_undo 29 = .ok (.getfield 62, 3) := by decide +kernel
theorem dX10_undo_32 : decode cX10_undo 32 = .ok (.invokevirtual 368, 3) := by decide +kernel
theorem dX10_undo_35 : decode cX10_undo 35 = .ok (.aload_n 0, 1) := by decide +kernel
theorem dX10_undo_36 : decode cX10_undo 36 = .ok (.getfield 26, 3) := by decide +kernel
theorem dX10_undo_39 : decode cX10_undo 39 = .ok (.getfield 365, 3) := by decide +kernel
theorem dX10_undo_42 : decode cX10_undo 42 = .ok (.ireturn, 1) := by decide +kernel
set_option maxRecDepth 20000 in
theorem ggX10_save_X9_copyFrom : GoodIn wsX10_save wsX9_copyFrom := goodIn_r _ [11, 12, 13, 14, 15, 16, 17, 18, 19, 20, 21, 22, 23, 24, 25, 26, 27, 28, 29, 30, 31, 32, 33, 34, 35, 36, 37, 38, 39, 40, 41, 42, 43, 44, 45, 46, 47, 60, 61, 62, 63, 64, 65, 66, 67, 74, 75, 76, 77, 78, 79, 80, 68, 69, 70, 71, 72, 73] (by decide +kernel) (by decide +kernel)
set_option maxRecDepth 20000 in
theorem gX10_save_X9_copyFrom : GoodIn wsX10_save (wsV RX10 343 RX9 yX9_copyFrom wsX9_copyFrom) := goodIn_app (goodIn_of _ (by decide +kernel)) ggX10_save_X9_copyFrom
theorem dX10_save_0 : decode cX10_save 0 = .ok (.aload_n 0, 1) := by decide +kernel
theorem dX10_save_1 : decode cX10_save 1 = .ok (.getfield 33, 3) := by decide +kernel
theorem dX10_save_4 : decode cX10_save 4 = .ok (.aload_n 0, 1) := by decide +kernel
theorem dX10_save_5 : decode cX10_save 5 = .ok (.getfield 10, 3) := by decide +kernel
theorem dX10_save_8 : decode cX10_save 8 = .ok (.getfield 62, 3) := by decide +kernel
theorem dX10_save_11 : decode cX10_save 11 = .ok (.invokevirtual 343, 3) := by decide +kernel
theorem dX10_save_14 : decode cX10_save 14 = .ok (.aload_n 0, 1) := by decide +kernel
theorem dX10_save_15 : decode cX10_save 15 = .ok (.iconst 1, 1) := by decide +kernel
theorem dX10_save_16 : decode cX10_save 16 = .ok (.putfield 371, 3) := by decide +kernel
theorem dX10_save_19 : decode cX10_save 19 = .ok (.aload_n 0, 1) := by decide +kernel
theorem dX10_save_20 : decode cX10_save 20 = .ok (.getfield 10, 3) := by decide +kernel
theorem dX10_save_23 : decode cX10_save 23 = .ok (.getfield 62, 3) := by decide +kernel
theorem dX10_save_26 : decode cX10_save 26 = .ok (.getfield 180, 3) := by decide +kernel
theorem dX10_save_29 : decode cX10_save 29 = .ok (.getfield 184, 3) := by decide +kernel
theorem dX10_save_32 : decode cX10_save 32 = .ok (.ireturn, 1) := by decide +kernel
set_option maxRecDepth 20000 in
theorem ggX10_restore_X9_copyFrom : GoodIn wsX10_restore wsX9_copyFrom := goodIn_r _ [14, 15, 16, 17, 18, 19, 20, 21, 22, 23, 24, 25, 26, 27, 28, 29, 30, 31, 32, 33, 34, 35, 36, 37, 38, 39, 40, 41, 42, 43, 44, 45, 46, 47, 48, 49, 50, 69, 70, 71, 72, 73, 74, 75, 76, 83, 84, 85, 86, 87, 88, 89, 77, 78, 79, 80, 81, 82] (by decide +kernel) (by decide +kernel)
set_option maxRecDepth 20000 in
theorem gX10_restore_X9_copyFrom : GoodIn wsX10_restore (wsV RX10 343 RX9 yX9_copyFrom wsX9_copyFrom) := goodIn_app (goodIn_of _ (by decide +kernel)) ggX10_restore_X9_copyFrom
set_option maxRecDepth 20000 in
theorem ggX10_restore_X3_clear : GoodIn wsX10_restore wsX3_clear := goodIn_r _ [55, 56, 90, 91, 92] (by decide +kernel) (by decide +kernel)
set_option maxRecDepth 20000 in
theorem gX10_restore_X3_clear : GoodIn wsX10_restore (wsV RX10 377 RX3 yX3_clear wsX3_clear) := goodIn_app (goodIn_of _ (by decide +kernel)) ggX10_restore_X3_clear
theorem dX10_restore_0 : decode cX10_restore 0 = .ok (.aload_n 0, 1) := by decide +kernel
theorem dX10_restore_1 : decode cX10_restore 1 = .ok (.getfield 371, 3) := by decide +kernel
theorem dX10_restore_4 : decode cX10_restore 4 = .ok (.ifCond .ne 14, 3) := by decide +kernel
theorem dX10_restore_7 : decode cX10_restore 7 = .ok (.new 324, 3) := by decide +kernel
theorem dX10_restore_10 : decode cX10_restore 10 = .ok (.dup, 1) := by decide +kernel
theorem dX10_restore_11 : decode cX10_restore 11 = .ok (.ldc_w 375, 3) := by decide +kernel
theorem dX10_restore_14 : decode cX10_restore 14 = .ok (.invokespecial 328, 3) := by decide +kernel
theorem dX10_restore_17 : decode cX10_restore 17 = .ok (.athrow, 1) := by decide +kernel
theorem dX10_restore_18 : decode cX10_restore 18 = .ok (.aload_n 0, 1) := by decide +kernel
theorem dX10_restore_19 : decode cX10_restore 19 = .ok (.getfield 10, 3) := by decide +kernel
theorem dX10_restore_22 : decode cX10_restore 22 = .ok (.getfield 62, 3) := by decide +kernel
theorem dX10_restore_25 : decode cX10_restore 25 = .ok (.aload_n 0, 1) := by decide +kernel
theorem dX10_restore_26 : decode cX10_restore 26 = .ok (.getfield 33, 3) := by decide +kernel
theorem dX10_restore_29 : decode cX10_restore 29 = .ok (.invokevirtual 343, 3) := by decide +kernel
theorem dX10_restore_32 : decode cX10_restore 32 = .ok (.aload_n 0, 1) := by decide +kernel
theorem dX10_restore_33 : decode cX10_restore 33 = .ok (.getfield 26, 3) := by decide +kernel
theorem dX10_restore_36 : decode cX10_restore 36 = .ok (.invokevirtual 377, 3) := by decide +kernel
theorem dX10_restore_39 : decode cX10_restore 39 = .ok (.aload_n 0, 1) := by decide +kernel
theorem dX10_restore_40 : decode cX10_restore 40 = .ok (.getfield 10, 3) := by decide +kernel
theorem dX10_restore_43 : decode cX10_restore 43 = .ok (.getfield 62, 3) := by decide +kernel
theorem dX10_restore_46 : decode cX10_restore 46 = .ok (.getfield 180, 3) := by decide +kernel
theorem dX10_restore_49 : decode cX10_restore 49 = .ok (.getfield 184, 3) := by decide +kernel
theorem dX10_restore_52 : decode cX10_restore 52 = .ok (.ireturn, 1) := by decide +kernel
theorem dX10_refuse_0 : decode cX10_refuse 0 = .ok (.iload_n 0, 1) := by decide +kernel
theorem dX10_refuse_1 : decode cX10_refuse 1 = .ok (.tableswitch 90 1 5 #[35, 46, 57, 68, 79], 35) := by decide +kernel
theorem dX10_refuse_36 : decode cX10_refuse 36 = .ok (.new 302, 3) := by decide +kernel
theorem dX10_refuse_39 : decode cX10_refuse 39 = .ok (.dup, 1) := by decide +kernel
theorem dX10_refuse_40 : decode cX10_refuse 40 = .ok (.ldc_w 378, 3) := by decide +kernel
theorem dX10_refuse_43 : decode cX10_refuse 43 = .ok (.invokespecial 306, 3) := by decide +kernel
theorem dX10_refuse_46 : decode cX10_refuse 46 = .ok (.athrow, 1) := by decide +kernel
theorem dX10_refuse_47 : decode cX10_refuse 47 = .ok (.new 256, 3) := by decide +kernel
theorem dX10_refuse_50 : decode cX10_refuse 50 = .ok (.dup, 1) := by decide +kernel
theorem dX10_refuse_51 : decode cX10_refuse 51 = .ok (.ldc_w 380, 3) := by decide +kernel
theorem dX10_refuse_54 : decode cX10_refuse 54 = .ok (.invokespecial 260, 3) := by decide +kernel
theorem dX10_refuse_57 : decode cX10_refuse 57 = .ok (.athrow, 1) := by decide +kernel
theorem dX10_refuse_58 : decode cX10_refuse 58 = .ok (.new 324, 3) := by decide +kernel
theorem dX10_refuse_61 : decode cX10_refuse 61 = .ok (.dup, 1) := by decide +kernel
theorem dX10_refuse_62 : decode cX10_refuse 62 = .ok (.ldc_w 382, 3) := by decide +kernel
theorem dX10_refuse_65 : decode cX10_refuse 65 = .ok (.invokespecial 328, 3) := by decide +kernel
theorem dX10_refuse_68 : decode cX10_refuse 68 = .ok (.athrow, 1) := by decide +kernel
theorem dX10_refuse_69 : decode cX10_refuse 69 = .ok (.new 384, 3) := by decide +kernel
theorem dX10_refuse_72 : decode cX10_refuse 72 = .ok (.dup, 1) := by decide +kernel
theorem dX10_refuse_73 : decode cX10_refuse 73 = .ok (.ldc_w 386, 3) := by decide +kernel
theorem dX10_refuse_76 : decode cX10_refuse 76 = .ok (.invokespecial 388, 3) := by decide +kernel
theorem dX10_refuse_79 : decode cX10_refuse 79 = .ok (.athrow, 1) := by decide +kernel
theorem dX10_refuse_80 : decode cX10_refuse 80 = .ok (.new 389, 3) := by decide +kernel
theorem dX10_refuse_83 : decode cX10_refuse 83 = .ok (.dup, 1) := by decide +kernel
theorem dX10_refuse_84 : decode cX10_refuse 84 = .ok (.ldc_w 391, 3) := by decide +kernel
theorem dX10_refuse_87 : decode cX10_refuse 87 = .ok (.invokespecial 393, 3) := by decide +kernel
theorem dX10_refuse_90 : decode cX10_refuse 90 = .ok (.athrow, 1) := by decide +kernel
theorem dX10_refuse_91 : decode cX10_refuse 91 = .ok (.return_, 1) := by decide +kernel
theorem dX10_found_0 : decode cX10_found 0 = .ok (.iload_n 0, 1) := by decide +kernel
theorem dX10_found_1 : decode cX10_found 1 = .ok (.iconst (-1), 1) := by decide +kernel
theorem dX10_found_2 : decode cX10_found 2 = .ok (.if_icmp .ne 14, 3) := by decide +kernel
theorem dX10_found_5 : decode cX10_found 5 = .ok (.new 384, 3) := by decide +kernel
theorem dX10_found_8 : decode cX10_found 8 = .ok (.dup, 1) := by decide +kernel
theorem dX10_found_9 : decode cX10_found 9 = .ok (.ldc_w 394, 3) := by decide +kernel
theorem dX10_found_12 : decode cX10_found 12 = .ok (.invokespecial 388, 3) := by decide +kernel
theorem dX10_found_15 : decode cX10_found 15 = .ok (.athrow, 1) := by decide +kernel
theorem dX10_found_16 : decode cX10_found 16 = .ok (.iload_n 0, 1) := by decide +kernel
theorem dX10_found_17 : decode cX10_found 17 = .ok (.ireturn, 1) := by decide +kernel
set_option maxRecDepth 20000 in
theorem ggX10_checkPorts_X1_hasPorts : GoodIn wsX10_checkPorts wsX1_hasPorts := goodIn_r _ [10, 11, 32, 33, 34, 35, 36, 37, 38] (by decide +kernel) (by decide +kernel)
set_option maxRecDepth 20000 in
theorem gX10_checkPorts_X1_hasPorts : GoodIn wsX10_checkPorts (wsV RX10 396 RX1 yX1_hasPorts wsX1_hasPorts) := goodIn_app (goodIn_of _ (by decide +kernel)) ggX10_checkPorts_X1_hasPorts
theorem dX10_checkPorts_0 : decode cX10_checkPorts 0 = .ok (.aload_n 0, 1) := by decide +kernel
theorem dX10_checkPorts_1 : decode cX10_checkPorts 1 = .ok (.getfield 10, 3) := by decide +kernel
theorem dX10_checkPorts_4 : decode cX10_checkPorts 4 = .ok (.getfield 62, 3) := by decide +kernel
theorem dX10_checkPorts_7 : decode cX10_checkPorts 7 = .ok (.getfield 86, 3) := by decide +kernel
theorem dX10_checkPorts_10 : decode cX10_checkPorts 10 = .ok (.iload_n 1, 1) := by decide +kernel
theorem dX10_checkPorts_11 : decode cX10_checkPorts 11 = .ok (.iload_n 2, 1) := by decide +kernel
theorem dX10_checkPorts_12 : decode cX10_checkPorts 12 = .ok (.invokevirtual 396, 3) := by decide +kernel
theorem dX10_checkPorts_15 : decode cX10_checkPorts 15 = .ok (.ifCond .ne 14, 3) := by decide +kernel
theorem dX10_checkPorts_18 : decode cX10_checkPorts 18 = .ok (.new 302, 3) := by decide +kernel
theorem dX10_checkPorts_21 : decode cX10_checkPorts 21 = .ok (.dup, 1) := by decide +kernel
theorem dX10_checkPorts_22 : decode cX10_checkPorts 22 = .ok (.ldc_w 400, 3) := by decide +kernel
theorem dX10_checkPorts_25 : decode cX10_checkPorts 25 = .ok (.invokespecial 306, 3) := by decide +kernel
theorem dX10_checkPorts_28 : decode cX10_checkPorts 28 = .ok (.athrow, 1) := by decide +kernel
theorem dX10_checkPorts_29 : decode cX10_checkPorts 29 = .ok (.return_, 1) := by decide +kernel
set_option maxRecDepth 20000 in
theorem ggX10_checkDifferentPorts_X10_checkPorts : GoodIn wsX10_checkDifferentPorts wsX10_checkPorts := goodIn_ca (goodIn_r _ [7, 8, 9, 10, 11, 12, 13, 14, 15, 16, 17, 18, 19, 20, 21, 22, 23, 24, 25, 26, 27, 28, 29, 30, 31, 32, 33, 34, 35, 36, 37, 38, 39, 40, 41, 42, 43, 44, 45] (by decide +kernel) (by decide +kernel)) (goodIn_sub (fun _ h => List.mem_cons_of_mem _ (List.mem_append_right _ h)) (by decide +kernel))
set_option maxRecDepth 20000 in
theorem gX10_checkDifferentPorts_X10_checkPorts : GoodIn wsX10_checkDifferentPorts (wsV RX10 98 RX10 yX10_checkPorts wsX10_checkPorts) := goodIn_app (goodIn_of _ (by decide +kernel)) ggX10_checkDifferentPorts_X10_checkPorts
theorem dX10_checkDifferentPorts_0 : decode cX10_checkDifferentPorts 0 = .ok (.aload_n 0, 1) := by decide +kernel
theorem dX10_checkDifferentPorts_1 : decode cX10_checkDifferentPorts 1 = .ok (.iload_n 1, 1) := by decide +kernel
theorem dX10_checkDifferentPorts_2 : decode cX10_checkDifferentPorts 2 = .ok (.iload_n 2, 1) := by decide +kernel
theorem dX10_checkDifferentPorts_3 : decode cX10_checkDifferentPorts 3 = .ok (.invokevirtual 98, 3) := by decide +kernel
theorem dX10_checkDifferentPorts_6 : decode cX10_checkDifferentPorts 6 = .ok (.iload_n 1, 1) := by decide +kernel
theorem dX10_checkDifferentPorts_7 : decode cX10_checkDifferentPorts 7 = .ok (.iload_n 2, 1) := by decide +kernel
theorem dX10_checkDifferentPorts_8 : decode cX10_checkDifferentPorts 8 = .ok (.if_icmp .ne 14, 3) := by decide +kernel
theorem dX10_checkDifferentPorts_11 : decode cX10_checkDifferentPorts 11 = .ok (.new 256, 3) := by decide +kernel
theorem dX10_checkDifferentPorts_14 : decode cX10_checkDifferentPorts 14 = .ok (.dup, 1) := by decide +kernel
theorem dX10_checkDifferentPorts_15 : decode cX10_checkDifferentPorts 15 = .ok (.ldc_w 402, 3) := by decide +kernel
theorem dX10_checkDifferentPorts_18 : decode cX10_checkDifferentPorts 18 = .ok (.invokespecial 260, 3) := by decide +kernel
theorem dX10_checkDifferentPorts_21 : decode cX10_checkDifferentPorts 21 = .ok (.athrow, 1) := by decide +kernel
theorem dX10_checkDifferentPorts_22 : decode cX10_checkDifferentPorts 22 = .ok (.return_, 1) := by decide +kernel
set_option maxRecDepth 20000 in
theorem ggX10_positionOfLeg_X10_checkPorts : GoodIn wsX10_positionOfLeg wsX10_checkPorts := goodIn_ca (goodIn_r _ [8, 9, 10, 1, 2, 3, 11, 12, 13, 14, 15, 16, 36, 37, 38, 39, 40, 41, 42, 43, 44, 45, 46, 47, 48, 49, 50, 51, 52, 53, 54, 55, 56, 57, 58, 59, 60, 61, 62] (by decide +kernel) (by decide +kernel)) (goodIn_sub (fun _ h => List.mem_cons_of_mem _ (List.mem_append_left _ (List.mem_append_left _ (List.mem_append_right _ h)))) (by decide +kernel))
set_option maxRecDepth 20000 in
theorem gX10_positionOfLeg_X10_checkPorts : GoodIn wsX10_positionOfLeg (wsV RX10 98 RX10 yX10_checkPorts wsX10_checkPorts) := goodIn_app (goodIn_of _ (by decide +kernel)) ggX10_positionOfLeg_X10_checkPorts
set_option maxRecDepth 20000 in
theorem ggX10_positionOfLeg_X1_find : GoodIn wsX10_positionOfLeg wsX1_find := goodIn_ca (goodIn_r _ [20, 21, 22, 23, 24, 25, 26, 27, 28, 29, 30, 56, 57, 58, 59, 60, 61, 62] (by decide +kernel) (by decide +kernel)) (goodIn_sub (fun _ h => List.mem_cons_of_mem _ (List.mem_append_left _ (List.mem_append_right _ h))) (by decide +kernel))
set_option maxRecDepth 20000 in
theorem gX10_positionOfLeg_X1_find : GoodIn wsX10_positionOfLeg (wsV RX10 102 RX1 yX1_find wsX1_find) := goodIn_app (goodIn_of _ (by decide +kernel)) ggX10_positionOfLeg_X1_find
set_option maxRecDepth 20000 in
theorem ggX10_positionOfLeg_X10_found : GoodIn wsX10_positionOfLeg wsX10_found := goodIn_ca (goodIn_r _ [33, 34, 35] (by decide +kernel) (by decide +kernel)) (goodIn_sub (fun _ h => List.mem_cons_of_mem _ (List.mem_append_right _ h)) (by decide +kernel))
set_option maxRecDepth 20000 in
theorem gX10_positionOfLeg_X10_found : GoodIn wsX10_positionOfLeg (va_wsS RX10 140 yX10_found wsX10_found) := goodIn_app (goodIn_of _ (by decide +kernel)) ggX10_positionOfLeg_X10_found
theorem dX10_positionOfLeg_0 : decode cX10_positionOfLeg 0 = .ok (.aload_n 0, 1) := by decide +kernel
theorem dX10_positionOfLeg_1 : decode cX10_positionOfLeg 1 = .ok (.iload_n 1, 1) := by decide +kernel
theorem dX10_positionOfLeg_2 : decode cX10_positionOfLeg 2 = .ok (.iload_n 2, 1) := by decide +kernel
theorem dX10_positionOfLeg_3 : decode cX10_positionOfLeg 3 = .ok (.invokevirtual 98, 3) := by decide +kernel
theorem dX10_positionOfLeg_6 : decode cX10_positionOfLeg 6 = .ok (.aload_n 0, 1) := by decide +kernel
theorem dX10_positionOfLeg_7 : decode cX10_positionOfLeg 7 = .ok (.getfield 10, 3) := by decide +kernel
theorem dX10_positionOfLeg_10 : decode cX10_positionOfLeg 10 = .ok (.getfield 62, 3) := by decide +kernel
theorem dX10_positionOfLeg_13 : decode cX10_positionOfLeg 13 = .ok (.getfield 86, 3) := by decide +kernel
theorem dX10_positionOfLeg_16 : decode cX10_positionOfLeg 16 = .ok (.iload_n 1, 1) := by decide +kernel
theorem dX10_positionOfLeg_17 : decode cX10_positionOfLeg 17 = .ok (.iload_n 2, 1) := by decide +kernel
theorem dX10_positionOfLeg_18 : decode cX10_positionOfLeg 18 = .ok (.invokevirtual 102, 3) := by decide +kernel
theorem dX10_positionOfLeg_21 : decode cX10_positionOfLeg 21 = .ok (.invokestatic 140, 3) := by decide +kernel
theorem dX10_positionOfLeg_24 : decode cX10_positionOfLeg 24 = .ok (.ireturn, 1) := by decide +kernel
theorem dX10_checkPosition_0 : decode cX10_checkPosition 0 = .ok (.iload_n 1, 1) := by decide +kernel
theorem dX10_checkPosition_1 : decode cX10_checkPosition 1 = .ok (.ifCond .lt 20, 3) := by decide +kernel
theorem dX10_checkPosition_4 : decode cX10_checkPosition 4 = .ok (.iload_n 1, 1) := by decide +kernel
theorem dX10_checkPosition_5 : decode cX10_checkPosition 5 = .ok (.aload_n 0, 1) := by decide +kernel
theorem dX10_checkPosition_6 : decode cX10_checkPosition 6 = .ok (.getfield 10, 3) := by decide +kernel
theorem dX10_checkPosition_9 : decode cX10_checkPosition 9 = .ok (.getfield 62, 3) := by decide +kernel
theorem dX10_checkPosition_12 : decode cX10_checkPosition 12 = .ok (.getfield 86, 3) := by decide +kernel
theorem dX10_checkPosition_15 : decode cX10_checkPosition 15 = .ok (.getfield 95, 3) := by decide +kernel
theorem dX10_checkPosition_18 : decode cX10_checkPosition 18 = .ok (.if_icmp .lt 14, 3) := by decide +kernel
theorem dX10_checkPosition_21 : decode cX10_checkPosition 21 = .ok (.new 302, 3) := by decide +kernel
theorem dX10_checkPosition_24 : decode cX10_checkPosition 24 = .ok (.dup, 1) := by decide +kernel
theorem dX10_checkPosition_25 : decode cX10_checkPosition 25 = .ok (.ldc_w 404, 3) := by decide +kernel
theorem dX10_checkPosition_28 : decode cX10_checkPosition 28 = .ok (.invokespecial 306, 3) := by decide +kernel
theorem dX10_checkPosition_31 : decode cX10_checkPosition 31 = .ok (.athrow, 1) := by decide +kernel
theorem dX10_checkPosition_32 : decode cX10_checkPosition 32 = .ok (.return_, 1) := by decide +kernel
set_option maxRecDepth 20000 in
theorem ggX10_checkSubscriber_X8_has : GoodIn wsX10_checkSubscriber wsX8_has := goodIn_r _ [10, 11, 32, 33, 34, 35, 36, 37] (by decide +kernel) (by decide +kernel)
set_option maxRecDepth 20000 in
theorem gX10_checkSubscriber_X8_has : GoodIn wsX10_checkSubscriber (wsV RX10 406 RX8 yX8_has wsX8_has) := goodIn_app (goodIn_of _ (by decide +kernel)) ggX10_checkSubscriber_X8_has
theorem dX10_checkSubscriber_0 : decode cX10_checkSubscriber 0 = .ok (.aload_n 0, 1) := by decide +kernel
theorem dX10_checkSubscriber_1 : decode cX10_checkSubscriber 1 = .ok (.getfield 10, 3) := by decide +kernel
theorem dX10_checkSubscriber_4 : decode cX10_checkSubscriber 4 = .ok (.getfield 62, 3) := by decide +kernel
theorem dX10_checkSubscriber_7 : decode cX10_checkSubscriber 7 = .ok (.getfield 180, 3) := by decide +kernel
theorem dX10_checkSubscriber_10 : decode cX10_checkSubscriber 10 = .ok (.iload_n 1, 1) := by decide +kernel
theorem dX10_checkSubscriber_11 : decode cX10_checkSubscriber 11 = .ok (.invokevirtual 406, 3) := by decide +kernel
theorem dX10_checkSubscriber_14 : decode cX10_checkSubscriber 14 = .ok (.ifCond .ne 14, 3) := by decide +kernel
theorem dX10_checkSubscriber_17 : decode cX10_checkSubscriber 17 = .ok (.new 302, 3) := by decide +kernel
theorem dX10_checkSubscriber_20 : decode cX10_checkSubscriber 20 = .ok (.dup, 1) := by decide +kernel
theorem dX10_checkSubscriber_21 : decode cX10_checkSubscriber 21 = .ok (.ldc_w 410, 3) := by decide +kernel
theorem dX10_checkSubscriber_24 : decode cX10_checkSubscriber 24 = .ok (.invokespecial 306, 3) := by decide +kernel
theorem dX10_checkSubscriber_27 : decode cX10_checkSubscriber 27 = .ok (.athrow, 1) := by decide +kernel
theorem dX10_checkSubscriber_28 : decode cX10_checkSubscriber 28 = .ok (.return_, 1) := by decide +kernel
theorem dX11_init_0 : decode cX11_init 0 = .ok (.aload_n 0, 1) := by decide +kernel
theorem dX11_init_1 : decode cX11_init 1 = .ok (.invokespecial 3, 3) := by decide +kernel
theorem dX11_init_4 : decode cX11_init 4 = .ok (.aload_n 0, 1) := by decide +kernel
theorem dX11_init_5 : decode cX11_init 5 = .ok (.sipush 337, 3) := by decide +kernel
theorem dX11_init_8 : decode cX11_init 8 = .ok (.newarray .int, 2) := by decide +kernel
theorem dX11_init_10 : decode cX11_init 10 = .ok (.putfield 9, 3) := by decide +kernel
theorem dX11_init_13 : decode cX11_init 13 = .ok (.aload_n 0, 1) := by decide +kernel
theorem dX11_init_14 : decode cX11_init 14 = .ok (.sipush 337, 3) := by decide +kernel
theorem dX11_init_17 : decode cX11_init 17 = .ok (.newarray .int, 2) := by decide +kernel
theorem dX11_init_19 : decode cX11_init 19 = .ok (.putfield 13, 3) := by decide +kernel
theorem dX11_init_22 : decode cX11_init 22 = .ok (.aload_n 0, 1) := by decide +kernel
theorem dX11_init_23 : decode cX11_init 23 = .ok (.sipush 337, 3) := by decide +kernel
theorem dX11_init_26 : decode cX11_init 26 = .ok (.newarray .int, 2) := by decide +kernel
theorem dX11_init_28 : decode cX11_init 28 = .ok (.putfield 16, 3) := by decide +kernel
theorem dX11_init_31 : decode cX11_init 31 = .ok (.aload_n 0, 1) := by decide +kernel
theorem dX11_init_32 : decode cX11_init 32 = .ok (.sipush 2696, 3) := by decide +kernel
theorem dX11_init_35 : decode cX11_init 35 = .ok (.newarray .int, 2) := by decide +kernel
theorem dX11_init_37 : decode cX11_init 37 = .ok (.putfield 19, 3) := by decide +kernel
theorem dX11_init_40 : decode cX11_init 40 = .ok (.aload_n 0, 1) := by decide +kernel
theorem dX11_init_41 : decode cX11_init 41 = .ok (.bipush 100, 2) := by decide +kernel
theorem dX11_init_43 : decode cX11_init 43 = .ok (.newarray .int, 2) := by decide +kernel
theorem dX11_init_45 : decode cX11_init 45 = .ok (.putfield 22, 3) := by decide +kernel
theorem dX11_init_48 : decode cX11_init 48 = .ok (.aload_n 0, 1) := by decide +kernel
theorem dX11_init_49 : decode cX11_init 49 = .ok (.bipush 6, 2) := by decide +kernel
theorem dX11_init_51 : decode cX11_init 51 = .ok (.newarray .int, 2) := by decide +kernel
theorem dX11_init_53 : decode cX11_init 53 = .ok (.putfield 25, 3) := by decide +kernel
theorem dX11_init_56 : decode cX11_init 56 = .ok (.aload_n 0, 1) := by decide +kernel
theorem dX11_init_57 : decode cX11_init 57 = .ok (.bipush 6, 2) := by decide +kernel
theorem dX11_init_59 : decode cX11_init 59 = .ok (.newarray .boolean, 2) := by decide +kernel
theorem dX11_init_61 : decode cX11_init 61 = .ok (.putfield 28, 3) := by decide +kernel
theorem dX11_init_64 : decode cX11_init 64 = .ok (.aload_n 0, 1) := by decide +kernel
theorem dX11_init_65 : decode cX11_init 65 = .ok (.bipush 40, 2) := by decide +kernel
theorem dX11_init_67 : decode cX11_init 67 = .ok (.newarray .char, 2) := by decide +kernel
theorem dX11_init_69 : decode cX11_init 69 = .ok (.putfield 32, 3) := by decide +kernel
theorem dX11_init_72 : decode cX11_init 72 = .ok (.aload_n 0, 1) := by decide +kernel
theorem dX11_init_73 : decode cX11_init 73 = .ok (.bipush 60, 2) := by decide +kernel
theorem dX11_init_75 : decode cX11_init 75 = .ok (.newarray .char, 2) := by decide +kernel
theorem dX11_init_77 : decode cX11_init 77 = .ok (.putfield 36, 3) := by decide +kernel
theorem dX11_init_80 : decode cX11_init 80 = .ok (.aload_n 0, 1) := by decide +kernel
theorem dX11_init_81 : decode cX11_init 81 = .ok (.iconst (-1), 1) := by decide +kernel
theorem dX11_init_82 : decode cX11_init 82 = .ok (.putfield 39, 3) := by decide +kernel
theorem dX11_init_85 : decode cX11_init 85 = .ok (.aload_n 0, 1) := by decide +kernel
theorem dX11_init_86 : decode cX11_init 86 = .ok (.iconst (-1), 1) := by decide +kernel
theorem dX11_init_87 : decode cX11_init 87 = .ok (.putfield 43, 3) := by decide +kernel
theorem dX11_init_90 : decode cX11_init 90 = .ok (.aload_n 0, 1) := by decide +kernel
theorem dX11_init_91 : decode cX11_init 91 = .ok (.sipush 300, 3) := by decide +kernel
theorem dX11_init_94 : decode cX11_init 94 = .ok (.newarray .int, 2) := by decide +kernel
theorem dX11_init_96 : decode cX11_init 96 = .ok (.putfield 46, 3) := by decide +kernel
theorem dX11_init_99 : decode cX11_init 99 = .ok (.return_, 1) := by decide +kernel
theorem dX11_thrown_0 : decode cX11_thrown 0 = .ok (.aload_n 0, 1) := by decide +kernel
theorem dX11_thrown_1 : decode cX11_thrown 1 = .ok (.getfield 49, 3) := by decide +kernel
theorem dX11_thrown_4 : decode cX11_thrown 4 = .ok (.ireturn, 1) := by decide +kernel
theorem dX11_in_0 : decode cX11_in 0 = .ok (.iload_n 0, 1) := by decide +kernel
theorem dX11_in_1 : decode cX11_in 1 = .ok (.iload_n 1, 1) := by decide +kernel
theorem dX11_in_2 : decode cX11_in 2 = .ok (.if_icmp .lt 12, 3) := by decide +kernel
theorem dX11_in_5 : decode cX11_in 5 = .ok (.iload_n 0, 1) := by decide +kernel
theorem dX11_in_6 : decode cX11_in 6 = .ok (.iload_n 2, 1) := by decide +kernel
theorem dX11_in_7 : decode cX11_in 7 = .ok (.if_icmp .gt 7, 3) := by decide +kernel
theorem dX11_in_10 : decode cX11_in 10 = .ok (.iconst 1, 1) := by decide +kernel
theorem dX11_in_11 : decode cX11_in 11 = .ok (.goto 4, 3) := by decide +kernel
theorem dX11_in_14 : decode cX11_in 14 = .ok (.iconst 0, 1) := by decide +kernel
theorem dX11_in_15 : decode cX11_in 15 = .ok (.ireturn, 1) := by decide +kernel
theorem dX11_keep_0 : decode cX11_keep 0 = .ok (.aload_n 0, 1) := by decide +kernel
theorem dX11_keep_1 : decode cX11_keep 1 = .ok (.iconst 0, 1) := by decide +kernel
theorem dX11_keep_2 : decode cX11_keep 2 = .ok (.putfield 49, 3) := by decide +kernel
theorem dX11_keep_5 : decode cX11_keep 5 = .ok (.aload_n 0, 1) := by decide +kernel
theorem dX11_keep_6 : decode cX11_keep 6 = .ok (.getfield 9, 3) := by decide +kernel
theorem dX11_keep_9 : decode cX11_keep 9 = .ok (.iconst 0, 1) := by decide +kernel
theorem dX11_keep_10 : decode cX11_keep 10 = .ok (.aload_n 0, 1) := by decide +kernel
theorem dX11_keep_11 : decode cX11_keep 11 = .ok (.getfield 13, 3) := by decide +kernel
theorem dX11_keep_14 : decode cX11_keep 14 = .ok (.iconst 0, 1) := by decide +kernel
theorem dX11_keep_15 : decode cX11_keep 15 = .ok (.sipush 337, 3) := by decide +kernel
theorem dX11_keep_18 : decode cX11_keep 18 = .ok (.invokestatic 52, 3) := by decide +kernel
theorem dX11_keep_21 : decode cX11_keep 21 = .ok (.return_, 1) := by decide +kernel
theorem dX11_ends_0 : decode cX11_ends 0 = .ok (.aload_n 0, 1) := by decide +kernel
theorem dX11_ends_1 : decode cX11_ends 1 = .ok (.getfield 49, 3) := by decide +kernel
theorem dX11_ends_4 : decode cX11_ends 4 = .ok (.ifCond .le 21, 3) := by decide +kernel
theorem dX11_ends_7 : decode cX11_ends 7 = .ok (.aload_n 0, 1) := by decide +kernel
theorem dX11_ends_8 : decode cX11_ends 8 = .ok (.getfield 13, 3) := by decide +kernel
theorem dX11_ends_11 : decode cX11_ends 11 = .ok (.iconst 0, 1) := by decide +kernel
theorem dX11_ends_12 : decode cX11_ends 12 = .ok (.aload_n 0, 1) := by decide +kernel
theorem dX11_ends_13 : decode cX11_ends 13 = .ok (.getfield 9, 3) := by decide +kernel
theorem dX11_ends_16 : decode cX11_ends 16 = .ok (.iconst 0, 1) := by decide +kernel
theorem dX11_ends_17 : decode cX11_ends 17 = .ok (.sipush 337, 3) := by decide +kernel
theorem dX11_ends_20 : decode cX11_ends 20 = .ok (.invokestatic 52, 3) := by decide +kernel
theorem dX11_ends_23 : decode cX11_ends 23 = .ok (.iconst 0, 1) := by decide +kernel
theorem dX11_ends_24 : decode cX11_ends 24 = .ok (.ireturn, 1) := by decide +kernel
theorem dX11_ends_25 : decode cX11_ends 25 = .ok (.aload_n 0, 1) := by decide +kernel
theorem dX11_ends_26 : decode cX11_ends 26 = .ok (.getfield 58, 3) := by decide +kernel
theorem dX11_ends_29 : decode cX11_ends 29 = .ok (.bipush 8, 2) := by decide +kernel
theorem dX11_ends_31 : decode cX11_ends 31 = .ok (.if_icmp .ne 31, 3) := by decide +kernel
theorem dX11_ends_34 : decode cX11_ends 34 = .ok (.aload_n 0, 1) := by decide +kernel
theorem dX11_ends_35 : decode cX11_ends 35 = .ok (.getfield 19, 3) := by decide +kernel
theorem dX11_ends_38 : decode cX11_ends 38 = .ok (.sipush 337, 3) := by decide +kernel
theorem dX11_ends_41 : decode cX11_ends 41 = .ok (.aload_n 0, 1) := by decide +kernel
theorem dX11_ends_42 : decode cX11_ends 42 = .ok (.getfield 19, 3) := by decide +kernel
theorem dX11_ends_45 : decode cX11_ends 45 = .ok (.iconst 0, 1) := by decide +kernel
theorem dX11_ends_46 : decode cX11_ends 46 = .ok (.sipush 2359, 3) := by decide +kernel
theorem dX11_ends_49 : decode cX11_ends 49 = .ok (.invokestatic 52, 3) := by decide +kernel
theorem dX11_ends_52 : decode cX11_ends 52 = .ok (.aload_n 0, 1) := by decide +kernel
theorem dX11_ends_53 : decode cX11_ends 53 = .ok (.dup, 1) := by decide +kernel
theorem dX11_ends_54 : decode cX11_ends 54 = .ok (.getfield 58, 3) := by decide +kernel
theorem dX11_ends_57 : decode cX11_ends 57 = .ok (.iconst 1, 1) := by decide +kernel
theorem dX11_ends_58 : decode cX11_ends 58 = .ok (.isub, 1) := by decide +kernel
theorem dX11_ends_59 : decode cX11_ends 59 = .ok (.putfield 58, 3) := by decide +kernel
theorem dX11_ends_62 : decode cX11_ends 62 = .ok (.aload_n 0, 1) := by decide +kernel
theorem dX11_ends_63 : decode cX11_ends 63 = .ok (.getfield 13, 3) := by decide +kernel
theorem dX11_ends_66 : decode cX11_ends 66 = .ok (.iconst 0, 1) := by decide +kernel
theorem dX11_ends_67 : decode cX11_ends 67 = .ok (.aload_n 0, 1) := by decide +kernel
theorem dX11_ends_68 : decode cX11_ends 68 = .ok (.getfield 19, 3) := by decide +kernel
theorem dX11_ends_71 : decode cX11_ends 71 = .ok (.sipush 337, 3) := by decide +kernel
theorem dX11_ends_74 : decode cX11_ends 74 = .ok (.aload_n 0, 1) := by decide +kernel
theorem dX11_ends_75 : decode cX11_ends 75 = .ok (.getfield 58, 3) := by decide +kernel
theorem dX11_ends_78 : decode cX11_ends 78 = .ok (.imul, 1) := by decide +kernel
theorem dX11_ends_79 : decode cX11_ends 79 = .ok (.sipush 337, 3) := by decide +kernel
theorem dX11_ends_82 : decode cX11_ends 82 = .ok (.invokestatic 52, 3) := by decide +kernel
theorem dX11_ends_85 : decode cX11_ends 85 = .ok (.aload_n 0, 1) := by decide +kernel
theorem dX11_ends_86 : decode cX11_ends 86 = .ok (.dup, 1) := by decide +kernel
theorem dX11_ends_87 : decode cX11_ends 87 = .ok (.getfield 58, 3) := by decide +kernel
theorem dX11_ends_90 : decode cX11_ends 90 = .ok (.iconst 1, 1) := by decide +kernel
theorem dX11_ends_91 : decode cX11_ends 91 = .ok (.iadd, 1) := by decide +kernel
theorem dX11_ends_92 : decode cX11_ends 92 = .ok (.putfield 58, 3) := by decide +kernel
theorem dX11_ends_95 : decode cX11_ends 95 = .ok (.iload_n 1, 1) := by decide +kernel
theorem dX11_ends_96 : decode cX11_ends 96 = .ok (.ireturn, 1) := by decide +kernel
theorem dX11_fails_0 : decode cX11_fails 0 = .ok (.aload_n 0, 1) := by decide +kernel
theorem dX11_fails_1 : decode cX11_fails 1 = .ok (.iload_n 1, 1) := by decide +kernel
theorem dX11_fails_2 : decode cX11_fails 2 = .ok (.putfield 49, 3) := by decide +kernel
theorem dX11_fails_5 : decode cX11_fails 5 = .ok (.iconst 0, 1) := by decide +kernel
theorem dX11_fails_6 : decode cX11_fails 6 = .ok (.ireturn, 1) := by decide +kernel
theorem dX11_isThere_0 : decode cX11_isThere 0 = .ok (.aload_n 0, 1) := by decide +kernel
theorem dX11_isThere_1 : decode cX11_isThere 1 = .ok (.iload_n 1, 1) := by decide +kernel
theorem dX11_isThere_2 : decode cX11_isThere 2 = .ok (.ifCond .eq 7, 3) := by decide +kernel
theorem dX11_isThere_5 : decode cX11_isThere 5 = .ok (.iconst 0, 1) := by decide +kernel
theorem dX11_isThere_6 : decode cX11_isThere 6 = .ok (.goto 4, 3) := by decide +kernel
theorem dX11_isThere_9 : decode cX11_isThere 9 = .ok (.iconst 1, 1) := by decide +kernel
theorem dX11_isThere_10 : decode cX11_isThere 10 = .ok (.putfield 49, 3) := by decide +kernel
theorem dX11_isThere_13 : decode cX11_isThere 13 = .ok (.iload_n 1, 1) := by decide +kernel
theorem dX11_isThere_14 : decode cX11_isThere 14 = .ok (.ireturn, 1) := by decide +kernel
set_option maxRecDepth 20000 in
theorem ggX11_arePorts_X11_in : GoodIn wsX11_arePorts wsX11_in := goodIn_r _ [5] (by decide +kernel) (by decide +kernel)
set_option maxRecDepth 20000 in
theorem gX11_arePorts_X11_in : GoodIn wsX11_arePorts (va_wsS RX11 61 yX11_in wsX11_in) := goodIn_app (goodIn_of _ (by decide +kernel)) ggX11_arePorts_X11_in
theorem dX11_arePorts_0 : decode cX11_arePorts 0 = .ok (.iload_n 1, 1) := by decide +kernel
theorem dX11_arePorts_1 : decode cX11_arePorts 1 = .ok (.iconst 0, 1) := by decide +kernel
theorem dX11_arePorts_2 : decode cX11_arePorts 2 = .ok (.aload_n 0, 1) := by decide +kernel
theorem dX11_arePorts_3 : decode cX11_arePorts 3 = .ok (.getfield 9, 3) := by decide +kernel
theorem dX11_arePorts_6 : decode cX11_arePorts 6 = .ok (.iconst 0, 1) := by decide +kernel
theorem dX11_arePorts_7 : decode cX11_arePorts 7 = .ok (.iaload, 1) := by decide +kernel
theorem dX11_arePorts_8 : decode cX11_arePorts 8 = .ok (.iconst 1, 1) := by decide +kernel
theorem dX11_arePorts_9 : decode cX11_arePorts 9 = .ok (.isub, 1) := by decide +kernel
theorem dX11_arePorts_10 : decode cX11_arePorts 10 = .ok (.invokestatic 61, 3) := by decide +kernel
theorem dX11_arePorts_13 : decode cX11_arePorts 13 = .ok (.ifCond .eq 23, 3) := by decide +kernel
theorem dX11_arePorts_16 : decode cX11_arePorts 16 = .ok (.iload_n 2, 1) := by decide +kernel
theorem dX11_arePorts_17 : decode cX11_arePorts 17 = .ok (.iconst 0, 1) := by decide +kernel
theorem dX11_arePorts_18 : decode cX11_arePorts 18 = .ok (.aload_n 0, 1) := by decide +kernel
theorem dX11_arePorts_19 : decode cX11_arePorts 19 = .ok (.getfield 9, 3) := by decide +kernel
theorem dX11_arePorts_22 : decode cX11_arePorts 22 = .ok (.iconst 0, 1) := by decide +kernel
theorem dX11_arePorts_23 : decode cX11_arePorts 23 = .ok (.iaload, 1) := by decide +kernel
theorem dX11_arePorts_24 : decode cX11_arePorts 24 = .ok (.iconst 1, 1) := by decide +kernel
theorem dX11_arePorts_25 : decode cX11_arePorts 25 = .ok (.isub, 1) := by decide +kernel
theorem dX11_arePorts_26 : decode cX11_arePorts 26 = .ok (.invokestatic 61, 3) := by decide +kernel
theorem dX11_arePorts_29 : decode cX11_arePorts 29 = .ok (.ifCond .eq 7, 3) := by decide +kernel
theorem dX11_arePorts_32 : decode cX11_arePorts 32 = .ok (.iconst 1, 1) := by decide +kernel
theorem dX11_arePorts_33 : decode cX11_arePorts 33 = .ok (.goto 4, 3) := by decide +kernel
theorem dX11_arePorts_36 : decode cX11_arePorts 36 = .ok (.iconst 0, 1) := by decide +kernel
theorem dX11_arePorts_37 : decode cX11_arePorts 37 = .ok (.ireturn, 1) := by decide +kernel
set_option maxRecDepth 20000 in
theorem ggX11_isSubscriber_X11_in : GoodIn wsX11_isSubscriber wsX11_in := goodIn_r _ [5] (by decide +kernel) (by decide +kernel)
set_option maxRecDepth 20000 in
theorem gX11_isSubscriber_X11_in : GoodIn wsX11_isSubscriber (va_wsS RX11 61 yX11_in wsX11_in) := goodIn_app (goodIn_of _ (by decide +kernel)) ggX11_isSubscriber_X11_in
theorem dX11_isSubscriber_0 : decode cX11_isSubscriber 0 = .ok (.iload_n 1, 1) := by decide +kernel
theorem dX11_isSubscriber_1 : decode cX11_isSubscriber 1 = .ok (.iconst 0, 1) := by decide +kernel
theorem dX11_isSubscriber_2 : decode cX11_isSubscriber 2 = .ok (.aload_n 0, 1) := by decide +kernel
theorem dX11_isSubscriber_3 : decode cX11_isSubscriber 3 = .ok (.getfield 9, 3) := by decide +kernel
theorem dX11_isSubscriber_6 : decode cX11_isSubscriber 6 = .ok (.iconst 1, 1) := by decide +kernel
theorem dX11_isSubscriber_7 : decode cX11_isSubscriber 7 = .ok (.iaload, 1) := by decide +kernel
theorem dX11_isSubscriber_8 : decode cX11_isSubscriber 8 = .ok (.iconst 1, 1) := by decide +kernel
theorem dX11_isSubscriber_9 : decode cX11_isSubscriber 9 = .ok (.isub, 1) := by decide +kernel
theorem dX11_isSubscriber_10 : decode cX11_isSubscriber 10 = .ok (.invokestatic 61, 3) := by decide +kernel
theorem dX11_isSubscriber_13 : decode cX11_isSubscriber 13 = .ok (.ireturn, 1) := by decide +kernel
theorem dX11_leg_0 : decode cX11_leg 0 = .ok (.aload_n 0, 1) := by decide +kernel
theorem dX11_leg_1 : decode cX11_leg 1 = .ok (.getfield 9, 3) := by decide +kernel
theorem dX11_leg_4 : decode cX11_leg 4 = .ok (.bipush 7, 2) := by decide +kernel
theorem dX11_leg_6 : decode cX11_leg 6 = .ok (.iconst 3, 1) := by decide +kernel
theorem dX11_leg_7 : decode cX11_leg 7 = .ok (.bipush 10, 2) := by decide +kernel
theorem dX11_leg_9 : decode cX11_leg 9 = .ok (.iload_n 1, 1) := by decide +kernel
theorem dX11_leg_10 : decode cX11_leg 10 = .ok (.imul, 1) := by decide +kernel
theorem dX11_leg_11 : decode cX11_leg 11 = .ok (.iload_n 2, 1) := by decide +kernel
theorem dX11_leg_12 : decode cX11_leg 12 = .ok (.iadd, 1) := by decide +kernel
theorem dX11_leg_13 : decode cX11_leg 13 = .ok (.imul, 1) := by decide +kernel
theorem dX11_leg_14 : decode cX11_leg 14 = .ok (.iadd, 1) := by decide +kernel
theorem dX11_leg_15 : decode cX11_leg 15 = .ok (.iload_n 3, 1) := by decide +kernel
theorem dX11_leg_16 : decode cX11_leg 16 = .ok (.iadd, 1) := by decide +kernel
theorem dX11_leg_17 : decode cX11_leg 17 = .ok (.iaload, 1) := by decide +kernel
theorem dX11_leg_18 : decode cX11_leg 18 = .ok (.ireturn, 1) := by decide +kernel
theorem dX11_setsLeg_0 : decode cX11_setsLeg 0 = .ok (.aload_n 0, 1) := by decide +kernel
theorem dX11_setsLeg_1 : decode cX11_setsLeg 1 = .ok (.getfield 9, 3) := by decide +kernel
theorem dX11_setsLeg_4 : decode cX11_setsLeg 4 = .ok (.bipush 7, 2) := by decide +kernel
theorem dX11_setsLeg_6 : decode cX11_setsLeg 6 = .ok (.iconst 3, 1) := by decide +kernel
theorem dX11_setsLeg_7 : decode cX11_setsLeg 7 = .ok (.bipush 10, 2) := by decide +kernel
theorem dX11_setsLeg_9 : decode cX11_setsLeg 9 = .ok (.iload_n 1, 1) := by decide +kernel
theorem dX11_setsLeg_10 : decode cX11_setsLeg 10 = .ok (.imul, 1) := by decide +kernel
theorem dX11_setsLeg_11 : decode cX11_setsLeg 11 = .ok (.iload_n 2, 1) := by decide +kernel
theorem dX11_setsLeg_12 : decode cX11_setsLeg 12 = .ok (.iadd, 1) := by decide +kernel
theorem dX11_setsLeg_13 : decode cX11_setsLeg 13 = .ok (.imul, 1) := by decide +kernel
theorem dX11_setsLeg_14 : decode cX11_setsLeg 14 = .ok (.iadd, 1) := by decide +kernel
theorem dX11_setsLeg_15 : decode cX11_setsLeg 15 = .ok (.iload_n 3, 1) := by decide +kernel
theorem dX11_setsLeg_16 : decode cX11_setsLeg 16 = .ok (.iadd, 1) := by decide +kernel
theorem dX11_setsLeg_17 : decode cX11_setsLeg 17 = .ok (.iload 4, 2) := by decide +kernel
theorem dX11_setsLeg_19 : decode cX11_setsLeg 19 = .ok (.iastore, 1) := by decide +kernel
theorem dX11_setsLeg_20 : decode cX11_setsLeg 20 = .ok (.aload_n 0, 1) := by decide +kernel
theorem dX11_setsLeg_21 : decode cX11_setsLeg 21 = .ok (.getfield 9, 3) := by decide +kernel
theorem dX11_setsLeg_24 : decode cX11_setsLeg 24 = .ok (.bipush 7, 2) := by decide +kernel
theorem dX11_setsLeg_26 : decode cX11_setsLeg 26 = .ok (.iconst 3, 1) := by decide +kernel
theorem dX11_setsLeg_27 : decode cX11_setsLeg 27 = .ok (.bipush 10, 2) := by decide +kernel
theorem dX11_setsLeg_29 : decode cX11_setsLeg 29 = .ok (.iload_n 2, 1) := by decide +kernel
theorem dX11_setsLeg_30 : decode cX11_setsLeg 30 = .ok (.imul, 1) := by decide +kernel
theorem dX11_setsLeg_31 : decode cX11_setsLeg 31 = .ok (.iload_n 1, 1) := by decide +kernel
theorem dX11_setsLeg_32 : decode cX11_setsLeg 32 = .ok (.iadd, 1) := by decide +kernel
theorem dX11_setsLeg_33 : decode cX11_setsLeg 33 = .ok (.imul, 1) := by decide +kernel
theorem dX11_setsLeg_34 : decode cX11_setsLeg 34 = .ok (.iadd, 1) := by decide +kernel
theorem dX11_setsLeg_35 : decode cX11_setsLeg 35 = .ok (.iload_n 3, 1) := by decide +kernel
theorem dX11_setsLeg_36 : decode cX11_setsLeg 36 = .ok (.iadd, 1) := by decide +kernel
theorem dX11_setsLeg_37 : decode cX11_setsLeg 37 = .ok (.iload 4, 2) := by decide +kernel
theorem dX11_setsLeg_39 : decode cX11_setsLeg 39 = .ok (.iastore, 1) := by decide +kernel
theorem dX11_setsLeg_40 : decode cX11_setsLeg 40 = .ok (.return_, 1) := by decide +kernel
theorem dX11_of_0 : decode cX11_of 0 = .ok (.aload_n 0, 1) := by decide +kernel
theorem dX11_of_1 : decode cX11_of 1 = .ok (.getfield 9, 3) := by decide +kernel
theorem dX11_of_4 : decode cX11_of 4 = .ok (.sipush 307, 3) := by decide +kernel
theorem dX11_of_7 : decode cX11_of 7 = .ok (.iconst 5, 1) := by decide +kernel
theorem dX11_of_8 : decode cX11_of 8 = .ok (.iload_n 1, 1) := by decide +kernel
theorem dX11_of_9 : decode cX11_of 9 = .ok (.imul, 1) := by decide +kernel
theorem dX11_of_10 : decode cX11_of 10 = .ok (.iadd, 1) := by decide +kernel
theorem dX11_of_11 : decode cX11_of 11 = .ok (.iload_n 2, 1) := by decide +kernel
theorem dX11_of_12 : decode cX11_of 12 = .ok (.iadd, 1) := by decide +kernel
theorem dX11_of_13 : decode cX11_of 13 = .ok (.iaload, 1) := by decide +kernel
theorem dX11_of_14 : decode cX11_of 14 = .ok (.ireturn, 1) := by decide +kernel
theorem dX11_adds_0 : decode cX11_adds 0 = .ok (.aload_n 0, 1) := by decide +kernel
theorem dX11_adds_1 : decode cX11_adds 1 = .ok (.getfield 9, 3) := by decide +kernel
theorem dX11_adds_4 : decode cX11_adds 4 = .ok (.sipush 307, 3) := by decide +kernel
theorem dX11_adds_7 : decode cX11_adds 7 = .ok (.iconst 5, 1) := by decide +kernel
theorem dX11_adds_8 : decode cX11_adds 8 = .ok (.iload_n 1, 1) := by decide +kernel
theorem dX11_adds_9 : decode cX11_adds 9 = .ok (.imul, 1) := by decide +kernel
theorem dX11_adds_10 : decode cX11_adds 10 = .ok (.iadd, 1) := by decide +kernel
theorem dX11_adds_11 : decode cX11_adds 11 = .ok (.iload_n 2, 1) := by decide +kernel
theorem dX11_adds_12 : decode cX11_adds 12 = .ok (.iadd, 1) := by decide +kernel
theorem dX11_adds_13 : decode cX11_adds 13 = .ok (.dup2, 1) := by decide +kernel
theorem dX11_adds_14 : decode cX11_adds 14 = .ok (.iaload, 1) := by decide +kernel
theorem dX11_adds_15 : decode cX11_adds 15 = .ok (.iload_n 3, 1) := by decide +kernel
theorem dX11_adds_16 : decode cX11_adds 16 = .ok (.iadd, 1) := by decide +kernel
theorem dX11_adds_17 : decode cX11_adds 17 = .ok (.iastore, 1) := by decide +kernel
theorem dX11_adds_18 : decode cX11_adds 18 = .ok (.return_, 1) := by decide +kernel
set_option maxRecDepth 20000 in
theorem ggX11_legs_X11_leg : GoodIn wsX11_legs wsX11_leg := goodIn_ca (goodIn_r _ [5, 6, 7, 8, 9, 10, 11, 12, 13, 14, 15, 16, 17, 18, 19, 20, 21, 22, 23, 24, 25, 26] (by decide +kernel) (by decide +kernel)) (goodIn_sub (fun _ h => List.mem_cons_of_mem _ (List.mem_append_right _ h)) (by decide +kernel))
set_option maxRecDepth 20000 in
theorem gX11_legs_X11_leg : GoodIn wsX11_legs (wsV RX11 65 RX11 yX11_leg wsX11_leg) := goodIn_app (goodIn_of _ (by decide +kernel)) ggX11_legs_X11_leg
theorem dX11_legs_0 : decode cX11_legs 0 = .ok (.iconst 0, 1) := by decide +kernel
theorem dX11_legs_1 : decode cX11_legs 1 = .ok (.istore_n 1, 1) := by decide +kernel
theorem dX11_legs_2 : decode cX11_legs 2 = .ok (.iconst 0, 1) := by decide +kernel
theorem dX11_legs_3 : decode cX11_legs 3 = .ok (.istore_n 2, 1) := by decide +kernel
theorem dX11_legs_4 : decode cX11_legs 4 = .ok (.iload_n 2, 1) := by decide +kernel
theorem dX11_legs_5 : decode cX11_legs 5 = .ok (.bipush 10, 2) := by decide +kernel
theorem dX11_legs_7 : decode cX11_legs 7 = .ok (.if_icmp .ge 40, 3) := by decide +kernel
theorem dX11_legs_10 : decode cX11_legs 10 = .ok (.iconst 0, 1) := by decide +kernel
theorem dX11_legs_11 : decode cX11_legs 11 = .ok (.istore_n 3, 1) := by decide +kernel
theorem dX11_legs_12 : decode cX11_legs 12 = .ok (.iload_n 3, 1) := by decide +kernel
theorem dX11_legs_13 : decode cX11_legs 13 = .ok (.iload_n 2, 1) := by decide +kernel
theorem dX11_legs_14 : decode cX11_legs 14 = .ok (.if_icmp .ge 27, 3) := by decide +kernel
theorem dX11_legs_17 : decode cX11_legs 17 = .ok (.iload_n 1, 1) := by decide +kernel
theorem dX11_legs_18 : decode cX11_legs 18 = .ok (.aload_n 0, 1) := by decide +kernel
theorem dX11_legs_19 : decode cX11_legs 19 = .ok (.iload_n 2, 1) := by decide +kernel
theorem dX11_legs_20 : decode cX11_legs 20 = .ok (.iload_n 3, 1) := by decide +kernel
theorem dX11_legs_21 : decode cX11_legs 21 = .ok (.iconst 0, 1) := by decide +kernel
theorem dX11_legs_22 : decode cX11_legs 22 = .ok (.invokevirtual 65, 3) := by decide +kernel
theorem dX11_legs_25 : decode cX11_legs 25 = .ok (.ifCond .le 7, 3) := by decide +kernel
theorem dX11_legs_28 : decode cX11_legs 28 = .ok (.iconst 1, 1) := by decide +kernel
theorem dX11_legs_29 : decode cX11_legs 29 = .ok (.goto 4, 3) := by decide +kernel
theorem dX11_legs_32 : decode cX11_legs 32 = .ok (.iconst 0, 1) := by decide +kernel
theorem dX11_legs_33 : decode cX11_legs 33 = .ok (.iadd, 1) := by decide +kernel
theorem dX11_legs_34 : decode cX11_legs 34 = .ok (.istore_n 1, 1) := by decide +kernel
theorem dX11_legs_35 : decode cX11_legs 35 = .ok (.iinc 3 1, 3) := by decide +kernel
theorem dX11_legs_38 : decode cX11_legs 38 = .ok (.goto (-26), 3) := by decide +kernel
theorem dX11_legs_41 : decode cX11_legs 41 = .ok (.iinc 2 1, 3) := by decide +kernel
theorem dX11_legs_44 : decode cX11_legs 44 = .ok (.goto (-40), 3) := by decide +kernel
theorem dX11_legs_47 : decode cX11_legs 47 = .ok (.iload_n 1, 1) := by decide +kernel
theorem dX11_legs_48 : decode cX11_legs 48 = .ok (.ireturn, 1) := by decide +kernel
set_option maxRecDepth 20000 in
theorem ggX11_doAddPort_X11_fails : GoodIn wsX11_doAddPort wsX11_fails := goodIn_r _ [6, 7, 8, 9, 10, 11, 12, 13, 14, 15, 16, 17, 18, 19, 20, 21, 22, 23, 24, 25, 26, 27] (by decide +kernel) (by decide +kernel)
set_option maxRecDepth 20000 in
theorem gX11_doAddPort_X11_fails : GoodIn wsX11_doAddPort (wsV RX11 69 RX11 yX11_fails wsX11_fails) := goodIn_app (goodIn_of _ (by decide +kernel)) ggX11_doAddPort_X11_fails
theorem dX11_doAddPort_0 : decode cX11_doAddPort 0 = .ok (.aload_n 0, 1) := by decide +kernel
theorem dX11_doAddPort_1 : decode cX11_doAddPort 1 = .ok (.getfield 9, 3) := by decide +kernel
theorem dX11_doAddPort_4 : decode cX11_doAddPort 4 = .ok (.iconst 0, 1) := by decide +kernel
theorem dX11_doAddPort_5 : decode cX11_doAddPort 5 = .ok (.iaload, 1) := by decide +kernel
theorem dX11_doAddPort_6 : decode cX11_doAddPort 6 = .ok (.bipush 10, 2) := by decide +kernel
theorem dX11_doAddPort_8 : decode cX11_doAddPort 8 = .ok (.if_icmp .ne 9, 3) := by decide +kernel
theorem dX11_doAddPort_11 : decode cX11_doAddPort 11 = .ok (.aload_n 0, 1) := by decide +kernel
theorem dX11_doAddPort_12 : decode cX11_doAddPort 12 = .ok (.iconst 1, 1) := by decide +kernel
theorem dX11_doAddPort_13 : decode cX11_doAddPort 13 = .ok (.invokevirtual 69, 3) := by decide +kernel
theorem dX11_doAddPort_16 : decode cX11_doAddPort 16 = .ok (.ireturn, 1) := by decide +kernel
theorem dX11_doAddPort_17 : decode cX11_doAddPort 17 = .ok (.aload_n 0, 1) := by decide +kernel
theorem dX11_doAddPort_18 : decode cX11_doAddPort 18 = .ok (.getfield 9, 3) := by decide +kernel
theorem dX11_doAddPort_21 : decode cX11_doAddPort 21 = .ok (.iconst 0, 1) := by decide +kernel
theorem dX11_doAddPort_22 : decode cX11_doAddPort 22 = .ok (.dup2, 1) := by decide +kernel
theorem dX11_doAddPort_23 : decode cX11_doAddPort 23 = .ok (.iaload, 1) := by decide +kernel
theorem dX11_doAddPort_24 : decode cX11_doAddPort 24 = .ok (.iconst 1, 1) := by decide +kernel
theorem dX11_doAddPort_25 : decode cX11_doAddPort 25 = .ok (.iadd, 1) := by decide +kernel
theorem dX11_doAddPort_26 : decode cX11_doAddPort 26 = .ok (.iastore, 1) := by decide +kernel
theorem dX11_doAddPort_27 : decode cX11_doAddPort 27 = .ok (.aload_n 0, 1) := by decide +kernel
theorem dX11_doAddPort_28 : decode cX11_doAddPort 28 = .ok (.getfield 9, 3) := by decide +kernel
theorem dX11_doAddPort_31 : decode cX11_doAddPort 31 = .ok (.iconst 0, 1) := by decide +kernel
theorem dX11_doAddPort_32 : decode cX11_doAddPort 32 = .ok (.iaload, 1) := by decide +kernel
theorem dX11_doAddPort_33 : decode cX11_doAddPort 33 = .ok (.iconst 1, 1) := by decide +kernel
theorem dX11_doAddPort_34 : decode cX11_doAddPort 34 = .ok (.isub, 1) := by decide +kernel
theorem dX11_doAddPort_35 : decode cX11_doAddPort 35 = .ok (.ireturn, 1) := by decide +kernel
set_option maxRecDepth 20000 in
theorem ggX11_addPort_X11_keep : GoodIn wsX11_addPort wsX11_keep := goodIn_r _ [5, 6, 7, 8, 9, 10, 11, 12, 27, 28, 29, 30, 31, 32, 33, 34, 35, 36, 37, 38, 39, 40, 41, 42, 43, 44, 45, 46] (by decide +kernel) (by decide +kernel)
set_option maxRecDepth 20000 in
theorem gX11_addPort_X11_keep : GoodIn wsX11_addPort (wsV RX11 73 RX11 yX11_keep wsX11_keep) := goodIn_app (goodIn_of _ (by decide +kernel)) ggX11_addPort_X11_keep
set_option maxRecDepth 20000 in
theorem ggX11_addPort_X11_doAddPort : GoodIn wsX11_addPort wsX11_doAddPort := goodIn_ca (goodIn_r _ [16, 7, 17, 18, 19, 4, 20, 6, 27, 28, 29, 30, 31, 32, 33, 34, 35, 36, 37, 38, 39, 40, 41, 42, 43, 44, 45, 46] (by decide +kernel) (by decide +kernel)) (goodIn_sub (fun _ h => List.mem_cons_of_mem _ (List.mem_append_right _ h)) (by decide +kernel))
set_option maxRecDepth 20000 in
theorem gX11_addPort_X11_doAddPort : GoodIn wsX11_addPort (wsV RX11 76 RX11 yX11_doAddPort wsX11_doAddPort) := goodIn_app (goodIn_of _ (by decide +kernel)) ggX11_addPort_X11_doAddPort
set_option maxRecDepth 20000 in
theorem ggX11_addPort_X11_ends : GoodIn wsX11_addPort wsX11_ends := goodIn_r _ [24, 6, 8, 7, 9, 10, 11, 12, 25, 26, 27, 28, 29, 30, 31, 32, 33, 34, 35, 36, 37, 38, 39, 40, 41, 42, 43, 44, 45, 46] (by decide +kernel) (by decide +kernel)
set_option maxRecDepth 20000 in
theorem gX11_addPort_X11_ends : GoodIn wsX11_addPort (wsV RX11 80 RX11 yX11_ends wsX11_ends) := goodIn_app (goodIn_of _ (by decide +kernel)) ggX11_addPort_X11_ends
theorem dX11_addPort_0 : decode cX11_addPort 0 = .ok (.aload_n 0, 1) := by decide +kernel
theorem dX11_addPort_1 : decode cX11_addPort 1 = .ok (.invokevirtual 73, 3) := by decide +kernel
theorem dX11_addPort_4 : decode cX11_addPort 4 = .ok (.aload_n 0, 1) := by decide +kernel
theorem dX11_addPort_5 : decode cX11_addPort 5 = .ok (.aload_n 0, 1) := by decide +kernel
theorem dX11_addPort_6 : decode cX11_addPort 6 = .ok (.invokevirtual 76, 3) := by decide +kernel
theorem dX11_addPort_9 : decode cX11_addPort 9 = .ok (.invokevirtual 80, 3) := by decide +kernel
theorem dX11_addPort_12 : decode cX11_addPort 12 = .ok (.ireturn, 1) := by decide +kernel
set_option maxRecDepth 20000 in
theorem ggX11_doAddLeg_X11_arePorts : GoodIn wsX11_doAddLeg wsX11_arePorts := goodIn_ca (goodIn_r _ [5, 6, 7, 8, 4, 9, 27, 28, 29, 30, 31, 32, 33, 34, 35, 36, 37, 38, 39, 40, 41, 42, 43, 44, 45, 46] (by decide +kernel) (by decide +kernel)) (goodIn_sub (fun _ h => List.mem_cons_of_mem _ (List.mem_append_right _ h)) (by decide +kernel))
set_option maxRecDepth 20000 in
theorem gX11_doAddLeg_X11_arePorts : GoodIn wsX11_doAddLeg (wsV RX11 83 RX11 yX11_arePorts wsX11_arePorts) := goodIn_app (goodIn_of _ (by decide +kernel)) ggX11_doAddLeg_X11_arePorts
set_option maxRecDepth 20000 in
theorem ggX11_doAddLeg_X11_fails : GoodIn wsX11_doAddLeg wsX11_fails := goodIn_r _ [13, 14, 27, 28, 29, 30, 31, 32, 33, 34, 35, 36, 37, 38, 39, 40, 41, 42, 43, 44, 45, 46] (by decide +kernel) (by decide +kernel)
set_option maxRecDepth 20000 in
theorem gX11_doAddLeg_X11_fails : GoodIn wsX11_doAddLeg (wsV RX11 69 RX11 yX11_fails wsX11_fails) := goodIn_app (goodIn_of _ (by decide +kernel)) ggX11_doAddLeg_X11_fails
set_option maxRecDepth 20000 in
theorem ggX11_doAddLeg_X11_in : GoodIn wsX11_doAddLeg wsX11_in := goodIn_r _ [9] (by decide +kernel) (by decide +kernel)
set_option maxRecDepth 20000 in
theorem gX11_doAddLeg_X11_in : GoodIn wsX11_doAddLeg (va_wsS RX11 61 yX11_in wsX11_in) := goodIn_app (goodIn_of _ (by decide +kernel)) ggX11_doAddLeg_X11_in
set_option maxRecDepth 20000 in
theorem ggX11_doAddLeg_X11_legs : GoodIn wsX11_doAddLeg wsX11_legs := goodIn_ca (goodIn_r _ [18, 19, 20, 21, 4, 22, 6, 27, 28, 29, 30, 31, 32, 33, 34, 35, 36, 37, 38, 39, 40, 41, 42, 43, 44, 45, 46] (by decide +kernel) (by decide +kernel)) (goodIn_sub (fun _ h => List.mem_cons_of_mem _ (List.mem_append_right _ h)) (by decide +kernel))
set_option maxRecDepth 20000 in
theorem gX11_doAddLeg_X11_legs : GoodIn wsX11_doAddLeg (wsV RX11 87 RX11 yX11_legs wsX11_legs) := goodIn_app (goodIn_of _ (by decide +kernel)) ggX11_doAddLeg_X11_legs
set_option maxRecDepth 20000 in
theorem ggX11_doAddLeg_X11_leg : GoodIn wsX11_doAddLeg wsX11_leg := goodIn_ca (goodIn_r _ [22, 6, 27, 28, 29, 30, 31, 32, 33, 34, 35, 36, 37, 38, 39, 40, 41, 42, 43, 44, 45, 46] (by decide +kernel) (by decide +kernel)) (goodIn_sub (fun _ h => List.mem_cons_of_mem _ (List.mem_append_right _ h)) (by decide +kernel))
set_option maxRecDepth 20000 in
theorem gX11_doAddLeg_X11_leg : GoodIn wsX11_doAddLeg (wsV RX11 65 RX11 yX11_leg wsX11_leg) := goodIn_app (goodIn_of _ (by decide +kernel)) ggX11_doAddLeg_X11_leg
set_option maxRecDepth 20000 in
theorem ggX11_doAddLeg_X11_setsLeg : GoodIn wsX11_doAddLeg wsX11_setsLeg := goodIn_ca (goodIn_r _ [26, 6, 27, 28, 29, 30, 31, 32, 33, 34, 35, 36, 37, 38, 39, 40, 41, 42, 43, 44, 45, 46] (by decide +kernel) (by decide +kernel)) (goodIn_sub (fun _ h => List.mem_cons_of_mem _ (List.mem_append_right _ h)) (by decide +kernel))
set_option maxRecDepth 20000 in
theorem gX11_doAddLeg_X11_setsLeg : GoodIn wsX11_doAddLeg (wsV RX11 90 RX11 yX11_setsLeg wsX11_setsLeg) := goodIn_app (goodIn_of _ (by decide +kernel)) ggX11_doAddLeg_X11_setsLeg
theorem dX11_doAddLeg_0 : decode cX11_doAddLeg 0 = .ok (.aload_n 0, 1) := by decide +kernel
theorem dX11_doAddLeg_1 : decode cX11_doAddLeg 1 = .ok (.iload_n 1, 1) := by decide +kernel
theorem dX11_doAddLeg_2 : decode cX11_doAddLeg 2 = .ok (.iload_n 2, 1) := by decide +kernel
theorem dX11_doAddLeg_3 : decode cX11_doAddLeg 3 = .ok (.invokevirtual 83, 3) := by decide +kernel
theorem dX11_doAddLeg_6 : decode cX11_doAddLeg 6 = .ok (.ifCond .ne 9, 3) := by decide +kernel
theorem dX11_doAddLeg_9 : decode cX11_doAddLeg 9 = .ok (.aload_n 0, 1) := by decide +kernel
theorem dX11_doAddLeg_10 : decode cX11_doAddLeg 10 = .ok (.iconst 1, 1) := by decide +kernel
theorem dX11_doAddLeg_11 : decode cX11_doAddLeg 11 = .ok (.invokevirtual 69, 3) := by decide +kernel
theorem dX11_doAddLeg_14 : decode cX11_doAddLeg 14 = .ok (.ireturn, 1) := by decide +kernel
theorem dX11_doAddLeg_15 : decode cX11_doAddLeg 15 = .ok (.iload_n 1, 1) := by decide +kernel
theorem dX11_doAddLeg_16 : decode cX11_doAddLeg 16 = .ok (.iload_n 2, 1) := by decide +kernel
theorem dX11_doAddLeg_17 : decode cX11_doAddLeg 17 = .ok (.if_icmp .eq 24, 3) := by decide +kernel
theorem dX11_doAddLeg_20 : decode cX11_doAddLeg 20 = .ok (.iload_n 3, 1) := by decide +kernel
theorem dX11_doAddLeg_21 : decode cX11_doAddLeg 21 = .ok (.iconst 1, 1) := by decide +kernel
theorem dX11_doAddLeg_22 : decode cX11_doAddLeg 22 = .ok (.bipush 99, 2) := by decide +kernel
theorem dX11_doAddLeg_24 : decode cX11_doAddLeg 24 = .ok (.invokestatic 61, 3) := by decide +kernel
theorem dX11_doAddLeg_27 : decode cX11_doAddLeg 27 = .ok (.ifCond .eq 14, 3) := by decide +kernel
theorem dX11_doAddLeg_30 : decode cX11_doAddLeg 30 = .ok (.iload 4, 2) := by decide +kernel
theorem dX11_doAddLeg_32 : decode cX11_doAddLeg 32 = .ok (.iconst 1, 1) := by decide +kernel
theorem dX11_doAddLeg_33 : decode cX11_doAddLeg 33 = .ok (.bipush 20, 2) := by decide +kernel
theorem dX11_doAddLeg_35 : decode cX11_doAddLeg 35 = .ok (.invokestatic 61, 3) := by decide +kernel
theorem dX11_doAddLeg_38 : decode cX11_doAddLeg 38 = .ok (.ifCond .ne 9, 3) := by decide +kernel
theorem dX11_doAddLeg_41 : decode cX11_doAddLeg 41 = .ok (.aload_n 0, 1) := by decide +kernel
theorem dX11_doAddLeg_42 : decode cX11_doAddLeg 42 = .ok (.iconst 2, 1) := by decide +kernel
theorem dX11_doAddLeg_43 : decode cX11_doAddLeg 43 = .ok (.invokevirtual 69, 3) := by decide +kernel
theorem dX11_doAddLeg_46 : decode cX11_doAddLeg 46 = .ok (.ireturn, 1) := by decide +kernel
theorem dX11_doAddLeg_47 : decode cX11_doAddLeg 47 = .ok (.aload_n 0, 1) := by decide +kernel
theorem dX11_doAddLeg_48 : decode cX11_doAddLeg 48 = .ok (.invokevirtual 87, 3) := by decide +kernel
theorem dX11_doAddLeg_51 : decode cX11_doAddLeg 51 = .ok (.bipush 20, 2) := by decide +kernel
theorem dX11_doAddLeg_53 : decode cX11_doAddLeg 53 = .ok (.if_icmp .eq 13, 3) := by decide +kernel
theorem dX11_doAddLeg_56 : decode cX11_doAddLeg 56 = .ok (.aload_n 0, 1) := by decide +kernel
theorem dX11_doAddLeg_57 : decode cX11_doAddLeg 57 = .ok (.iload_n 1, 1) := by decide +kernel
theorem dX11_doAddLeg_58 : decode cX11_doAddLeg 58 = .ok (.iload_n 2, 1) := by decide +kernel
theorem dX11_doAddLeg_59 : decode cX11_doAddLeg 59 = .ok (.iconst 0, 1) := by decide +kernel
theorem dX11_doAddLeg_60 : decode cX11_doAddLeg 60 = .ok (.invokevirtual 65, 3) := by decide +kernel
theorem dX11_doAddLeg_63 : decode cX11_doAddLeg 63 = .ok (.ifCond .le 9, 3) := by decide +kernel
theorem dX11_doAddLeg_66 : decode cX11_doAddLeg 66 = .ok (.aload_n 0, 1) := by decide +kernel
theorem dX11_doAddLeg_67 : decode cX11_doAddLeg 67 = .ok (.iconst 3, 1) := by decide +kernel
theorem dX11_doAddLeg_68 : decode cX11_doAddLeg 68 = .ok (.invokevirtual 69, 3) := by decide +kernel
theorem dX11_doAddLeg_71 : decode cX11_doAddLeg 71 = .ok (.ireturn, 1) := by decide +kernel
theorem dX11_doAddLeg_72 : decode cX11_doAddLeg 72 = .ok (.aload_n 0, 1) := by decide +kernel
theorem dX11_doAddLeg_73 : decode cX11_doAddLeg 73 = .ok (.iload_n 1, 1) := by decide +kernel
theorem dX11_doAddLeg_74 : decode cX11_doAddLeg 74 = .ok (.iload_n 2, 1) := by decide +kernel
theorem dX11_doAddLeg_75 : decode cX11_doAddLeg 75 = .ok (.iconst 0, 1) := by decide +kernel
theorem dX11_doAddLeg_76 : decode cX11_doAddLeg 76 = .ok (.iload_n 3, 1) := by decide +kernel
theorem dX11_doAddLeg_77 : decode cX11_doAddLeg 77 = .ok (.invokevirtual 90, 3) := by decide +kernel
theorem dX11_doAddLeg_80 : decode cX11_doAddLeg 80 = .ok (.aload_n 0, 1) := by decide +kernel
theorem dX11_doAddLeg_81 : decode cX11_doAddLeg 81 = .ok (.iload_n 1, 1) := by decide +kernel
theorem dX11_doAddLeg_82 : decode cX11_doAddLeg 82 = .ok (.iload_n 2, 1) := by decide +kernel
theorem dX11_doAddLeg_83 : decode cX11_doAddLeg 83 = .ok (.iconst 1, 1) := by decide +kernel
theorem dX11_doAddLeg_84 : decode cX11_doAddLeg 84 = .ok (.iload 4, 2) := by decide +kernel
theorem dX11_doAddLeg_86 : decode cX11_doAddLeg 86 = .ok (.invokevirtual 90, 3) := by decide +kernel
theorem dX11_doAddLeg_89 : decode cX11_doAddLeg 89 = .ok (.aload_n 0, 1) := by decide +kernel
theorem dX11_doAddLeg_90 : decode cX11_doAddLeg 90 = .ok (.iload_n 1, 1) := by decide +kernel
theorem dX11_doAddLeg_91 : decode cX11_doAddLeg 91 = .ok (.iload_n 2, 1) := by decide +kernel
theorem dX11_doAddLeg_92 : decode cX11_doAddLeg 92 = .ok (.iconst 2, 1) := by decide +kernel
theorem dX11_doAddLeg_93 : decode cX11_doAddLeg 93 = .ok (.iconst 0, 1) := by decide +kernel
theorem dX11_doAddLeg_94 : decode cX11_doAddLeg 94 = .ok (.invokevirtual 90, 3) := by decide +kernel
theorem dX11_doAddLeg_97 : decode cX11_doAddLeg 97 = .ok (.aload_n 0, 1) := by decide +kernel
theorem dX11_doAddLeg_98 : decode cX11_doAddLeg 98 = .ok (.invokevirtual 87, 3) := by decide +kernel
theorem dX11_doAddLeg_101 : decode cX11_doAddLeg 101 = .ok (.ireturn, 1) := by decide +kernel
set_option maxRecDepth 20000 in
theorem ggX11_addLeg_X11_keep : GoodIn wsX11_addLeg wsX11_keep := goodIn_r _ [5, 6, 7, 8, 9, 10, 11, 12, 46, 47, 48, 49, 50, 51, 52, 53, 54, 55, 56, 57, 58, 59, 60, 61, 62, 63, 64, 65] (by decide +kernel) (by decide +kernel)
set_option maxRecDepth 20000 in
theorem gX11_addLeg_X11_keep : GoodIn wsX11_addLeg (wsV RX11 73 RX11 yX11_keep wsX11_keep) := goodIn_app (goodIn_of _ (by decide +kernel)) ggX11_addLeg_X11_keep
set_option maxRecDepth 20000 in
theorem ggX11_addLeg_X11_doAddLeg : GoodIn wsX11_addLeg wsX11_doAddLeg := goodIn_ca (goodIn_r _ [16, 17, 18, 19, 4, 20, 7, 21, 22, 23, 24, 25, 26, 27, 6, 28, 29, 30, 31, 32, 33, 34, 35, 36, 37, 38, 39, 46, 47, 48, 49, 50, 51, 52, 53, 54, 55, 56, 57, 58, 59, 60, 61, 62, 63, 64, 65] (by decide +kernel) (by decide +kernel)) (goodIn_sub (fun _ h => List.mem_cons_of_mem _ (List.mem_append_right _ h)) (by decide +kernel))
set_option maxRecDepth 20000 in
theorem gX11_addLeg_X11_doAddLeg : GoodIn wsX11_addLeg (wsV RX11 94 RX11 yX11_doAddLeg wsX11_doAddLeg) := goodIn_app (goodIn_of _ (by decide +kernel)) ggX11_addLeg_X11_doAddLeg
set_option maxRecDepth 20000 in
theorem ggX11_addLeg_X11_ends : GoodIn wsX11_addLeg wsX11_ends := goodIn_r _ [43, 6, 8, 7, 9, 10, 11, 12, 44, 45, 46, 47, 48, 49, 50, 51, 52, 53, 54, 55, 56, 57, 58, 59, 60, 61, 62, 63, 64, 65] (by decide +kernel) (by decide +kernel)
set_option maxRecDepth 20000 in
theorem gX11_addLeg_X11_ends : GoodIn wsX11_addLeg (wsV RX11 80 RX11 yX11_ends wsX11_ends) := goodIn_app (goodIn_of _ (by decide +kernel)) ggX11_addLeg_X11_ends
theorem dX11_addLeg_0 : decode cX11_addLeg 0 = .ok (.aload_n 0, 1) := by decide +kernel
theorem dX11_addLeg_1 : decode cX11_addLeg 1 = .ok (.invokevirtual 73, 3) := by decide +kernel
theorem dX11_addLeg_4 : decode cX11_addLeg 4 = .ok (.aload_n 0, 1) := by decide +kernel
theorem dX11_addLeg_5 : decode cX11_addLeg 5 = .ok (.aload_n 0, 1) := by decide +kernel
theorem dX11_addLeg_6 : decode cX11_addLeg 6 = .ok (.iload_n 1, 1) := by decide +kernel
theorem dX11_addLeg_7 : decode cX11_addLeg 7 = .ok (.iload_n 2, 1) := by decide +kernel
theorem dX11_addLeg_8 : decode cX11_addLeg 8 = .ok (.iload_n 3, 1) := by decide +kernel
theorem dX11_addLeg_9 : decode cX11_addLeg 9 = .ok (.iload 4, 2) := by decide +kernel
theorem dX11_addLeg_11 : decode cX11_addLeg 11 = .ok (.invokevirtual 94, 3) := by decide +kernel
theorem dX11_addLeg_14 : decode cX11_addLeg 14 = .ok (.invokevirtual 80, 3) := by decide +kernel
theorem dX11_addLeg_17 : decode cX11_addLeg 17 = .ok (.ireturn, 1) := by decide +kernel
set_option maxRecDepth 20000 in
theorem ggX11_doRemoveLeg_X11_arePorts : GoodIn wsX11_doRemoveLeg wsX11_arePorts := goodIn_ca (goodIn_r _ [5, 6, 7, 8, 4, 9, 23, 24, 25, 26, 27, 28, 29, 30, 31, 32, 33, 34, 35, 36, 37, 38, 39, 40, 41, 42] (by decide +kernel) (by decide +kernel)) (goodIn_sub (fun _ h => List.mem_cons_of_mem _ (List.mem_append_right _ h)) (by decide +kernel))
set_option maxRecDepth 20000 in
theorem gX11_doRemoveLeg_X11_arePorts : GoodIn wsX11_doRemoveLeg (wsV RX11 83 RX11 yX11_arePorts wsX11_arePorts) := goodIn_app (goodIn_of _ (by decide +kernel)) ggX11_doRemoveLeg_X11_arePorts
set_option maxRecDepth 20000 in
theorem ggX11_doRemoveLeg_X11_fails : GoodIn wsX11_doRemoveLeg wsX11_fails := goodIn_r _ [13, 14, 23, 24, 25, 26, 27, 28, 29, 30, 31, 32, 33, 34, 35, 36, 37, 38, 39, 40, 41, 42] (by decide +kernel) (by decide +kernel)
set_option maxRecDepth 20000 in
theorem gX11_doRemoveLeg_X11_fails : GoodIn wsX11_doRemoveLeg (wsV RX11 69 RX11 yX11_fails wsX11_fails) := goodIn_app (goodIn_of _ (by decide +kernel)) ggX11_doRemoveLeg_X11_fails
set_option maxRecDepth 20000 in
theorem ggX11_doRemoveLeg_X11_leg : GoodIn wsX11_doRemoveLeg wsX11_leg := goodIn_ca (goodIn_r _ [18, 6, 23, 24, 25, 26, 27, 28, 29, 30, 31, 32, 33, 34, 35, 36, 37, 38, 39, 40, 41, 42] (by decide +kernel) (by decide +kernel)) (goodIn_sub (fun _ h => List.mem_cons_of_mem _ (List.mem_append_right _ h)) (by decide +kernel))
set_option maxRecDepth 20000 in
theorem gX11_doRemoveLeg_X11_leg : GoodIn wsX11_doRemoveLeg (wsV RX11 65 RX11 yX11_leg wsX11_leg) := goodIn_app (goodIn_of _ (by decide +kernel)) ggX11_doRemoveLeg_X11_leg
set_option maxRecDepth 20000 in
theorem ggX11_doRemoveLeg_X11_setsLeg : GoodIn wsX11_doRemoveLeg wsX11_setsLeg := goodIn_ca (goodIn_r _ [22, 6, 23, 24, 25, 26, 27, 28, 29, 30, 31, 32, 33, 34, 35, 36, 37, 38, 39, 40, 41, 42] (by decide +kernel) (by decide +kernel)) (goodIn_sub (fun _ h => List.mem_cons_of_mem _ (List.mem_append_right _ h)) (by decide +kernel))
set_option maxRecDepth 20000 in
theorem gX11_doRemoveLeg_X11_setsLeg : GoodIn wsX11_doRemoveLeg (wsV RX11 90 RX11 yX11_setsLeg wsX11_setsLeg) := goodIn_app (goodIn_of _ (by decide +kernel)) ggX11_doRemoveLeg_X11_setsLeg
theorem dX11_doRemoveLeg_0 : decode cX11_doRemoveLeg 0 = .ok (.aload_n 0, 1) := by decide +kernel
theorem dX11_doRemoveLeg_1 : decode cX11_doRemoveLeg 1 = .ok (.iload_n 1, 1) := by decide +kernel
theorem dX11_doRemoveLeg_2 : decode cX11_doRemoveLeg 2 = .ok (.iload_n 2, 1) := by decide +kernel
theorem dX11_doRemoveLeg_3 : decode cX11_doRemoveLeg 3 = .ok (.invokevirtual 83, 3) := by decide +kernel
theorem dX11_doRemoveLeg_6 : decode cX11_doRemoveLeg 6 = .ok (.ifCond .ne 9, 3) := by decide +kernel
theorem dX11_doRemoveLeg_9 : decode cX11_doRemoveLeg 9 = .ok (.aload_n 0, 1) := by decide +kernel
theorem dX11_doRemoveLeg_10 : decode cX11_doRemoveLeg 10 = .ok (.iconst 1, 1) := by decide +kernel
theorem dX11_doRemoveLeg_11 : decode cX11_doRemoveLeg 11 = .ok (.invokevirtual 69, 3) := by decide +kernel
theorem dX11_doRemoveLeg_14 : decode cX11_doRemoveLeg 14 = .ok (.ireturn, 1) := by decide +kernel
theorem dX11_doRemoveLeg_15 : decode cX11_doRemoveLeg 15 = .ok (.aload_n 0, 1) := by decide +kernel
theorem dX11_doRemoveLeg_16 : decode cX11_doRemoveLeg 16 = .ok (.iload_n 1, 1) := by decide +kernel
theorem dX11_doRemoveLeg_17 : decode cX11_doRemoveLeg 17 = .ok (.iload_n 2, 1) := by decide +kernel
theorem dX11_doRemoveLeg_18 : decode cX11_doRemoveLeg 18 = .ok (.iconst 0, 1) := by decide +kernel
theorem dX11_doRemoveLeg_19 : decode cX11_doRemoveLeg 19 = .ok (.invokevirtual 65, 3) := by decide +kernel
theorem dX11_doRemoveLeg_22 : decode cX11_doRemoveLeg 22 = .ok (.istore_n 3, 1) := by decide +kernel
theorem dX11_doRemoveLeg_23 : decode cX11_doRemoveLeg 23 = .ok (.iload_n 3, 1) := by decide +kernel
theorem dX11_doRemoveLeg_24 : decode cX11_doRemoveLeg 24 = .ok (.ifCond .ne 9, 3) := by decide +kernel
theorem dX11_doRemoveLeg_27 : decode cX11_doRemoveLeg 27 = .ok (.aload_n 0, 1) := by decide +kernel
theorem dX11_doRemoveLeg_28 : decode cX11_doRemoveLeg 28 = .ok (.iconst 2, 1) := by decide +kernel
theorem dX11_doRemoveLeg_29 : decode cX11_doRemoveLeg 29 = .ok (.invokevirtual 69, 3) := by decide +kernel
theorem dX11_doRemoveLeg_32 : decode cX11_doRemoveLeg 32 = .ok (.ireturn, 1) := by decide +kernel
theorem dX11_doRemoveLeg_33 : decode cX11_doRemoveLeg 33 = .ok (.aload_n 0, 1) := by decide +kernel
theorem dX11_doRemoveLeg_34 : decode cX11_doRemoveLeg 34 = .ok (.iload_n 1, 1) := by decide +kernel
theorem dX11_doRemoveLeg_35 : decode cX11_doRemoveLeg 35 = .ok (.iload_n 2, 1) := by decide +kernel
theorem dX11_doRemoveLeg_36 : decode cX11_doRemoveLeg 36 = .ok (.iconst 0, 1) := by decide +kernel
theorem dX11_doRemoveLeg_37 : decode cX11_doRemoveLeg 37 = .ok (.iconst 0, 1) := by decide +kernel
theorem dX11_doRemoveLeg_38 : decode cX11_doRemoveLeg 38 = .ok (.invokevirtual 90, 3) := by decide +kernel
theorem dX11_doRemoveLeg_41 : decode cX11_doRemoveLeg 41 = .ok (.iload_n 3, 1) := by decide +kernel
theorem dX11_doRemoveLeg_42 : decode cX11_doRemoveLeg 42 = .ok (.ireturn, 1) := by decide +kernel
set_option maxRecDepth 20000 in
theorem ggX11_removeLeg_X11_keep : GoodIn wsX11_removeLeg wsX11_keep := goodIn_r _ [5, 6, 7, 8, 9, 10, 11, 12, 42, 43, 44, 45, 46, 47, 48, 49, 50, 51, 52, 53, 54, 55, 56, 57, 58, 59, 60, 61] (by decide +kernel) (by decide +kernel)
set_option maxRecDepth 20000 in
theorem gX11_removeLeg_X11_keep : GoodIn wsX11_removeLeg (wsV RX11 73 RX11 yX11_keep wsX11_keep) := goodIn_app (goodIn_of _ (by decide +kernel)) ggX11_removeLeg_X11_keep
set_option maxRecDepth 20000 in
theorem ggX11_removeLeg_X11_doRemoveLeg : GoodIn wsX11_removeLeg wsX11_doRemoveLeg := goodIn_ca (goodIn_r _ [16, 17, 18, 19, 4, 20, 7, 21, 22, 23, 24, 25, 26, 27, 6, 28, 29, 30, 31, 32, 33, 34, 35, 42, 43, 44, 45, 46, 47, 48, 49, 50, 51, 52, 53, 54, 55, 56, 57, 58, 59, 60, 61] (by decide +kernel) (by decide +kernel)) (goodIn_sub (fun _ h => List.mem_cons_of_mem _ (List.mem_append_right _ h)) (by decide +kernel))
set_option maxRecDepth 20000 in
theorem gX11_removeLeg_X11_doRemoveLeg : GoodIn wsX11_removeLeg (wsV RX11 98 RX11 yX11_doRemoveLeg wsX11_doRemoveLeg) := goodIn_app (goodIn_of _ (by decide +kernel)) ggX11_removeLeg_X11_doRemoveLeg
set_option maxRecDepth 20000 in
theorem ggX11_removeLeg_X11_ends : GoodIn wsX11_removeLeg wsX11_ends := goodIn_r _ [39, 6, 8, 7, 9, 10, 11, 12, 40, 41, 42, 43, 44, 45, 46, 47, 48, 49, 50, 51, 52, 53, 54, 55, 56, 57, 58, 59, 60, 61] (by decide +kernel) (by decide +kernel)
set_option maxRecDepth 20000 in
theorem gX11_removeLeg_X11_ends : GoodIn wsX11_removeLeg (wsV RX11 80 RX11 yX11_ends wsX11_ends) := goodIn_app (goodIn_of _ (by decide +kernel)) ggX11_removeLeg_X11_ends
theorem dX11_removeLeg_0 : decode cX11_removeLeg 0 = .ok (.aload_n 0, 1) := by decide +kernel
theorem dX11_removeLeg_1 : decode cX11_removeLeg 1 = .ok (.invokevirtual 73, 3) := by decide +kernel
theorem dX11_removeLeg_4 : decode cX11_removeLeg 4 = .ok (.aload_n 0, 1) := by decide +kernel
theorem dX11_removeLeg_5 : decode cX11_removeLeg 5 = .ok (.aload_n 0, 1) := by decide +kernel
theorem dX11_removeLeg_6 : decode cX11_removeLeg 6 = .ok (.iload_n 1, 1) := by decide +kernel
theorem dX11_removeLeg_7 : decode cX11_removeLeg 7 = .ok (.iload_n 2, 1) := by decide +kernel
theorem dX11_removeLeg_8 : decode cX11_removeLeg 8 = .ok (.invokevirtual 98, 3) := by decide +kernel
theorem dX11_removeLeg_11 : decode cX11_removeLeg 11 = .ok (.invokevirtual 80, 3) := by decide +kernel
theorem dX11_removeLeg_14 : decode cX11_removeLeg 14 = .ok (.ireturn, 1) := by decide +kernel
theorem dX11_portCount_0 : decode cX11_portCount 0 = .ok (.aload_n 0, 1) := by decide +kernel
theorem dX11_portCount_1 : decode cX11_portCount 1 = .ok (.iconst 0, 1) := by decide +kernel
theorem dX11_portCount_2 : decode cX11_portCount 2 = .ok (.putfield 49, 3) := by decide +kernel
theorem dX11_portCount_5 : decode cX11_portCount 5 = .ok (.aload_n 0, 1) := by decide +kernel
theorem dX11_portCount_6 : decode cX11_portCount 6 = .ok (.getfield 9, 3) := by decide +kernel
theorem dX11_portCount_9 : decode cX11_portCount 9 = .ok (.iconst 0, 1) := by decide +kernel
theorem dX11_portCount_10 : decode cX11_portCount 10 = .ok (.iaload, 1) := by decide +kernel
theorem dX11_portCount_11 : decode cX11_portCount 11 = .ok (.ireturn, 1) := by decide +kernel
set_option maxRecDepth 20000 in
theorem ggX11_legCount_X11_legs : GoodIn wsX11_legCount wsX11_legs := goodIn_ca (goodIn_r _ [6, 7, 8, 9, 5, 10, 11, 12, 13, 14, 15, 16, 17, 18, 19, 20, 21, 22, 23, 24, 25, 26, 27, 28, 29, 30, 31] (by decide +kernel) (by decide +kernel)) (goodIn_sub (fun _ h => List.mem_cons_of_mem _ (List.mem_append_right _ h)) (by decide +kernel))
set_option maxRecDepth 20000 in
theorem gX11_legCount_X11_legs : GoodIn wsX11_legCount (wsV RX11 87 RX11 yX11_legs wsX11_legs) := goodIn_app (goodIn_of _ (by decide +kernel)) ggX11_legCount_X11_legs
theorem dX11_legCount_0 : decode cX11_legCount 0 = .ok (.aload_n 0, 1) := by decide +kernel
theorem dX11_legCount_1 : decode cX11_legCount 1 = .ok (.iconst 0, 1) := by decide +kernel
theorem dX11_legCount_2 : decode cX11_legCount 2 = .ok (.putfield 49, 3) := by decide +kernel
theorem dX11_legCount_5 : decode cX11_legCount 5 = .ok (.aload_n 0, 1) := by decide +kernel
theorem dX11_legCount_6 : decode cX11_legCount 6 = .ok (.invokevirtual 87, 3) := by decide +kernel
theorem dX11_legCount_9 : decode cX11_legCount 9 = .ok (.ireturn, 1) := by decide +kernel
set_option maxRecDepth 20000 in
theorem ggX11_hasLeg_X11_arePorts : GoodIn wsX11_hasLeg wsX11_arePorts := goodIn_ca (goodIn_r _ [5, 6, 7, 8, 4, 9, 19, 20, 21, 22, 23, 24, 25, 26, 27, 28, 29, 30, 31, 32, 33, 34, 35, 36, 37, 38] (by decide +kernel) (by decide +kernel)) (goodIn_sub (fun _ h => List.mem_cons_of_mem _ (List.mem_append_right _ h)) (by decide +kernel))
set_option maxRecDepth 20000 in
theorem gX11_hasLeg_X11_arePorts : GoodIn wsX11_hasLeg (wsV RX11 83 RX11 yX11_arePorts wsX11_arePorts) := goodIn_app (goodIn_of _ (by decide +kernel)) ggX11_hasLeg_X11_arePorts
set_option maxRecDepth 20000 in
theorem ggX11_hasLeg_X11_isThere : GoodIn wsX11_hasLeg wsX11_isThere := goodIn_r _ [13, 14, 19, 20, 21, 22, 23, 24, 25, 26, 27, 28, 29, 30, 31, 32, 33, 34, 35, 36, 37, 38] (by decide +kernel) (by decide +kernel)
set_option maxRecDepth 20000 in
theorem gX11_hasLeg_X11_isThere : GoodIn wsX11_hasLeg (wsV RX11 102 RX11 yX11_isThere wsX11_isThere) := goodIn_app (goodIn_of _ (by decide +kernel)) ggX11_hasLeg_X11_isThere
set_option maxRecDepth 20000 in
theorem ggX11_hasLeg_X11_leg : GoodIn wsX11_hasLeg wsX11_leg := goodIn_ca (goodIn_r _ [18, 6, 19, 20, 21, 22, 23, 24, 25, 26, 27, 28, 29, 30, 31, 32, 33, 34, 35, 36, 37, 38] (by decide +kernel) (by decide +kernel)) (goodIn_sub (fun _ h => List.mem_cons_of_mem _ (List.mem_append_right _ h)) (by decide +kernel))
set_option maxRecDepth 20000 in
theorem gX11_hasLeg_X11_leg : GoodIn wsX11_hasLeg (wsV RX11 65 RX11 yX11_leg wsX11_leg) := goodIn_app (goodIn_of _ (by decide +kernel)) ggX11_hasLeg_X11_leg
theorem dX11_hasLeg_0 : decode cX11_hasLeg 0 = .ok (.aload_n 0, 1) := by decide +kernel
theorem dX11_hasLeg_1 : decode cX11_hasLeg 1 = .ok (.aload_n 0, 1) := by decide +kernel
theorem dX11_hasLeg_2 : decode cX11_hasLeg 2 = .ok (.iload_n 1, 1) := by decide +kernel
theorem dX11_hasLeg_3 : decode cX11_hasLeg 3 = .ok (.iload_n 2, 1) := by decide +kernel
theorem dX11_hasLeg_4 : decode cX11_hasLeg 4 = .ok (.invokevirtual 83, 3) := by decide +kernel
theorem dX11_hasLeg_7 : decode cX11_hasLeg 7 = .ok (.invokevirtual 102, 3) := by decide +kernel
theorem dX11_hasLeg_10 : decode cX11_hasLeg 10 = .ok (.ifCond .eq 17, 3) := by decide +kernel
theorem dX11_hasLeg_13 : decode cX11_hasLeg 13 = .ok (.aload_n 0, 1) := by decide +kernel
theorem dX11_hasLeg_14 : decode cX11_hasLeg 14 = .ok (.iload_n 1, 1) := by decide +kernel
theorem dX11_hasLeg_15 : decode cX11_hasLeg 15 = .ok (.iload_n 2, 1) := by decide +kernel
theorem dX11_hasLeg_16 : decode cX11_hasLeg 16 = .ok (.iconst 0, 1) := by decide +kernel
theorem dX11_hasLeg_17 : decode cX11_hasLeg 17 = .ok (.invokevirtual 65, 3) := by decide +kernel
theorem dX11_hasLeg_20 : decode cX11_hasLeg 20 = .ok (.ifCond .le 7, 3) := by decide +kernel
theorem dX11_hasLeg_23 : decode cX11_hasLeg 23 = .ok (.iconst 1, 1) := by decide +kernel
theorem dX11_hasLeg_24 : decode cX11_hasLeg 24 = .ok (.goto 4, 3) := by decide +kernel
theorem dX11_hasLeg_27 : decode cX11_hasLeg 27 = .ok (.iconst 0, 1) := by decide +kernel
theorem dX11_hasLeg_28 : decode cX11_hasLeg 28 = .ok (.ireturn, 1) := by decide +kernel
set_option maxRecDepth 20000 in
theorem ggX11_asksLeg_X11_arePorts : GoodIn wsX11_asksLeg wsX11_arePorts := goodIn_ca (goodIn_r _ [6, 7, 8, 9, 5, 10, 15, 16, 17, 18, 19, 20, 21, 22, 23, 24, 25, 26, 27, 28, 29, 30, 31, 32, 33, 34] (by decide +kernel) (by decide +kernel)) (goodIn_sub (fun _ h => List.mem_cons_of_mem _ (List.mem_append_right _ h)) (by decide +kernel))
set_option maxRecDepth 20000 in
theorem gX11_asksLeg_X11_arePorts : GoodIn wsX11_asksLeg (wsV RX11 83 RX11 yX11_arePorts wsX11_arePorts) := goodIn_app (goodIn_of _ (by decide +kernel)) ggX11_asksLeg_X11_arePorts
set_option maxRecDepth 20000 in
theorem ggX11_asksLeg_X11_leg : GoodIn wsX11_asksLeg wsX11_leg := goodIn_ca (goodIn_r _ [14, 7, 15, 16, 17, 18, 19, 20, 21, 22, 23, 24, 25, 26, 27, 28, 29, 30, 31, 32, 33, 34] (by decide +kernel) (by decide +kernel)) (goodIn_sub (fun _ h => List.mem_cons_of_mem _ (List.mem_append_right _ h)) (by decide +kernel))
set_option maxRecDepth 20000 in
theorem gX11_asksLeg_X11_leg : GoodIn wsX11_asksLeg (wsV RX11 65 RX11 yX11_leg wsX11_leg) := goodIn_app (goodIn_of _ (by decide +kernel)) ggX11_asksLeg_X11_leg
theorem dX11_asksLeg_0 : decode cX11_asksLeg 0 = .ok (.aload_n 0, 1) := by decide +kernel
theorem dX11_asksLeg_1 : decode cX11_asksLeg 1 = .ok (.aload_n 0, 1) := by decide +kernel
theorem dX11_asksLeg_2 : decode cX11_asksLeg 2 = .ok (.iload_n 1, 1) := by decide +kernel
theorem dX11_asksLeg_3 : decode cX11_asksLeg 3 = .ok (.iload_n 2, 1) := by decide +kernel
theorem dX11_asksLeg_4 : decode cX11_asksLeg 4 = .ok (.invokevirtual 83, 3) := by decide +kernel
theorem dX11_asksLeg_7 : decode cX11_asksLeg 7 = .ok (.ifCond .ne 7, 3) := by decide +kernel
theorem dX11_asksLeg_10 : decode cX11_asksLeg 10 = .ok (.iconst 1, 1) := by decide +kernel
theorem dX11_asksLeg_11 : decode cX11_asksLeg 11 = .ok (.goto 18, 3) := by decide +kernel
theorem dX11_asksLeg_14 : decode cX11_asksLeg 14 = .ok (.aload_n 0, 1) := by decide +kernel
theorem dX11_asksLeg_15 : decode cX11_asksLeg 15 = .ok (.iload_n 1, 1) := by decide +kernel
theorem dX11_asksLeg_16 : decode cX11_asksLeg 16 = .ok (.iload_n 2, 1) := by decide +kernel
theorem dX11_asksLeg_17 : decode cX11_asksLeg 17 = .ok (.iconst 0, 1) := by decide +kernel
theorem dX11_asksLeg_18 : decode cX11_asksLeg 18 = .ok (.invokevirtual 65, 3) := by decide +kernel
theorem dX11_asksLeg_21 : decode cX11_asksLeg 21 = .ok (.ifCond .ne 7, 3) := by decide +kernel
theorem dX11_asksLeg_24 : decode cX11_asksLeg 24 = .ok (.iconst 2, 1) := by decide +kernel
theorem dX11_asksLeg_25 : decode cX11_asksLeg 25 = .ok (.goto 4, 3) := by decide +kernel
theorem dX11_asksLeg_28 : decode cX11_asksLeg 28 = .ok (.iconst 0, 1) := by decide +kernel
theorem dX11_asksLeg_29 : decode cX11_asksLeg 29 = .ok (.putfield 49, 3) := by decide +kernel
theorem dX11_asksLeg_32 : decode cX11_asksLeg 32 = .ok (.aload_n 0, 1) := by decide +kernel
theorem dX11_asksLeg_33 : decode cX11_asksLeg 33 = .ok (.getfield 49, 3) := by decide +kernel
theorem dX11_asksLeg_36 : decode cX11_asksLeg 36 = .ok (.ifCond .ne 7, 3) := by decide +kernel
theorem dX11_asksLeg_39 : decode cX11_asksLeg 39 = .ok (.iconst 1, 1) := by decide +kernel
theorem dX11_asksLeg_40 : decode cX11_asksLeg 40 = .ok (.goto 4, 3) := by decide +kernel
theorem dX11_asksLeg_43 : decode cX11_asksLeg 43 = .ok (.iconst 0, 1) := by decide +kernel
theorem dX11_asksLeg_44 : decode cX11_asksLeg 44 = .ok (.ireturn, 1) := by decide +kernel
set_option maxRecDepth 20000 in
theorem ggX11_lengthOf_X11_asksLeg : GoodIn wsX11_lengthOf wsX11_asksLeg := goodIn_ca (goodIn_r _ [5, 6, 7, 8, 9, 4, 10, 11, 12, 13, 14, 15, 16, 17, 18, 19, 20, 21, 22, 23, 24, 25, 26, 27, 28, 29, 30, 31, 32, 33, 34, 35, 36, 37, 38] (by decide +kernel) (by decide +kernel)) (goodIn_sub (fun _ h => List.mem_cons_of_mem _ (List.mem_append_right _ h)) (by decide +kernel))
set_option maxRecDepth 20000 in
theorem gX11_lengthOf_X11_asksLeg : GoodIn wsX11_lengthOf (wsV RX11 106 RX11 yX11_asksLeg wsX11_asksLeg) := goodIn_app (goodIn_of _ (by decide +kernel)) ggX11_lengthOf_X11_asksLeg
set_option maxRecDepth 20000 in
theorem ggX11_lengthOf_X11_leg : GoodIn wsX11_lengthOf wsX11_leg := goodIn_ca (goodIn_r _ [18, 11, 19, 20, 21, 22, 23, 24, 25, 26, 27, 28, 29, 30, 31, 32, 33, 34, 35, 36, 37, 38] (by decide +kernel) (by decide +kernel)) (goodIn_sub (fun _ h => List.mem_cons_of_mem _ (List.mem_append_right _ h)) (by decide +kernel))
set_option maxRecDepth 20000 in
theorem gX11_lengthOf_X11_leg : GoodIn wsX11_lengthOf (wsV RX11 65 RX11 yX11_leg wsX11_leg) := goodIn_app (goodIn_of _ (by decide +kernel)) ggX11_lengthOf_X11_leg
theorem dX11_lengthOf_0 : decode cX11_lengthOf 0 = .ok (.aload_n 0, 1) := by decide +kernel
theorem dX11_lengthOf_1 : decode cX11_lengthOf 1 = .ok (.iload_n 1, 1) := by decide +kernel
theorem dX11_lengthOf_2 : decode cX11_lengthOf 2 = .ok (.iload_n 2, 1) := by decide +kernel
theorem dX11_lengthOf_3 : decode cX11_lengthOf 3 = .ok (.invokevirtual 106, 3) := by decide +kernel
theorem dX11_lengthOf_6 : decode cX11_lengthOf 6 = .ok (.ifCond .eq 13, 3) := by decide +kernel
theorem dX11_lengthOf_9 : decode cX11_lengthOf 9 = .ok (.aload_n 0, 1) := by decide +kernel
theorem dX11_lengthOf_10 : decode cX11_lengthOf 10 = .ok (.iload_n 1, 1) := by decide +kernel
theorem dX11_lengthOf_11 : decode cX11_lengthOf 11 = .ok (.iload_n 2, 1) := by decide +kernel
theorem dX11_lengthOf_12 : decode cX11_lengthOf 12 = .ok (.iconst 0, 1) := by decide +kernel
theorem dX11_lengthOf_13 : decode cX11_lengthOf 13 = .ok (.invokevirtual 65, 3) := by decide +kernel
theorem dX11_lengthOf_16 : decode cX11_lengthOf 16 = .ok (.goto 4, 3) := by decide +kernel
theorem dX11_lengthOf_19 : decode cX11_lengthOf 19 = .ok (.iconst 0, 1) := by decide +kernel
theorem dX11_lengthOf_20 : decode cX11_lengthOf 20 = .ok (.ireturn, 1) := by decide +kernel
set_option maxRecDepth 20000 in
theorem ggX11_reachOf_X11_asksLeg : GoodIn wsX11_reachOf wsX11_asksLeg := goodIn_ca (goodIn_r _ [5, 6, 7, 8, 9, 4, 10, 11, 12, 13, 14, 15, 16, 17, 18, 19, 20, 21, 22, 23, 24, 25, 26, 27, 28, 29, 30, 31, 32, 33, 34, 35, 36, 37, 38] (by decide +kernel) (by decide +kernel)) (goodIn_sub (fun _ h => List.mem_cons_of_mem _ (List.mem_append_right _ h)) (by decide +kernel))
set_option maxRecDepth 20000 in
theorem gX11_reachOf_X11_asksLeg : GoodIn wsX11_reachOf (wsV RX11 106 RX11 yX11_asksLeg wsX11_asksLeg) := goodIn_app (goodIn_of _ (by decide +kernel)) ggX11_reachOf_X11_asksLeg
set_option maxRecDepth 20000 in
theorem ggX11_reachOf_X11_leg : GoodIn wsX11_reachOf wsX11_leg := goodIn_ca (goodIn_r _ [18, 11, 19, 20, 21, 22, 23, 24, 25, 26, 27, 28, 29, 30, 31, 32, 33, 34, 35, 36, 37, 38] (by decide +kernel) (by decide +kernel)) (goodIn_sub (fun _ h => List.mem_cons_of_mem _ (List.mem_append_right _ h)) (by decide +kernel))
set_option maxRecDepth 20000 in
theorem gX11_reachOf_X11_leg : GoodIn wsX11_reachOf (wsV RX11 65 RX11 yX11_leg wsX11_leg) := goodIn_app (goodIn_of _ (by decide +kernel)) ggX11_reachOf_X11_leg
theorem dX11_reachOf_0 : decode cX11_reachOf 0 = .ok (.aload_n 0, 1) := by decide +kernel
theorem dX11_reachOf_1 : decode cX11_reachOf 1 = .ok (.iload_n 1, 1) := by decide +kernel
theorem dX11_reachOf_2 : decode cX11_reachOf 2 = .ok (.iload_n 2, 1) := by decide +kernel
theorem dX11_reachOf_3 : decode cX11_reachOf 3 = .ok (.invokevirtual 106, 3) := by decide +kernel
theorem dX11_reachOf_6 : decode cX11_reachOf 6 = .ok (.ifCond .eq 13, 3) := by decide +kernel
theorem dX11_reachOf_9 : decode cX11_reachOf 9 = .ok (.aload_n 0, 1) := by decide +kernel
theorem dX11_reachOf_10 : decode cX11_reachOf 10 = .ok (.iload_n 1, 1) := by decide +kernel
theorem dX11_reachOf_11 : decode cX11_reachOf 11 = .ok (.iload_n 2, 1) := by decide +kernel
theorem dX11_reachOf_12 : decode cX11_reachOf 12 = .ok (.iconst 1, 1) := by decide +kernel
theorem dX11_reachOf_13 : decode cX11_reachOf 13 = .ok (.invokevirtual 65, 3) := by decide +kernel
theorem dX11_reachOf_16 : decode cX11_reachOf 16 = .ok (.goto 4, 3) := by decide +kernel
theorem dX11_reachOf_19 : decode cX11_reachOf 19 = .ok (.iconst 0, 1) := by decide +kernel
theorem dX11_reachOf_20 : decode cX11_reachOf 20 = .ok (.ireturn, 1) := by decide +kernel
set_option maxRecDepth 20000 in
theorem ggX11_meterOf_X11_asksLeg : GoodIn wsX11_meterOf wsX11_asksLeg := goodIn_ca (goodIn_r _ [5, 6, 7, 8, 9, 4, 10, 11, 12, 13, 14, 15, 16, 17, 18, 19, 20, 21, 22, 23, 24, 25, 26, 27, 28, 29, 30, 31, 32, 33, 34, 35, 36, 37, 38] (by decide +kernel) (by decide +kernel)) (goodIn_sub (fun _ h => List.mem_cons_of_mem _ (List.mem_append_right _ h)) (by decide +kernel))
set_option maxRecDepth 20000 in
theorem gX11_meterOf_X11_asksLeg : GoodIn wsX11_meterOf (wsV RX11 106 RX11 yX11_asksLeg wsX11_asksLeg) := goodIn_app (goodIn_of _ (by decide +kernel)) ggX11_meterOf_X11_asksLeg
set_option maxRecDepth 20000 in
theorem ggX11_meterOf_X11_leg : GoodIn wsX11_meterOf wsX11_leg := goodIn_ca (goodIn_r _ [18, 11, 19, 20, 21, 22, 23, 24, 25, 26, 27, 28, 29, 30, 31, 32, 33, 34, 35, 36, 37, 38] (by decide +kernel) (by decide +kernel)) (goodIn_sub (fun _ h => List.mem_cons_of_mem _ (List.mem_append_right _ h)) (by decide +kernel))
set_option maxRecDepth 20000 in
theorem gX11_meterOf_X11_leg : GoodIn wsX11_meterOf (wsV RX11 65 RX11 yX11_leg wsX11_leg) := goodIn_app (goodIn_of _ (by decide +kernel)) ggX11_meterOf_X11_leg
theorem dX11_meterOf_0 : decode cX11_meterOf 0 = .ok (.aload_n 0, 1) := by decide +kernel
theorem dX11_meterOf_1 : decode cX11_meterOf 1 = .ok (.iload_n 1, 1) := by decide +kernel
theorem dX11_meterOf_2 : decode cX11_meterOf 2 = .ok (.iload_n 2, 1) := by decide +kernel
theorem dX11_meterOf_3 : decode cX11_meterOf 3 = .ok (.invokevirtual 106, 3) := by decide +kernel
theorem dX11_meterOf_6 : decode cX11_meterOf 6 = .ok (.ifCond .eq 13, 3) := by decide +kernel
theorem dX11_meterOf_9 : decode cX11_meterOf 9 = .ok (.aload_n 0, 1) := by decide +kernel
theorem dX11_meterOf_10 : decode cX11_meterOf 10 = .ok (.iload_n 1, 1) := by decide +kernel
theorem dX11_meterOf_11 : decode cX11_meterOf 11 = .ok (.iload_n 2, 1) := by decide +kernel
theorem dX11_meterOf_12 : decode cX11_meterOf 12 = .ok (.iconst 2, 1) := by decide +kernel
theorem dX11_meterOf_13 : decode cX11_meterOf 13 = .ok (.invokevirtual 65, 3) := by decide +kernel
theorem dX11_meterOf_16 : decode cX11_meterOf 16 = .ok (.goto 4, 3) := by decide +kernel
theorem dX11_meterOf_19 : decode cX11_meterOf 19 = .ok (.iconst 0, 1) := by decide +kernel
theorem dX11_meterOf_20 : decode cX11_meterOf 20 = .ok (.ireturn, 1) := by decide +kernel
set_option maxRecDepth 20000 in
theorem ggX11_shines_X11_leg : GoodIn wsX11_shines wsX11_leg := goodIn_ca (goodIn_r _ [6, 1, 7, 8, 9, 10, 11, 12, 13, 14, 15, 16, 17, 18, 19, 20, 21, 22, 23, 24, 25, 26] (by decide +kernel) (by decide +kernel)) (goodIn_sub (fun _ h => List.mem_cons_of_mem _ (List.mem_append_right _ h)) (by decide +kernel))
set_option maxRecDepth 20000 in
theorem gX11_shines_X11_leg : GoodIn wsX11_shines (wsV RX11 65 RX11 yX11_leg wsX11_leg) := goodIn_app (goodIn_of _ (by decide +kernel)) ggX11_shines_X11_leg
theorem dX11_shines_0 : decode cX11_shines 0 = .ok (.aload_n 0, 1) := by decide +kernel
theorem dX11_shines_1 : decode cX11_shines 1 = .ok (.iload_n 1, 1) := by decide +kernel
theorem dX11_shines_2 : decode cX11_shines 2 = .ok (.iload_n 2, 1) := by decide +kernel
theorem dX11_shines_3 : decode cX11_shines 3 = .ok (.iconst 0, 1) := by decide +kernel
theorem dX11_shines_4 : decode cX11_shines 4 = .ok (.invokevirtual 65, 3) := by decide +kernel
theorem dX11_shines_7 : decode cX11_shines 7 = .ok (.ifCond .le 23, 3) := by decide +kernel
theorem dX11_shines_10 : decode cX11_shines 10 = .ok (.aload_n 0, 1) := by decide +kernel
theorem dX11_shines_11 : decode cX11_shines 11 = .ok (.iload_n 1, 1) := by decide +kernel
theorem dX11_shines_12 : decode cX11_shines 12 = .ok (.iload_n 2, 1) := by decide +kernel
theorem dX11_shines_13 : decode cX11_shines 13 = .ok (.iconst 1, 1) := by decide +kernel
theorem dX11_shines_14 : decode cX11_shines 14 = .ok (.invokevirtual 65, 3) := by decide +kernel
theorem dX11_shines_17 : decode cX11_shines 17 = .ok (.aload_n 0, 1) := by decide +kernel
theorem dX11_shines_18 : decode cX11_shines 18 = .ok (.getfield 9, 3) := by decide +kernel
theorem dX11_shines_21 : decode cX11_shines 21 = .ok (.iconst 3, 1) := by decide +kernel
theorem dX11_shines_22 : decode cX11_shines 22 = .ok (.iaload, 1) := by decide +kernel
theorem dX11_shines_23 : decode cX11_shines 23 = .ok (.if_icmp .gt 7, 3) := by decide +kernel
theorem dX11_shines_26 : decode cX11_shines 26 = .ok (.iconst 1, 1) := by decide +kernel
theorem dX11_shines_27 : decode cX11_shines 27 = .ok (.goto 4, 3) := by decide +kernel
theorem dX11_shines_30 : decode cX11_shines 30 = .ok (.iconst 0, 1) := by decide +kernel
theorem dX11_shines_31 : decode cX11_shines 31 = .ok (.ireturn, 1) := by decide +kernel
set_option maxRecDepth 20000 in
theorem ggX11_isLit_X11_asksLeg : GoodIn wsX11_isLit wsX11_asksLeg := goodIn_ca (goodIn_r _ [5, 6, 7, 8, 9, 4, 10, 11, 12, 13, 14, 15, 16, 17, 18, 23, 24, 25, 26, 27, 28, 29, 30, 31, 32, 33, 34, 35, 36, 37, 38, 39, 40, 41, 42] (by decide +kernel) (by decide +kernel)) (goodIn_sub (fun _ h => List.mem_cons_of_mem _ (List.mem_append_right _ h)) (by decide +kernel))
set_option maxRecDepth 20000 in
theorem gX11_isLit_X11_asksLeg : GoodIn wsX11_isLit (wsV RX11 106 RX11 yX11_asksLeg wsX11_asksLeg) := goodIn_app (goodIn_of _ (by decide +kernel)) ggX11_isLit_X11_asksLeg
set_option maxRecDepth 20000 in
theorem ggX11_isLit_X11_shines : GoodIn wsX11_isLit wsX11_shines := goodIn_ca (goodIn_r _ [22, 11, 15, 16, 17, 4, 18, 23, 24, 25, 26, 27, 28, 29, 30, 31, 32, 33, 34, 35, 36, 37, 38, 39, 40, 41, 42] (by decide +kernel) (by decide +kernel)) (goodIn_sub (fun _ h => List.mem_cons_of_mem _ (List.mem_append_right _ h)) (by decide +kernel))
set_option maxRecDepth 20000 in
theorem gX11_isLit_X11_shines : GoodIn wsX11_isLit (wsV RX11 109 RX11 yX11_shines wsX11_shines) := goodIn_app (goodIn_of _ (by decide +kernel)) ggX11_isLit_X11_shines
theorem dX11_isLit_0 : decode cX11_isLit 0 = .ok (.aload_n 0, 1) := by decide +kernel
theorem dX11_isLit_1 : decode cX11_isLit 1 = .ok (.iload_n 1, 1) := by decide +kernel
theorem dX11_isLit_2 : decode cX11_isLit 2 = .ok (.iload_n 2, 1) := by decide +kernel
theorem dX11_isLit_3 : decode cX11_isLit 3 = .ok (.invokevirtual 106, 3) := by decide +kernel
theorem dX11_isLit_6 : decode cX11_isLit 6 = .ok (.ifCond .eq 16, 3) := by decide +kernel
theorem dX11_isLit_9 : decode cX11_isLit 9 = .ok (.aload_n 0, 1) := by decide +kernel
theorem dX11_isLit_10 : decode cX11_isLit 10 = .ok (.iload_n 1, 1) := by decide +kernel
theorem dX11_isLit_11 : decode cX11_isLit 11 = .ok (.iload_n 2, 1) := by decide +kernel
theorem dX11_isLit_12 : decode cX11_isLit 12 = .ok (.invokevirtual 109, 3) := by decide +kernel
theorem dX11_isLit_15 : decode cX11_isLit 15 = .ok (.ifCond .eq 7, 3) := by decide +kernel
theorem dX11_isLit_18 : decode cX11_isLit 18 = .ok (.iconst 1, 1) := by decide +kernel
theorem dX11_isLit_19 : decode cX11_isLit 19 = .ok (.goto 4, 3) := by decide +kernel
theorem dX11_isLit_22 : decode cX11_isLit 22 = .ok (.iconst 0, 1) := by decide +kernel
theorem dX11_isLit_23 : decode cX11_isLit 23 = .ok (.ireturn, 1) := by decide +kernel
set_option maxRecDepth 20000 in
theorem ggX11_isAhead_X11_leg : GoodIn wsX11_isAhead wsX11_leg := goodIn_ca (goodIn_r _ [5, 6, 7, 8, 9, 10, 11, 12, 13, 14, 15, 16, 17, 18, 19, 20, 21, 22, 23, 24, 25, 26] (by decide +kernel) (by decide +kernel)) (goodIn_sub (fun _ h => List.mem_cons_of_mem _ (List.mem_append_right _ h)) (by decide +kernel))
set_option maxRecDepth 20000 in
theorem gX11_isAhead_X11_leg : GoodIn wsX11_isAhead (wsV RX11 65 RX11 yX11_leg wsX11_leg) := goodIn_app (goodIn_of _ (by decide +kernel)) ggX11_isAhead_X11_leg
theorem dX11_isAhead_0 : decode cX11_isAhead 0 = .ok (.aload_n 0, 1) := by decide +kernel
theorem dX11_isAhead_1 : decode cX11_isAhead 1 = .ok (.iload_n 2, 1) := by decide +kernel
theorem dX11_isAhead_2 : decode cX11_isAhead 2 = .ok (.bipush 10, 2) := by decide +kernel
theorem dX11_isAhead_4 : decode cX11_isAhead 4 = .ok (.idiv, 1) := by decide +kernel
theorem dX11_isAhead_5 : decode cX11_isAhead 5 = .ok (.iload_n 2, 1) := by decide +kernel
theorem dX11_isAhead_6 : decode cX11_isAhead 6 = .ok (.bipush 10, 2) := by decide +kernel
theorem dX11_isAhead_8 : decode cX11_isAhead 8 = .ok (.irem, 1) := by decide +kernel
theorem dX11_isAhead_9 : decode cX11_isAhead 9 = .ok (.iconst 1, 1) := by decide +kernel
theorem dX11_isAhead_10 : decode cX11_isAhead 10 = .ok (.invokevirtual 65, 3) := by decide +kernel
theorem dX11_isAhead_13 : decode cX11_isAhead 13 = .ok (.aload_n 0, 1) := by decide +kernel
theorem dX11_isAhead_14 : decode cX11_isAhead 14 = .ok (.iload_n 1, 1) := by decide +kernel
theorem dX11_isAhead_15 : decode cX11_isAhead 15 = .ok (.bipush 10, 2) := by decide +kernel
theorem dX11_isAhead_17 : decode cX11_isAhead 17 = .ok (.idiv, 1) := by decide +kernel
theorem dX11_isAhead_18 : decode cX11_isAhead 18 = .ok (.iload_n 1, 1) := by decide +kernel
theorem dX11_isAhead_19 : decode cX11_isAhead 19 = .ok (.bipush 10, 2) := by decide +kernel
theorem dX11_isAhead_21 : decode cX11_isAhead 21 = .ok (.irem, 1) := by decide +kernel
theorem dX11_isAhead_22 : decode cX11_isAhead 22 = .ok (.iconst 1, 1) := by decide +kernel
theorem dX11_isAhead_23 : decode cX11_isAhead 23 = .ok (.invokevirtual 65, 3) := by decide +kernel
theorem dX11_isAhead_26 : decode cX11_isAhead 26 = .ok (.isub, 1) := by decide +kernel
theorem dX11_isAhead_27 : decode cX11_isAhead 27 = .ok (.istore_n 3, 1) := by decide +kernel
theorem dX11_isAhead_28 : decode cX11_isAhead 28 = .ok (.iload_n 3, 1) := by decide +kernel
theorem dX11_isAhead_29 : decode cX11_isAhead 29 = .ok (.ifCond .eq 7, 3) := by decide +kernel
theorem dX11_isAhead_32 : decode cX11_isAhead 32 = .ok (.iload_n 3, 1) := by decide +kernel
theorem dX11_isAhead_33 : decode cX11_isAhead 33 = .ok (.goto 30, 3) := by decide +kernel
theorem dX11_isAhead_36 : decode cX11_isAhead 36 = .ok (.aload_n 0, 1) := by decide +kernel
theorem dX11_isAhead_37 : decode cX11_isAhead 37 = .ok (.iload_n 2, 1) := by decide +kernel
theorem dX11_isAhead_38 : decode cX11_isAhead 38 = .ok (.bipush 10, 2) := by decide +kernel
theorem dX11_isAhead_40 : decode cX11_isAhead 40 = .ok (.idiv, 1) := by decide +kernel
theorem dX11_isAhead_41 : decode cX11_isAhead 41 = .ok (.iload_n 2, 1) := by decide +kernel
theorem dX11_isAhead_42 : decode cX11_isAhead 42 = .ok (.bipush 10, 2) := by decide +kernel
theorem dX11_isAhead_44 : decode cX11_isAhead 44 = .ok (.irem, 1) := by decide +kernel
theorem dX11_isAhead_45 : decode cX11_isAhead 45 = .ok (.iconst 0, 1) := by decide +kernel
theorem dX11_isAhead_46 : decode cX11_isAhead 46 = .ok (.invokevirtual 65, 3) := by decide +kernel
theorem dX11_isAhead_49 : decode cX11_isAhead 49 = .ok (.aload_n 0, 1) := by decide +kernel
theorem dX11_isAhead_50 : decode cX11_isAhead 50 = .ok (.iload_n 1, 1) := by decide +kernel
theorem dX11_isAhead_51 : decode cX11_isAhead 51 = .ok (.bipush 10, 2) := by decide +kernel
theorem dX11_isAhead_53 : decode cX11_isAhead 53 = .ok (.idiv, 1) := by decide +kernel
theorem dX11_isAhead_54 : decode cX11_isAhead 54 = .ok (.iload_n 1, 1) := by decide +kernel
theorem dX11_isAhead_55 : decode cX11_isAhead 55 = .ok (.bipush 10, 2) := by decide +kernel
theorem dX11_isAhead_57 : decode cX11_isAhead 57 = .ok (.irem, 1) := by decide +kernel
theorem dX11_isAhead_58 : decode cX11_isAhead 58 = .ok (.iconst 0, 1) := by decide +kernel
theorem dX11_isAhead_59 : decode cX11_isAhead 59 = .ok (.invokevirtual 65, 3) := by decide +kernel
theorem dX11_isAhead_62 : decode cX11_isAhead 62 = .ok (.isub, 1) := by decide +kernel
theorem dX11_isAhead_63 : decode cX11_isAhead 63 = .ok (.istore_n 3, 1) := by decide +kernel
theorem dX11_isAhead_64 : decode cX11_isAhead 64 = .ok (.iload_n 3, 1) := by decide +kernel
theorem dX11_isAhead_65 : decode cX11_isAhead 65 = .ok (.ifCond .gt 12, 3) := by decide +kernel
theorem dX11_isAhead_68 : decode cX11_isAhead 68 = .ok (.iload_n 3, 1) := by decide +kernel
theorem dX11_isAhead_69 : decode cX11_isAhead 69 = .ok (.ifCond .ne 12, 3) := by decide +kernel
theorem dX11_isAhead_72 : decode cX11_isAhead 72 = .ok (.iload_n 1, 1) := by decide +kernel
theorem dX11_isAhead_73 : decode cX11_isAhead 73 = .ok (.iload_n 2, 1) := by decide +kernel
theorem dX11_isAhead_74 : decode cX11_isAhead 74 = .ok (.if_icmp .ge 7, 3) := by decide +kernel
theorem dX11_isAhead_77 : decode cX11_isAhead 77 = .ok (.iconst 1, 1) := by decide +kernel
theorem dX11_isAhead_78 : decode cX11_isAhead 78 = .ok (.goto 4, 3) := by decide +kernel
theorem dX11_isAhead_81 : decode cX11_isAhead 81 = .ok (.iconst 0, 1) := by decide +kernel
theorem dX11_isAhead_82 : decode cX11_isAhead 82 = .ok (.ireturn, 1) := by decide +kernel
set_option maxRecDepth 20000 in
theorem ggX11_legAt_X11_leg : GoodIn wsX11_legAt wsX11_leg := goodIn_ca (goodIn_r _ [5, 6, 11, 12, 13, 14, 15, 16, 17, 18, 19, 20, 21, 22, 23, 24, 25, 26, 27, 28, 29, 30] (by decide +kernel) (by decide +kernel)) (goodIn_sub (fun _ h => List.mem_cons_of_mem _ (List.mem_append_right _ h)) (by decide +kernel))
set_option maxRecDepth 20000 in
theorem gX11_legAt_X11_leg : GoodIn wsX11_legAt (wsV RX11 65 RX11 yX11_leg wsX11_leg) := goodIn_app (goodIn_of _ (by decide +kernel)) ggX11_legAt_X11_leg
set_option maxRecDepth 20000 in
theorem ggX11_legAt_X11_isAhead : GoodIn wsX11_legAt wsX11_isAhead := goodIn_ca (goodIn_r _ [10, 1, 2, 3, 4, 5, 6, 11, 12, 13, 14, 15, 16, 17, 18, 19, 20, 21, 22, 23, 24, 25, 26, 27, 28, 29, 30] (by decide +kernel) (by decide +kernel)) (goodIn_sub (fun _ h => List.mem_cons_of_mem _ (List.mem_append_right _ h)) (by decide +kernel))
set_option maxRecDepth 20000 in
theorem gX11_legAt_X11_isAhead : GoodIn wsX11_legAt (wsV RX11 112 RX11 yX11_isAhead wsX11_isAhead) := goodIn_app (goodIn_of _ (by decide +kernel)) ggX11_legAt_X11_isAhead
theorem dX11_legAt_0 : decode cX11_legAt 0 = .ok (.iconst (-1), 1) := by decide +kernel
theorem dX11_legAt_1 : decode cX11_legAt 1 = .ok (.istore_n 2, 1) := by decide +kernel
theorem dX11_legAt_2 : decode cX11_legAt 2 = .ok (.iconst 0, 1) := by decide +kernel
theorem dX11_legAt_3 : decode cX11_legAt 3 = .ok (.istore_n 3, 1) := by decide +kernel
theorem dX11_legAt_4 : decode cX11_legAt 4 = .ok (.iload_n 3, 1) := by decide +kernel
theorem dX11_legAt_5 : decode cX11_legAt 5 = .ok (.bipush 100, 2) := by decide +kernel
theorem dX11_legAt_7 : decode cX11_legAt 7 = .ok (.if_icmp .ge 147, 3) := by decide +kernel
theorem dX11_legAt_10 : decode cX11_legAt 10 = .ok (.iload_n 3, 1) := by decide +kernel
theorem dX11_legAt_11 : decode cX11_legAt 11 = .ok (.bipush 10, 2) := by decide +kernel
theorem dX11_legAt_13 : decode cX11_legAt 13 = .ok (.idiv, 1) := by decide +kernel
theorem dX11_legAt_14 : decode cX11_legAt 14 = .ok (.iload_n 3, 1) := by decide +kernel
theorem dX11_legAt_15 : decode cX11_legAt 15 = .ok (.bipush 10, 2) := by decide +kernel
theorem dX11_legAt_17 : decode cX11_legAt 17 = .ok (.irem, 1) := by decide +kernel
theorem dX11_legAt_18 : decode cX11_legAt 18 = .ok (.if_icmp .ge 23, 3) := by decide +kernel
theorem dX11_legAt_21 : decode cX11_legAt 21 = .ok (.aload_n 0, 1) := by decide +kernel
theorem dX11_legAt_22 : decode cX11_legAt 22 = .ok (.iload_n 3, 1) := by decide +kernel
theorem dX11_legAt_23 : decode cX11_legAt 23 = .ok (.bipush 10, 2) := by decide +kernel
theorem dX11_legAt_25 : decode cX11_legAt 25 = .ok (.idiv, 1) := by decide +kernel
theorem dX11_legAt_26 : decode cX11_legAt 26 = .ok (.iload_n 3, 1) := by decide +kernel
theorem dX11_legAt_27 : decode cX11_legAt 27 = .ok (.bipush 10, 2) := by decide +kernel
theorem dX11_legAt_29 : decode cX11_legAt 29 = .ok (.irem, 1) := by decide +kernel
theorem dX11_legAt_30 : decode cX11_legAt 30 = .ok (.iconst 0, 1) := by decide +kernel
theorem dX11_legAt_31 : decode cX11_legAt 31 = .ok (.invokevirtual 65, 3) := by decide +kernel
theorem dX11_legAt_34 : decode cX11_legAt 34 = .ok (.ifCond .le 7, 3) := by decide +kernel
theorem dX11_legAt_37 : decode cX11_legAt 37 = .ok (.iconst 1, 1) := by decide +kernel
theorem dX11_legAt_38 : decode cX11_legAt 38 = .ok (.goto 4, 3) := by decide +kernel
theorem dX11_legAt_41 : decode cX11_legAt 41 = .ok (.iconst 0, 1) := by decide +kernel
theorem dX11_legAt_42 : decode cX11_legAt 42 = .ok (.istore 4, 2) := by decide +kernel
theorem dX11_legAt_44 : decode cX11_legAt 44 = .ok (.iconst 0, 1) := by decide +kernel
theorem dX11_legAt_45 : decode cX11_legAt 45 = .ok (.istore 5, 2) := by decide +kernel
theorem dX11_legAt_47 : decode cX11_legAt 47 = .ok (.iconst 0, 1) := by decide +kernel
theorem dX11_legAt_48 : decode cX11_legAt 48 = .ok (.istore 6, 2) := by decide +kernel
theorem dX11_legAt_50 : decode cX11_legAt 50 = .ok (.iload 6, 2) := by decide +kernel
theorem dX11_legAt_52 : decode cX11_legAt 52 = .ok (.bipush 100, 2) := by decide +kernel
theorem dX11_legAt_54 : decode cX11_legAt 54 = .ok (.if_icmp .ge 77, 3) := by decide +kernel
theorem dX11_legAt_57 : decode cX11_legAt 57 = .ok (.iload 4, 2) := by decide +kernel
theorem dX11_legAt_59 : decode cX11_legAt 59 = .ok (.ifCond .eq 72, 3) := by decide +kernel
theorem dX11_legAt_62 : decode cX11_legAt 62 = .ok (.iload 6, 2) := by decide +kernel
theorem dX11_legAt_64 : decode cX11_legAt 64 = .ok (.bipush 10, 2) := by decide +kernel
theorem dX11_legAt_66 : decode cX11_legAt 66 = .ok (.idiv, 1) := by decide +kernel
theorem dX11_legAt_67 : decode cX11_legAt 67 = .ok (.iload 6, 2) := by decide +kernel
theorem dX11_legAt_69 : decode cX11_legAt 69 = .ok (.bipush 10, 2) := by decide +kernel
theorem dX11_legAt_71 : decode cX11_legAt 71 = .ok (.irem, 1) := by decide +kernel
theorem dX11_legAt_72 : decode cX11_legAt 72 = .ok (.if_icmp .ge 25, 3) := by decide +kernel
theorem dX11_legAt_75 : decode cX11_legAt 75 = .ok (.aload_n 0, 1) := by decide +kernel
theorem dX11_legAt_76 : decode cX11_legAt 76 = .ok (.iload 6, 2) := by decide +kernel
theorem dX11_legAt_78 : decode cX11_legAt 78 = .ok (.bipush 10, 2) := by decide +kernel
theorem dX11_legAt_80 : decode cX11_legAt 80 = .ok (.idiv, 1) := by decide +kernel
theorem dX11_legAt_81 : decode cX11_legAt 81 = .ok (.iload 6, 2) := by decide +kernel
theorem dX11_legAt_83 : decode cX11_legAt 83 = .ok (.bipush 10, 2) := by decide +kernel
theorem dX11_legAt_85 : decode cX11_legAt 85 = .ok (.irem, 1) := by decide +kernel
theorem dX11_legAt_86 : decode cX11_legAt 86 = .ok (.iconst 0, 1) := by decide +kernel
theorem dX11_legAt_87 : decode cX11_legAt 87 = .ok (.invokevirtual 65, 3) := by decide +kernel
theorem dX11_legAt_90 : decode cX11_legAt 90 = .ok (.ifCond .le 7, 3) := by decide +kernel
theorem dX11_legAt_93 : decode cX11_legAt 93 = .ok (.iconst 1, 1) := by decide +kernel
theorem dX11_legAt_94 : decode cX11_legAt 94 = .ok (.goto 4, 3) := by decide +kernel
theorem dX11_legAt_97 : decode cX11_legAt 97 = .ok (.iconst 0, 1) := by decide +kernel
theorem dX11_legAt_98 : decode cX11_legAt 98 = .ok (.istore 7, 2) := by decide +kernel
theorem dX11_legAt_100 : decode cX11_legAt 100 = .ok (.iload 5, 2) := by decide +kernel
theorem dX11_legAt_102 : decode cX11_legAt 102 = .ok (.iload 7, 2) := by decide +kernel
theorem dX11_legAt_104 : decode cX11_legAt 104 = .ok (.ifCond .eq 17, 3) := by decide +kernel
theorem dX11_legAt_107 : decode cX11_legAt 107 = .ok (.aload_n 0, 1) := by decide +kernel
theorem dX11_legAt_108 : decode cX11_legAt 108 = .ok (.iload 6, 2) := by decide +kernel
theorem dX11_legAt_110 : decode cX11_legAt 110 = .ok (.iload_n 3, 1) := by decide +kernel
theorem dX11_legAt_111 : decode cX11_legAt 111 = .ok (.invokevirtual 112, 3) := by decide +kernel
theorem dX11_legAt_114 : decode cX11_legAt 114 = .ok (.ifCond .eq 7, 3) := by decide +kernel
theorem dX11_legAt_117 : decode cX11_legAt 117 = .ok (.iconst 1, 1) := by decide +kernel
theorem dX11_legAt_118 : decode cX11_legAt 118 = .ok (.goto 4, 3) := by decide +kernel
theorem dX11_legAt_121 : decode cX11_legAt 121 = .ok (.iconst 0, 1) := by decide +kernel
theorem dX11_legAt_122 : decode cX11_legAt 122 = .ok (.iadd, 1) := by decide +kernel
theorem dX11_legAt_123 : decode cX11_legAt 123 = .ok (.istore 5, 2) := by decide +kernel
theorem dX11_legAt_125 : decode cX11_legAt 125 = .ok (.iinc 6 1, 3) := by decide +kernel
theorem dX11_legAt_128 : decode cX11_legAt 128 = .ok (.goto (-78), 3) := by decide +kernel
theorem dX11_legAt_131 : decode cX11_legAt 131 = .ok (.iload 4, 2) := by decide +kernel
theorem dX11_legAt_133 : decode cX11_legAt 133 = .ok (.ifCond .eq 13, 3) := by decide +kernel
theorem dX11_legAt_136 : decode cX11_legAt 136 = .ok (.iload 5, 2) := by decide +kernel
theorem dX11_legAt_138 : decode cX11_legAt 138 = .ok (.iload_n 1, 1) := by decide +kernel
theorem dX11_legAt_139 : decode cX11_legAt 139 = .ok (.if_icmp .ne 7, 3) := by decide +kernel
theorem dX11_legAt_142 : decode cX11_legAt 142 = .ok (.iload_n 3, 1) := by decide +kernel
theorem dX11_legAt_143 : decode cX11_legAt 143 = .ok (.goto 4, 3) := by decide +kernel
theorem dX11_legAt_146 : decode cX11_legAt 146 = .ok (.iload_n 2, 1) := by decide +kernel
theorem dX11_legAt_147 : decode cX11_legAt 147 = .ok (.istore_n 2, 1) := by decide +kernel
theorem dX11_legAt_148 : decode cX11_legAt 148 = .ok (.iinc 3 1, 3) := by decide +kernel
theorem dX11_legAt_151 : decode cX11_legAt 151 = .ok (.goto (-147), 3) := by decide +kernel
theorem dX11_legAt_154 : decode cX11_legAt 154 = .ok (.iload_n 2, 1) := by decide +kernel
theorem dX11_legAt_155 : decode cX11_legAt 155 = .ok (.ireturn, 1) := by decide +kernel
set_option maxRecDepth 20000 in
theorem ggX11_lowerPortAt_X11_legAt : GoodIn wsX11_lowerPortAt wsX11_legAt := goodIn_ca (goodIn_r _ [5, 6, 7, 8, 4, 9, 10, 11, 12, 13, 14, 20, 21, 22, 23, 24, 25, 26, 27, 28, 29, 30, 31, 32, 33, 34, 35, 36, 37, 38, 39] (by decide +kernel) (by decide +kernel)) (goodIn_sub (fun _ h => List.mem_cons_of_mem _ (List.mem_append_right _ h)) (by decide +kernel))
set_option maxRecDepth 20000 in
theorem gX11_lowerPortAt_X11_legAt : GoodIn wsX11_lowerPortAt (wsV RX11 115 RX11 yX11_legAt wsX11_legAt) := goodIn_app (goodIn_of _ (by decide +kernel)) ggX11_lowerPortAt_X11_legAt
set_option maxRecDepth 20000 in
theorem ggX11_lowerPortAt_X11_isThere : GoodIn wsX11_lowerPortAt wsX11_isThere := goodIn_r _ [18, 19, 20, 21, 22, 23, 24, 25, 26, 27, 28, 29, 30, 31, 32, 33, 34, 35, 36, 37, 38, 39] (by decide +kernel) (by decide +kernel)
set_option maxRecDepth 20000 in
theorem gX11_lowerPortAt_X11_isThere : GoodIn wsX11_lowerPortAt (wsV RX11 102 RX11 yX11_isThere wsX11_isThere) := goodIn_app (goodIn_of _ (by decide +kernel)) ggX11_lowerPortAt_X11_isThere
theorem dX11_lowerPortAt_0 : decode cX11_lowerPortAt 0 = .ok (.aload_n 0, 1) := by decide +kernel
theorem dX11_lowerPortAt_1 : decode cX11_lowerPortAt 1 = .ok (.iload_n 1, 1) := by decide +kernel
theorem dX11_lowerPortAt_2 : decode cX11_lowerPortAt 2 = .ok (.invokevirtual 115, 3) := by decide +kernel
theorem dX11_lowerPortAt_5 : decode cX11_lowerPortAt 5 = .ok (.istore_n 2, 1) := by decide +kernel
theorem dX11_lowerPortAt_6 : decode cX11_lowerPortAt 6 = .ok (.aload_n 0, 1) := by decide +kernel
theorem dX11_lowerPortAt_7 : decode cX11_lowerPortAt 7 = .ok (.iload_n 2, 1) := by decide +kernel
theorem dX11_lowerPortAt_8 : decode cX11_lowerPortAt 8 = .ok (.ifCond .lt 7, 3) := by decide +kernel
theorem dX11_lowerPortAt_11 : decode cX11_lowerPortAt 11 = .ok (.iconst 1, 1) := by decide +kernel
theorem dX11_lowerPortAt_12 : decode cX11_lowerPortAt 12 = .ok (.goto 4, 3) := by decide +kernel
theorem dX11_lowerPortAt_15 : decode cX11_lowerPortAt 15 = .ok (.iconst 0, 1) := by decide +kernel
theorem dX11_lowerPortAt_16 : decode cX11_lowerPortAt 16 = .ok (.invokevirtual 102, 3) := by decide +kernel
theorem dX11_lowerPortAt_19 : decode cX11_lowerPortAt 19 = .ok (.ifCond .eq 10, 3) := by decide +kernel
theorem dX11_lowerPortAt_22 : decode cX11_lowerPortAt 22 = .ok (.iload_n 2, 1) := by decide +kernel
theorem dX11_lowerPortAt_23 : decode cX11_lowerPortAt 23 = .ok (.bipush 10, 2) := by decide +kernel
theorem dX11_lowerPortAt_25 : decode cX11_lowerPortAt 25 = .ok (.idiv, 1) := by decide +kernel
theorem dX11_lowerPortAt_26 : decode cX11_lowerPortAt 26 = .ok (.goto 4, 3) := by decide +kernel
theorem dX11_lowerPortAt_29 : decode cX11_lowerPortAt 29 = .ok (.iconst 0, 1) := by decide +kernel
theorem dX11_lowerPortAt_30 : decode cX11_lowerPortAt 30 = .ok (.ireturn, 1) := by decide +kernel
set_option maxRecDepth 20000 in
theorem ggX11_upperPortAt_X11_legAt : GoodIn wsX11_upperPortAt wsX11_legAt := goodIn_ca (goodIn_r _ [5, 6, 7, 8, 4, 9, 10, 11, 12, 13, 14, 20, 21, 22, 23, 24, 25, 26, 27, 28, 29, 30, 31, 32, 33, 34, 35, 36, 37, 38, 39] (by decide +kernel) (by decide +kernel)) (goodIn_sub (fun _ h => List.mem_cons_of_mem _ (List.mem_append_right _ h)) (by decide +kernel))
set_option maxRecDepth 20000 in
theorem gX11_upperPortAt_X11_legAt : GoodIn wsX11_upperPortAt (wsV RX11 115 RX11 yX11_legAt wsX11_legAt) := goodIn_app (goodIn_of _ (by decide +kernel)) ggX11_upperPortAt_X11_legAt
set_option maxRecDepth 20000 in
theorem ggX11_upperPortAt_X11_isThere : GoodIn wsX11_upperPortAt wsX11_isThere := goodIn_r _ [18, 19, 20, 21, 22, 23, 24, 25, 26, 27, 28, 29, 30, 31, 32, 33, 34, 35, 36, 37, 38, 39] (by decide +kernel) (by decide +kernel)
set_option maxRecDepth 20000 in
theorem gX11_upperPortAt_X11_isThere : GoodIn wsX11_upperPortAt (wsV RX11 102 RX11 yX11_isThere wsX11_isThere) := goodIn_app (goodIn_of _ (by decide +kernel)) ggX11_upperPortAt_X11_isThere
theorem dX11_upperPortAt_0 : decode cX11_upperPortAt 0 = .ok (.aload_n 0, 1) := by decide +kernel
theorem dX11_upperPortAt_1 : decode cX11_upperPortAt 1 = .ok (.iload_n 1, 1) := by decide +kernel
theorem dX11_upperPortAt_2 : decode cX11_upperPortAt 2 = .ok (.invokevirtual 115, 3) := by decide +kernel
theorem dX11_upperPortAt_5 : decode cX11_upperPortAt 5 = .ok (.istore_n 2, 1) := by decide +kernel
theorem dX11_upperPortAt_6 : decode cX11_upperPortAt 6 = .ok (.aload_n 0, 1) := by decide +kernel
theorem dX11_upperPortAt_7 : decode cX11_upperPortAt 7 = .ok (.iload_n 2, 1) := by decide +kernel
theorem dX11_upperPortAt_8 : decode cX11_upperPortAt 8 = .ok (.ifCond .lt 7, 3) := by decide +kernel
theorem dX11_upperPortAt_11 : decode cX11_upperPortAt 11 = .ok (.iconst 1, 1) := by decide +kernel
theorem dX11_upperPortAt_12 : decode cX11_upperPortAt 12 = .ok (.goto 4, 3) := by decide +kernel
theorem dX11_upperPortAt_15 : decode cX11_upperPortAt 15 = .ok (.iconst 0, 1) := by decide +kernel
theorem dX11_upperPortAt_16 : decode cX11_upperPortAt 16 = .ok (.invokevirtual 102, 3) := by decide +kernel
theorem dX11_upperPortAt_19 : decode cX11_upperPortAt 19 = .ok (.ifCond .eq 10, 3) := by decide +kernel
theorem dX11_upperPortAt_22 : decode cX11_upperPortAt 22 = .ok (.iload_n 2, 1) := by decide +kernel
theorem dX11_upperPortAt_23 : decode cX11_upperPortAt 23 = .ok (.bipush 10, 2) := by decide +kernel
theorem dX11_upperPortAt_25 : decode cX11_upperPortAt 25 = .ok (.irem, 1) := by decide +kernel
theorem dX11_upperPortAt_26 : decode cX11_upperPortAt 26 = .ok (.goto 4, 3) := by decide +kernel
theorem dX11_upperPortAt_29 : decode cX11_upperPortAt 29 = .ok (.iconst 0, 1) := by decide +kernel
theorem dX11_upperPortAt_30 : decode cX11_upperPortAt 30 = .ok (.ireturn, 1) := by decide +kernel
set_option maxRecDepth 20000 in
theorem ggX11_finds_X11_leg : GoodIn wsX11_finds wsX11_leg := goodIn_ca (goodIn_r _ [11, 12, 17, 18, 19, 20, 21, 22, 23, 24, 25, 26, 27, 28, 29, 30, 31, 32, 33, 34, 35, 36] (by decide +kernel) (by decide +kernel)) (goodIn_sub (fun _ h => List.mem_cons_of_mem _ (List.mem_append_right _ h)) (by decide +kernel))
set_option maxRecDepth 20000 in
theorem gX11_finds_X11_leg : GoodIn wsX11_finds (wsV RX11 65 RX11 yX11_leg wsX11_leg) := goodIn_app (goodIn_of _ (by decide +kernel)) ggX11_finds_X11_leg
set_option maxRecDepth 20000 in
theorem ggX11_finds_X11_shines : GoodIn wsX11_finds wsX11_shines := goodIn_ca (goodIn_r _ [16, 12, 7, 8, 9, 10, 11, 17, 18, 19, 20, 21, 22, 23, 24, 25, 26, 27, 28, 29, 30, 31, 32, 33, 34, 35, 36] (by decide +kernel) (by decide +kernel)) (goodIn_sub (fun _ h => List.mem_cons_of_mem _ (List.mem_append_right _ h)) (by decide +kernel))
set_option maxRecDepth 20000 in
theorem gX11_finds_X11_shines : GoodIn wsX11_finds (wsV RX11 109 RX11 yX11_shines wsX11_shines) := goodIn_app (goodIn_of _ (by decide +kernel)) ggX11_finds_X11_shines
theorem dX11_finds_0 : decode cX11_finds 0 = .ok (.iconst 0, 1) := by decide +kernel
theorem dX11_finds_1 : decode cX11_finds 1 = .ok (.istore_n 2, 1) := by decide +kernel
theorem dX11_finds_2 : decode cX11_finds 2 = .ok (.iload_n 2, 1) := by decide +kernel
theorem dX11_finds_3 : decode cX11_finds 3 = .ok (.bipush 100, 2) := by decide +kernel
theorem dX11_finds_5 : decode cX11_finds 5 = .ok (.if_icmp .ge 86, 3) := by decide +kernel
theorem dX11_finds_8 : decode cX11_finds 8 = .ok (.iload_n 2, 1) := by decide +kernel
theorem dX11_finds_9 : decode cX11_finds 9 = .ok (.bipush 10, 2) := by decide +kernel
theorem dX11_finds_11 : decode cX11_finds 11 = .ok (.idiv, 1) := by decide +kernel
theorem dX11_finds_12 : decode cX11_finds 12 = .ok (.istore_n 3, 1) := by decide +kernel
theorem dX11_finds_13 : decode cX11_finds 13 = .ok (.iload_n 2, 1) := by decide +kernel
theorem dX11_finds_14 : decode cX11_finds 14 = .ok (.bipush 10, 2) := by decide +kernel
theorem dX11_finds_16 : decode cX11_finds 16 = .ok (.irem, 1) := by decide +kernel
theorem dX11_finds_17 : decode cX11_finds 17 = .ok (.istore 4, 2) := by decide +kernel
theorem dX11_finds_19 : decode cX11_finds 19 = .ok (.aload_n 0, 1) := by decide +kernel
theorem dX11_finds_20 : decode cX11_finds 20 = .ok (.iload_n 3, 1) := by decide +kernel
theorem dX11_finds_21 : decode cX11_finds 21 = .ok (.iload 4, 2) := by decide +kernel
theorem dX11_finds_23 : decode cX11_finds 23 = .ok (.iconst 0, 1) := by decide +kernel
theorem dX11_finds_24 : decode cX11_finds 24 = .ok (.invokevirtual 65, 3) := by decide +kernel
theorem dX11_finds_27 : decode cX11_finds 27 = .ok (.ifCond .le 21, 3) := by decide +kernel
theorem dX11_finds_30 : decode cX11_finds 30 = .ok (.iload_n 1, 1) := by decide +kernel
theorem dX11_finds_31 : decode cX11_finds 31 = .ok (.ifCond .eq 13, 3) := by decide +kernel
theorem dX11_finds_34 : decode cX11_finds 34 = .ok (.aload_n 0, 1) := by decide +kernel
theorem dX11_finds_35 : decode cX11_finds 35 = .ok (.iload_n 3, 1) := by decide +kernel
theorem dX11_finds_36 : decode cX11_finds 36 = .ok (.iload 4, 2) := by decide +kernel
theorem dX11_finds_38 : decode cX11_finds 38 = .ok (.invokevirtual 109, 3) := by decide +kernel
theorem dX11_finds_41 : decode cX11_finds 41 = .ok (.ifCond .eq 7, 3) := by decide +kernel
theorem dX11_finds_44 : decode cX11_finds 44 = .ok (.iconst 1, 1) := by decide +kernel
theorem dX11_finds_45 : decode cX11_finds 45 = .ok (.goto 4, 3) := by decide +kernel
theorem dX11_finds_48 : decode cX11_finds 48 = .ok (.iconst 0, 1) := by decide +kernel
theorem dX11_finds_49 : decode cX11_finds 49 = .ok (.istore 5, 2) := by decide +kernel
theorem dX11_finds_51 : decode cX11_finds 51 = .ok (.aload_n 0, 1) := by decide +kernel
theorem dX11_finds_52 : decode cX11_finds 52 = .ok (.getfield 22, 3) := by decide +kernel
theorem dX11_finds_55 : decode cX11_finds 55 = .ok (.iload_n 2, 1) := by decide +kernel
theorem dX11_finds_56 : decode cX11_finds 56 = .ok (.iload_n 3, 1) := by decide +kernel
theorem dX11_finds_57 : decode cX11_finds 57 = .ok (.iload 4, 2) := by decide +kernel
theorem dX11_finds_59 : decode cX11_finds 59 = .ok (.if_icmp .ne 7, 3) := by decide +kernel
theorem dX11_finds_62 : decode cX11_finds 62 = .ok (.iconst 0, 1) := by decide +kernel
theorem dX11_finds_63 : decode cX11_finds 63 = .ok (.goto 21, 3) := by decide +kernel
theorem dX11_finds_66 : decode cX11_finds 66 = .ok (.iload 5, 2) := by decide +kernel
theorem dX11_finds_68 : decode cX11_finds 68 = .ok (.ifCond .eq 14, 3) := by decide +kernel
theorem dX11_finds_71 : decode cX11_finds 71 = .ok (.aload_n 0, 1) := by decide +kernel
theorem dX11_finds_72 : decode cX11_finds 72 = .ok (.iload_n 3, 1) := by decide +kernel
theorem dX11_finds_73 : decode cX11_finds 73 = .ok (.iload 4, 2) := by decide +kernel
theorem dX11_finds_75 : decode cX11_finds 75 = .ok (.iconst 0, 1) := by decide +kernel
theorem dX11_finds_76 : decode cX11_finds 76 = .ok (.invokevirtual 65, 3) := by decide +kernel
theorem dX11_finds_79 : decode cX11_finds 79 = .ok (.goto 5, 3) := by decide +kernel
theorem dX11_finds_82 : decode cX11_finds 82 = .ok (.ldc 118, 2) := by decide +kernel
theorem dX11_finds_84 : decode cX11_finds 84 = .ok (.iastore, 1) := by decide +kernel
theorem dX11_finds_85 : decode cX11_finds 85 = .ok (.iinc 2 1, 3) := by decide +kernel
theorem dX11_finds_88 : decode cX11_finds 88 = .ok (.goto (-86), 3) := by decide +kernel
theorem dX11_finds_91 : decode cX11_finds 91 = .ok (.iconst 0, 1) := by decide +kernel
theorem dX11_finds_92 : decode cX11_finds 92 = .ok (.istore_n 2, 1) := by decide +kernel
theorem dX11_finds_93 : decode cX11_finds 93 = .ok (.iload_n 2, 1) := by decide +kernel
theorem dX11_finds_94 : decode cX11_finds 94 = .ok (.bipush 10, 2) := by decide +kernel
theorem dX11_finds_96 : decode cX11_finds 96 = .ok (.if_icmp .ge 71, 3) := by decide +kernel
theorem dX11_finds_99 : decode cX11_finds 99 = .ok (.iconst 0, 1) := by decide +kernel
theorem dX11_finds_100 : decode cX11_finds 100 = .ok (.istore_n 3, 1) := by decide +kernel
theorem dX11_finds_101 : decode cX11_finds 101 = .ok (.iload_n 3, 1) := by decide +kernel
theorem dX11_finds_102 : decode cX11_finds 102 = .ok (.bipush 100, 2) := by decide +kernel
theorem dX11_finds_104 : decode cX11_finds 104 = .ok (.if_icmp .ge 57, 3) := by decide +kernel
theorem dX11_finds_107 : decode cX11_finds 107 = .ok (.aload_n 0, 1) := by decide +kernel
theorem dX11_finds_108 : decode cX11_finds 108 = .ok (.getfield 22, 3) := by decide +kernel
theorem dX11_finds_111 : decode cX11_finds 111 = .ok (.bipush 10, 2) := by decide +kernel
theorem dX11_finds_113 : decode cX11_finds 113 = .ok (.iload_n 3, 1) := by decide +kernel
theorem dX11_finds_114 : decode cX11_finds 114 = .ok (.bipush 10, 2) := by decide +kernel
theorem dX11_finds_116 : decode cX11_finds 116 = .ok (.idiv, 1) := by decide +kernel
theorem dX11_finds_117 : decode cX11_finds 117 = .ok (.imul, 1) := by decide +kernel
theorem dX11_finds_118 : decode cX11_finds 118 = .ok (.iload_n 2, 1) := by decide +kernel
theorem dX11_finds_119 : decode cX11_finds 119 = .ok (.iadd, 1) := by decide +kernel
theorem dX11_finds_120 : decode cX11_finds 120 = .ok (.iaload, 1) := by decide +kernel
theorem dX11_finds_121 : decode cX11_finds 121 = .ok (.aload_n 0, 1) := by decide +kernel
theorem dX11_finds_122 : decode cX11_finds 122 = .ok (.getfield 22, 3) := by decide +kernel
theorem dX11_finds_125 : decode cX11_finds 125 = .ok (.bipush 10, 2) := by decide +kernel
theorem dX11_finds_127 : decode cX11_finds 127 = .ok (.iload_n 2, 1) := by decide +kernel
theorem dX11_finds_128 : decode cX11_finds 128 = .ok (.imul, 1) := by decide +kernel
theorem dX11_finds_129 : decode cX11_finds 129 = .ok (.iload_n 3, 1) := by decide +kernel
theorem dX11_finds_130 : decode cX11_finds 130 = .ok (.bipush 10, 2) := by decide +kernel
theorem dX11_finds_132 : decode cX11_finds 132 = .ok (.irem, 1) := by decide +kernel
theorem dX11_finds_133 : decode cX11_finds 133 = .ok (.iadd, 1) := by decide +kernel
theorem dX11_finds_134 : decode cX11_finds 134 = .ok (.iaload, 1) := by decide +kernel
theorem dX11_finds_135 : decode cX11_finds 135 = .ok (.iadd, 1) := by decide +kernel
theorem dX11_finds_136 : decode cX11_finds 136 = .ok (.istore 4, 2) := by decide +kernel
theorem dX11_finds_138 : decode cX11_finds 138 = .ok (.aload_n 0, 1) := by decide +kernel
theorem dX11_finds_139 : decode cX11_finds 139 = .ok (.getfield 22, 3) := by decide +kernel
theorem dX11_finds_142 : decode cX11_finds 142 = .ok (.iload_n 3, 1) := by decide +kernel
theorem dX11_finds_143 : decode cX11_finds 143 = .ok (.aload_n 0, 1) := by decide +kernel
theorem dX11_finds_144 : decode cX11_finds 144 = .ok (.getfield 22, 3) := by decide +kernel
theorem dX11_finds_147 : decode cX11_finds 147 = .ok (.iload_n 3, 1) := by decide +kernel
theorem dX11_finds_148 : decode cX11_finds 148 = .ok (.iaload, 1) := by decide +kernel
theorem dX11_finds_149 : decode cX11_finds 149 = .ok (.iload 4, 2) := by decide +kernel
theorem dX11_finds_151 : decode cX11_finds 151 = .ok (.invokestatic 119, 3) := by decide +kernel
theorem dX11_finds_154 : decode cX11_finds 154 = .ok (.iastore, 1) := by decide +kernel
theorem dX11_finds_155 : decode cX11_finds 155 = .ok (.iinc 3 1, 3) := by decide +kernel
theorem dX11_finds_158 : decode cX11_finds 158 = .ok (.goto (-57), 3) := by decide +kernel
theorem dX11_finds_161 : decode cX11_finds 161 = .ok (.iinc 2 1, 3) := by decide +kernel
theorem dX11_finds_164 : decode cX11_finds 164 = .ok (.goto (-71), 3) := by decide +kernel
theorem dX11_finds_167 : decode cX11_finds 167 = .ok (.return_, 1) := by decide +kernel
set_option maxRecDepth 20000 in
theorem ggX11_findsRanges_X11_leg : GoodIn wsX11_findsRanges wsX11_leg := goodIn_ca (goodIn_r _ [14, 15, 16, 17, 18, 19, 20, 21, 22, 23, 24, 25, 26, 27, 28, 29, 30, 31, 32, 33, 34, 35] (by decide +kernel) (by decide +kernel)) (goodIn_sub (fun _ h => List.mem_cons_of_mem _ (List.mem_append_right _ h)) (by decide +kernel))
set_option maxRecDepth 20000 in
theorem gX11_findsRanges_X11_leg : GoodIn wsX11_findsRanges (wsV RX11 65 RX11 yX11_leg wsX11_leg) := goodIn_app (goodIn_of _ (by decide +kernel)) ggX11_findsRanges_X11_leg
theorem dX11_findsRanges_0 : decode cX11_findsRanges 0 = .ok (.iconst 0, 1) := by decide +kernel
theorem dX11_findsRanges_1 : decode cX11_findsRanges 1 = .ok (.istore_n 1, 1) := by decide +kernel
theorem dX11_findsRanges_2 : decode cX11_findsRanges 2 = .ok (.iload_n 1, 1) := by decide +kernel
theorem dX11_findsRanges_3 : decode cX11_findsRanges 3 = .ok (.bipush 100, 2) := by decide +kernel
theorem dX11_findsRanges_5 : decode cX11_findsRanges 5 = .ok (.if_icmp .ge 74, 3) := by decide +kernel
theorem dX11_findsRanges_8 : decode cX11_findsRanges 8 = .ok (.aload_n 0, 1) := by decide +kernel
theorem dX11_findsRanges_9 : decode cX11_findsRanges 9 = .ok (.iload_n 1, 1) := by decide +kernel
theorem dX11_findsRanges_10 : decode cX11_findsRanges 10 = .ok (.bipush 10, 2) := by decide +kernel
theorem dX11_findsRanges_12 : decode cX11_findsRanges 12 = .ok (.idiv, 1) := by decide +kernel
theorem dX11_findsRanges_13 : decode cX11_findsRanges 13 = .ok (.iload_n 1, 1) := by decide +kernel
theorem dX11_findsRanges_14 : decode cX11_findsRanges 14 = .ok (.bipush 10, 2) := by decide +kernel
theorem dX11_findsRanges_16 : decode cX11_findsRanges 16 = .ok (.irem, 1) := by decide +kernel
theorem dX11_findsRanges_17 : decode cX11_findsRanges 17 = .ok (.iconst 0, 1) := by decide +kernel
theorem dX11_findsRanges_18 : decode cX11_findsRanges 18 = .ok (.invokevirtual 65, 3) := by decide +kernel
theorem dX11_findsRanges_21 : decode cX11_findsRanges 21 = .ok (.ifCond .le 7, 3) := by decide +kernel
theorem dX11_findsRanges_24 : decode cX11_findsRanges 24 = .ok (.iconst 1, 1) := by decide +kernel
theorem dX11_findsRanges_25 : decode cX11_findsRanges 25 = .ok (.goto 4, 3) := by decide +kernel
theorem dX11_findsRanges_28 : decode cX11_findsRanges 28 = .ok (.iconst 0, 1) := by decide +kernel
theorem dX11_findsRanges_29 : decode cX11_findsRanges 29 = .ok (.istore_n 2, 1) := by decide +kernel
theorem dX11_findsRanges_30 : decode cX11_findsRanges 30 = .ok (.aload_n 0, 1) := by decide +kernel
theorem dX11_findsRanges_31 : decode cX11_findsRanges 31 = .ok (.getfield 22, 3) := by decide +kernel
theorem dX11_findsRanges_34 : decode cX11_findsRanges 34 = .ok (.iload_n 1, 1) := by decide +kernel
theorem dX11_findsRanges_35 : decode cX11_findsRanges 35 = .ok (.iload_n 1, 1) := by decide +kernel
theorem dX11_findsRanges_36 : decode cX11_findsRanges 36 = .ok (.bipush 10, 2) := by decide +kernel
theorem dX11_findsRanges_38 : decode cX11_findsRanges 38 = .ok (.idiv, 1) := by decide +kernel
theorem dX11_findsRanges_39 : decode cX11_findsRanges 39 = .ok (.iload_n 1, 1) := by decide +kernel
theorem dX11_findsRanges_40 : decode cX11_findsRanges 40 = .ok (.bipush 10, 2) := by decide +kernel
theorem dX11_findsRanges_42 : decode cX11_findsRanges 42 = .ok (.irem, 1) := by decide +kernel
theorem dX11_findsRanges_43 : decode cX11_findsRanges 43 = .ok (.if_icmp .ne 7, 3) := by decide +kernel
theorem dX11_findsRanges_46 : decode cX11_findsRanges 46 = .ok (.iconst 0, 1) := by decide +kernel
theorem dX11_findsRanges_47 : decode cX11_findsRanges 47 = .ok (.goto 25, 3) := by decide +kernel
theorem dX11_findsRanges_50 : decode cX11_findsRanges 50 = .ok (.iload_n 2, 1) := by decide +kernel
theorem dX11_findsRanges_51 : decode cX11_findsRanges 51 = .ok (.ifCond .eq 19, 3) := by decide +kernel
theorem dX11_findsRanges_54 : decode cX11_findsRanges 54 = .ok (.aload_n 0, 1) := by decide +kernel
theorem dX11_findsRanges_55 : decode cX11_findsRanges 55 = .ok (.iload_n 1, 1) := by decide +kernel
theorem dX11_findsRanges_56 : decode cX11_findsRanges 56 = .ok (.bipush 10, 2) := by decide +kernel
theorem dX11_findsRanges_58 : decode cX11_findsRanges 58 = .ok (.idiv, 1) := by decide +kernel
theorem dX11_findsRanges_59 : decode cX11_findsRanges 59 = .ok (.iload_n 1, 1) := by decide +kernel
theorem dX11_findsRanges_60 : decode cX11_findsRanges 60 = .ok (.bipush 10, 2) := by decide +kernel
theorem dX11_findsRanges_62 : decode cX11_findsRanges 62 = .ok (.irem, 1) := by decide +kernel
theorem dX11_findsRanges_63 : decode cX11_findsRanges 63 = .ok (.iconst 1, 1) := by decide +kernel
theorem dX11_findsRanges_64 : decode cX11_findsRanges 64 = .ok (.invokevirtual 65, 3) := by decide +kernel
theorem dX11_findsRanges_67 : decode cX11_findsRanges 67 = .ok (.goto 5, 3) := by decide +kernel
theorem dX11_findsRanges_70 : decode cX11_findsRanges 70 = .ok (.ldc 118, 2) := by decide +kernel
theorem dX11_findsRanges_72 : decode cX11_findsRanges 72 = .ok (.iastore, 1) := by decide +kernel
theorem dX11_findsRanges_73 : decode cX11_findsRanges 73 = .ok (.iinc 1 1, 3) := by decide +kernel
theorem dX11_findsRanges_76 : decode cX11_findsRanges 76 = .ok (.goto (-74), 3) := by decide +kernel
theorem dX11_findsRanges_79 : decode cX11_findsRanges 79 = .ok (.iconst 0, 1) := by decide +kernel
theorem dX11_findsRanges_80 : decode cX11_findsRanges 80 = .ok (.istore_n 1, 1) := by decide +kernel
theorem dX11_findsRanges_81 : decode cX11_findsRanges 81 = .ok (.iload_n 1, 1) := by decide +kernel
theorem dX11_findsRanges_82 : decode cX11_findsRanges 82 = .ok (.bipush 10, 2) := by decide +kernel
theorem dX11_findsRanges_84 : decode cX11_findsRanges 84 = .ok (.if_icmp .ge 71, 3) := by decide +kernel
theorem dX11_findsRanges_87 : decode cX11_findsRanges 87 = .ok (.iconst 0, 1) := by decide +kernel
theorem dX11_findsRanges_88 : decode cX11_findsRanges 88 = .ok (.istore_n 2, 1) := by decide +kernel
theorem dX11_findsRanges_89 : decode cX11_findsRanges 89 = .ok (.iload_n 2, 1) := by decide +kernel
theorem dX11_findsRanges_90 : decode cX11_findsRanges 90 = .ok (.bipush 100, 2) := by decide +kernel
theorem dX11_findsRanges_92 : decode cX11_findsRanges 92 = .ok (.if_icmp .ge 57, 3) := by decide +kernel
theorem dX11_findsRanges_95 : decode cX11_findsRanges 95 = .ok (.aload_n 0, 1) := by decide +kernel
theorem dX11_findsRanges_96 : decode cX11_findsRanges 96 = .ok (.getfield 22, 3) := by decide +kernel
theorem dX11_findsRanges_99 : decode cX11_findsRanges 99 = .ok (.bipush 10, 2) := by decide +kernel
theorem dX11_findsRanges_101 : decode cX11_findsRanges 101 = .ok (.iload_n 2, 1) := by decide +kernel
theorem dX11_findsRanges_102 : decode cX11_findsRanges 102 = .ok (.bipush 10, 2) := by decide +kernel
theorem dX11_findsRanges_104 : decode cX11_findsRanges 104 = .ok (.idiv, 1) := by decide +kernel
theorem dX11_findsRanges_105 : decode cX11_findsRanges 105 = .ok (.imul, 1) := by decide +kernel
theorem dX11_findsRanges_106 : decode cX11_findsRanges 106 = .ok (.iload_n 1, 1) := by decide +kernel
theorem dX11_findsRanges_107 : decode cX11_findsRanges 107 = .ok (.iadd, 1) := by decide +kernel
theorem dX11_findsRanges_108 : decode cX11_findsRanges 108 = .ok (.iaload, 1) := by decide +kernel
theorem dX11_findsRanges_109 : decode cX11_findsRanges 109 = .ok (.aload_n 0, 1) := by decide +kernel
theorem dX11_findsRanges_110 : decode cX11_findsRanges 110 = .ok (.getfield 22, 3) := by decide +kernel
theorem dX11_findsRanges_113 : decode cX11_findsRanges 113 = .ok (.bipush 10, 2) := by decide +kernel
theorem dX11_findsRanges_115 : decode cX11_findsRanges 115 = .ok (.iload_n 1, 1) := by decide +kernel
theorem dX11_findsRanges_116 : decode cX11_findsRanges 116 = .ok (.imul, 1) := by decide +kernel
theorem dX11_findsRanges_117 : decode cX11_findsRanges 117 = .ok (.iload_n 2, 1) := by decide +kernel
theorem dX11_findsRanges_118 : decode cX11_findsRanges 118 = .ok (.bipush 10, 2) := by decide +kernel
theorem dX11_findsRanges_120 : decode cX11_findsRanges 120 = .ok (.irem, 1) := by decide +kernel
theorem dX11_findsRanges_121 : decode cX11_findsRanges 121 = .ok (.iadd, 1) := by decide +kernel
theorem dX11_findsRanges_122 : decode cX11_findsRanges 122 = .ok (.iaload, 1) := by decide +kernel
theorem dX11_findsRanges_123 : decode cX11_findsRanges 123 = .ok (.invokestatic 124, 3) := by decide +kernel
theorem dX11_findsRanges_126 : decode cX11_findsRanges 126 = .ok (.istore_n 3, 1) := by decide +kernel
theorem dX11_findsRanges_127 : decode cX11_findsRanges 127 = .ok (.aload_n 0, 1) := by decide +kernel
theorem dX11_findsRanges_128 : decode cX11_findsRanges 128 = .ok (.getfield 22, 3) := by decide +kernel
theorem dX11_findsRanges_131 : decode cX11_findsRanges 131 = .ok (.iload_n 2, 1) := by decide +kernel
theorem dX11_findsRanges_132 : decode cX11_findsRanges 132 = .ok (.aload_n 0, 1) := by decide +kernel
theorem dX11_findsRanges_133 : decode cX11_findsRanges 133 = .ok (.getfield 22, 3) := by decide +kernel
theorem dX11_findsRanges_136 : decode cX11_findsRanges 136 = .ok (.iload_n 2, 1) := by decide +kernel
theorem dX11_findsRanges_137 : decode cX11_findsRanges 137 = .ok (.iaload, 1) := by decide +kernel
theorem dX11_findsRanges_138 : decode cX11_findsRanges 138 = .ok (.iload_n 3, 1) := by decide +kernel
theorem dX11_findsRanges_139 : decode cX11_findsRanges 139 = .ok (.invokestatic 119, 3) := by decide +kernel
theorem dX11_findsRanges_142 : decode cX11_findsRanges 142 = .ok (.iastore, 1) := by decide +kernel
theorem dX11_findsRanges_143 : decode cX11_findsRanges 143 = .ok (.iinc 2 1, 3) := by decide +kernel
theorem dX11_findsRanges_146 : decode cX11_findsRanges 146 = .ok (.goto (-57), 3) := by decide +kernel
theorem dX11_findsRanges_149 : decode cX11_findsRanges 149 = .ok (.iinc 1 1, 3) := by decide +kernel
theorem dX11_findsRanges_152 : decode cX11_findsRanges 152 = .ok (.goto (-71), 3) := by decide +kernel
theorem dX11_findsRanges_155 : decode cX11_findsRanges 155 = .ok (.return_, 1) := by decide +kernel
set_option maxRecDepth 20000 in
theorem ggX11_asksWay_X11_arePorts : GoodIn wsX11_asksWay wsX11_arePorts := goodIn_ca (goodIn_r _ [8, 9, 10, 11, 7, 12, 33, 34, 35, 36, 37, 38, 39, 40, 41, 42, 43, 44, 45, 46, 47, 48, 49, 50, 51, 52] (by decide +kernel) (by decide +kernel)) (goodIn_sub (fun _ h => List.mem_cons_of_mem _ (List.mem_append_right _ h)) (by decide +kernel))
set_option maxRecDepth 20000 in
theorem gX11_asksWay_X11_arePorts : GoodIn wsX11_asksWay (wsV RX11 83 RX11 yX11_arePorts wsX11_arePorts) := goodIn_app (goodIn_of _ (by decide +kernel)) ggX11_asksWay_X11_arePorts
set_option maxRecDepth 20000 in
theorem ggX11_asksWay_X11_fails : GoodIn wsX11_asksWay wsX11_fails := goodIn_r _ [16, 3, 33, 34, 35, 36, 37, 38, 39, 40, 41, 42, 43, 44, 45, 46, 47, 48, 49, 50, 51, 52] (by decide +kernel) (by decide +kernel)
set_option maxRecDepth 20000 in
theorem gX11_asksWay_X11_fails : GoodIn wsX11_asksWay (wsV RX11 69 RX11 yX11_fails wsX11_fails) := goodIn_app (goodIn_of _ (by decide +kernel)) ggX11_asksWay_X11_fails
set_option maxRecDepth 20000 in
theorem ggX11_asksWay_X11_finds : GoodIn wsX11_asksWay wsX11_finds := goodIn_ca (goodIn_r _ [20, 1, 2, 21, 22, 23, 24, 25, 26, 27, 7, 28, 9, 29, 30, 31, 32, 33, 34, 35, 36, 37, 38, 39, 40, 41, 42, 43, 44, 45, 46, 47, 48, 49, 50, 51, 52] (by decide +kernel) (by decide +kernel)) (goodIn_sub (fun _ h => List.mem_cons_of_mem _ (List.mem_append_right _ h)) (by decide +kernel))
set_option maxRecDepth 20000 in
theorem gX11_asksWay_X11_finds : GoodIn wsX11_asksWay (wsV RX11 127 RX11 yX11_finds wsX11_finds) := goodIn_app (goodIn_of _ (by decide +kernel)) ggX11_asksWay_X11_finds
theorem dX11_asksWay_0 : decode cX11_asksWay 0 = .ok (.aload_n 0, 1) := by decide +kernel
theorem dX11_asksWay_1 : decode cX11_asksWay 1 = .ok (.iload_n 1, 1) := by decide +kernel
theorem dX11_asksWay_2 : decode cX11_asksWay 2 = .ok (.iload_n 2, 1) := by decide +kernel
theorem dX11_asksWay_3 : decode cX11_asksWay 3 = .ok (.invokevirtual 83, 3) := by decide +kernel
theorem dX11_asksWay_6 : decode cX11_asksWay 6 = .ok (.ifCond .ne 9, 3) := by decide +kernel
theorem dX11_asksWay_9 : decode cX11_asksWay 9 = .ok (.aload_n 0, 1) := by decide +kernel
theorem dX11_asksWay_10 : decode cX11_asksWay 10 = .ok (.iconst 1, 1) := by decide +kernel
theorem dX11_asksWay_11 : decode cX11_asksWay 11 = .ok (.invokevirtual 69, 3) := by decide +kernel
theorem dX11_asksWay_14 : decode cX11_asksWay 14 = .ok (.ireturn, 1) := by decide +kernel
theorem dX11_asksWay_15 : decode cX11_asksWay 15 = .ok (.aload_n 0, 1) := by decide +kernel
theorem dX11_asksWay_16 : decode cX11_asksWay 16 = .ok (.iload_n 3, 1) := by decide +kernel
theorem dX11_asksWay_17 : decode cX11_asksWay 17 = .ok (.invokevirtual 127, 3) := by decide +kernel
theorem dX11_asksWay_20 : decode cX11_asksWay 20 = .ok (.aload_n 0, 1) := by decide +kernel
theorem dX11_asksWay_21 : decode cX11_asksWay 21 = .ok (.getfield 22, 3) := by decide +kernel
theorem dX11_asksWay_24 : decode cX11_asksWay 24 = .ok (.bipush 10, 2) := by decide +kernel
theorem dX11_asksWay_26 : decode cX11_asksWay 26 = .ok (.iload_n 1, 1) := by decide +kernel
theorem dX11_asksWay_27 : decode cX11_asksWay 27 = .ok (.imul, 1) := by decide +kernel
theorem dX11_asksWay_28 : decode cX11_asksWay 28 = .ok (.iload_n 2, 1) := by decide +kernel
theorem dX11_asksWay_29 : decode cX11_asksWay 29 = .ok (.iadd, 1) := by decide +kernel
theorem dX11_asksWay_30 : decode cX11_asksWay 30 = .ok (.iaload, 1) := by decide +kernel
theorem dX11_asksWay_31 : decode cX11_asksWay 31 = .ok (.istore 4, 2) := by decide +kernel
theorem dX11_asksWay_33 : decode cX11_asksWay 33 = .ok (.aload_n 0, 1) := by decide +kernel
theorem dX11_asksWay_34 : decode cX11_asksWay 34 = .ok (.iload 4, 2) := by decide +kernel
theorem dX11_asksWay_36 : decode cX11_asksWay 36 = .ok (.ldc 118, 2) := by decide +kernel
theorem dX11_asksWay_38 : decode cX11_asksWay 38 = .ok (.if_icmp .lt 7, 3) := by decide +kernel
theorem dX11_asksWay_41 : decode cX11_asksWay 41 = .ok (.iconst 2, 1) := by decide +kernel
theorem dX11_asksWay_42 : decode cX11_asksWay 42 = .ok (.goto 4, 3) := by decide +kernel
theorem dX11_asksWay_45 : decode cX11_asksWay 45 = .ok (.iconst 0, 1) := by decide +kernel
theorem dX11_asksWay_46 : decode cX11_asksWay 46 = .ok (.putfield 49, 3) := by decide +kernel
theorem dX11_asksWay_49 : decode cX11_asksWay 49 = .ok (.aload_n 0, 1) := by decide +kernel
theorem dX11_asksWay_50 : decode cX11_asksWay 50 = .ok (.getfield 49, 3) := by decide +kernel
theorem dX11_asksWay_53 : decode cX11_asksWay 53 = .ok (.ifCond .le 7, 3) := by decide +kernel
theorem dX11_asksWay_56 : decode cX11_asksWay 56 = .ok (.iconst 0, 1) := by decide +kernel
theorem dX11_asksWay_57 : decode cX11_asksWay 57 = .ok (.goto 5, 3) := by decide +kernel
theorem dX11_asksWay_60 : decode cX11_asksWay 60 = .ok (.iload 4, 2) := by decide +kernel
theorem dX11_asksWay_62 : decode cX11_asksWay 62 = .ok (.ireturn, 1) := by decide +kernel
set_option maxRecDepth 20000 in
theorem ggX11_distance_X11_asksWay : GoodIn wsX11_distance wsX11_asksWay := goodIn_ca (goodIn_r _ [5, 6, 7, 8, 9, 10, 11, 4, 12, 13, 14, 15, 16, 17, 18, 19, 20, 21, 22, 23, 24, 25, 26, 27, 28, 29, 30, 31, 32, 33, 34, 35, 36, 37, 38, 39, 40, 41, 42, 43, 44, 45, 46, 47, 48, 49, 50, 51, 52, 53, 54, 55, 56] (by decide +kernel) (by decide +kernel)) (goodIn_sub (fun _ h => List.mem_cons_of_mem _ (List.mem_append_right _ h)) (by decide +kernel))
set_option maxRecDepth 20000 in
theorem gX11_distance_X11_asksWay : GoodIn wsX11_distance (wsV RX11 131 RX11 yX11_asksWay wsX11_asksWay) := goodIn_app (goodIn_of _ (by decide +kernel)) ggX11_distance_X11_asksWay
theorem dX11_distance_0 : decode cX11_distance 0 = .ok (.aload_n 0, 1) := by decide +kernel
theorem dX11_distance_1 : decode cX11_distance 1 = .ok (.iload_n 1, 1) := by decide +kernel
theorem dX11_distance_2 : decode cX11_distance 2 = .ok (.iload_n 2, 1) := by decide +kernel
theorem dX11_distance_3 : decode cX11_distance 3 = .ok (.iconst 0, 1) := by decide +kernel
theorem dX11_distance_4 : decode cX11_distance 4 = .ok (.invokevirtual 131, 3) := by decide +kernel
theorem dX11_distance_7 : decode cX11_distance 7 = .ok (.ireturn, 1) := by decide +kernel
set_option maxRecDepth 20000 in
theorem ggX11_distanceByRounds_X11_asksWay : GoodIn wsX11_distanceByRounds wsX11_asksWay := goodIn_ca (goodIn_r _ [5, 6, 7, 8, 9, 10, 11, 4, 12, 13, 14, 15, 16, 17, 18, 19, 20, 21, 22, 23, 24, 25, 26, 27, 28, 29, 30, 31, 32, 33, 34, 35, 36, 37, 38, 39, 40, 41, 42, 43, 44, 45, 46, 47, 48, 49, 50, 51, 52, 53, 54, 55, 56] (by decide +kernel) (by decide +kernel)) (goodIn_sub (fun _ h => List.mem_cons_of_mem _ (List.mem_append_right _ h)) (by decide +kernel))
set_option maxRecDepth 20000 in
theorem gX11_distanceByRounds_X11_asksWay : GoodIn wsX11_distanceByRounds (wsV RX11 131 RX11 yX11_asksWay wsX11_asksWay) := goodIn_app (goodIn_of _ (by decide +kernel)) ggX11_distanceByRounds_X11_asksWay
theorem dX11_distanceByRounds_0 : decode cX11_distanceByRounds 0 = .ok (.aload_n 0, 1) := by decide +kernel
theorem dX11_distanceByRounds_1 : decode cX11_distanceByRounds 1 = .ok (.iload_n 1, 1) := by decide +kernel
theorem dX11_distanceByRounds_2 : decode cX11_distanceByRounds 2 = .ok (.iload_n 2, 1) := by decide +kernel
theorem dX11_distanceByRounds_3 : decode cX11_distanceByRounds 3 = .ok (.iconst 0, 1) := by decide +kernel
theorem dX11_distanceByRounds_4 : decode cX11_distanceByRounds 4 = .ok (.invokevirtual 131, 3) := by decide +kernel
theorem dX11_distanceByRounds_7 : decode cX11_distanceByRounds 7 = .ok (.ireturn, 1) := by decide +kernel
set_option maxRecDepth 20000 in
theorem ggX11_litDistance_X11_asksWay : GoodIn wsX11_litDistance wsX11_asksWay := goodIn_ca (goodIn_r _ [5, 6, 7, 8, 9, 10, 11, 4, 12, 13, 14, 15, 16, 17, 18, 19, 20, 21, 22, 23, 24, 25, 26, 27, 28, 29, 30, 31, 32, 33, 34, 35, 36, 37, 38, 39, 40, 41, 42, 43, 44, 45, 46, 47, 48, 49, 50, 51, 52, 53, 54, 55, 56] (by decide +kernel) (by decide +kernel)) (goodIn_sub (fun _ h => List.mem_cons_of_mem _ (List.mem_append_right _ h)) (by decide +kernel))
set_option maxRecDepth 20000 in
theorem gX11_litDistance_X11_asksWay : GoodIn wsX11_litDistance (wsV RX11 131 RX11 yX11_asksWay wsX11_asksWay) := goodIn_app (goodIn_of _ (by decide +kernel)) ggX11_litDistance_X11_asksWay
theorem dX11_litDistance_0 : decode cX11_litDistance 0 = .ok (.aload_n 0, 1) := by decide +kernel
theorem dX11_litDistance_1 : decode cX11_litDistance 1 = .ok (.iload_n 1, 1) := by decide +kernel
theorem dX11_litDistance_2 : decode cX11_litDistance 2 = .ok (.iload_n 2, 1) := by decide +kernel
theorem dX11_litDistance_3 : decode cX11_litDistance 3 = .ok (.iconst 1, 1) := by decide +kernel
theorem dX11_litDistance_4 : decode cX11_litDistance 4 = .ok (.invokevirtual 131, 3) := by decide +kernel
theorem dX11_litDistance_7 : decode cX11_litDistance 7 = .ok (.ireturn, 1) := by decide +kernel
set_option maxRecDepth 20000 in
theorem ggX11_neededRange_X11_arePorts : GoodIn wsX11_neededRange wsX11_arePorts := goodIn_ca (goodIn_r _ [8, 9, 10, 11, 7, 12, 32, 33, 34, 35, 36, 37, 38, 39, 40, 41, 42, 43, 44, 45, 46, 47, 48, 49, 50, 51] (by decide +kernel) (by decide +kernel)) (goodIn_sub (fun _ h => List.mem_cons_of_mem _ (List.mem_append_right _ h)) (by decide +kernel))
set_option maxRecDepth 20000 in
theorem gX11_neededRange_X11_arePorts : GoodIn wsX11_neededRange (wsV RX11 83 RX11 yX11_arePorts wsX11_arePorts) := goodIn_app (goodIn_of _ (by decide +kernel)) ggX11_neededRange_X11_arePorts
set_option maxRecDepth 20000 in
theorem ggX11_neededRange_X11_fails : GoodIn wsX11_neededRange wsX11_fails := goodIn_r _ [16, 3, 32, 33, 34, 35, 36, 37, 38, 39, 40, 41, 42, 43, 44, 45, 46, 47, 48, 49, 50, 51] (by decide +kernel) (by decide +kernel)
set_option maxRecDepth 20000 in
theorem gX11_neededRange_X11_fails : GoodIn wsX11_neededRange (wsV RX11 69 RX11 yX11_fails wsX11_fails) := goodIn_app (goodIn_of _ (by decide +kernel)) ggX11_neededRange_X11_fails
set_option maxRecDepth 20000 in
theorem ggX11_neededRange_X11_findsRanges : GoodIn wsX11_neededRange wsX11_findsRanges := goodIn_ca (goodIn_r _ [20, 1, 2, 21, 22, 23, 24, 25, 26, 27, 28, 29, 30, 7, 31, 9, 32, 33, 34, 35, 36, 37, 38, 39, 40, 41, 42, 43, 44, 45, 46, 47, 48, 49, 50, 51] (by decide +kernel) (by decide +kernel)) (goodIn_sub (fun _ h => List.mem_cons_of_mem _ (List.mem_append_right _ h)) (by decide +kernel))
set_option maxRecDepth 20000 in
theorem gX11_neededRange_X11_findsRanges : GoodIn wsX11_neededRange (wsV RX11 135 RX11 yX11_findsRanges wsX11_findsRanges) := goodIn_app (goodIn_of _ (by decide +kernel)) ggX11_neededRange_X11_findsRanges
theorem dX11_neededRange_0 : decode cX11_neededRange 0 = .ok (.aload_n 0, 1) := by decide +kernel
theorem dX11_neededRange_1 : decode cX11_neededRange 1 = .ok (.iload_n 1, 1) := by decide +kernel
theorem dX11_neededRange_2 : decode cX11_neededRange 2 = .ok (.iload_n 2, 1) := by decide +kernel
theorem dX11_neededRange_3 : decode cX11_neededRange 3 = .ok (.invokevirtual 83, 3) := by decide +kernel
theorem dX11_neededRange_6 : decode cX11_neededRange 6 = .ok (.ifCond .ne 9, 3) := by decide +kernel
theorem dX11_neededRange_9 : decode cX11_neededRange 9 = .ok (.aload_n 0, 1) := by decide +kernel
theorem dX11_neededRange_10 : decode cX11_neededRange 10 = .ok (.iconst 1, 1) := by decide +kernel
theorem dX11_neededRange_11 : decode cX11_neededRange 11 = .ok (.invokevirtual 69, 3) := by decide +kernel
theorem dX11_neededRange_14 : decode cX11_neededRange 14 = .ok (.ireturn, 1) := by decide +kernel
theorem dX11_neededRange_15 : decode cX11_neededRange 15 = .ok (.iload_n 1, 1) := by decide +kernel
theorem dX11_neededRange_16 : decode cX11_neededRange 16 = .ok (.iload_n 2, 1) := by decide +kernel
theorem dX11_neededRange_17 : decode cX11_neededRange 17 = .ok (.if_icmp .ne 9, 3) := by decide +kernel
theorem dX11_neededRange_20 : decode cX11_neededRange 20 = .ok (.aload_n 0, 1) := by decide +kernel
theorem dX11_neededRange_21 : decode cX11_neededRange 21 = .ok (.iconst 2, 1) := by decide +kernel
theorem dX11_neededRange_22 : decode cX11_neededRange 22 = .ok (.invokevirtual 69, 3) := by decide +kernel
theorem dX11_neededRange_25 : decode cX11_neededRange 25 = .ok (.ireturn, 1) := by decide +kernel
theorem dX11_neededRange_26 : decode cX11_neededRange 26 = .ok (.aload_n 0, 1) := by decide +kernel
theorem dX11_neededRange_27 : decode cX11_neededRange 27 = .ok (.invokevirtual 135, 3) := by decide +kernel
theorem dX11_neededRange_30 : decode cX11_neededRange 30 = .ok (.aload_n 0, 1) := by decide +kernel
theorem dX11_neededRange_31 : decode cX11_neededRange 31 = .ok (.getfield 22, 3) := by decide +kernel
theorem dX11_neededRange_34 : decode cX11_neededRange 34 = .ok (.bipush 10, 2) := by decide +kernel
theorem dX11_neededRange_36 : decode cX11_neededRange 36 = .ok (.iload_n 1, 1) := by decide +kernel
theorem dX11_neededRange_37 : decode cX11_neededRange 37 = .ok (.imul, 1) := by decide +kernel
theorem dX11_neededRange_38 : decode cX11_neededRange 38 = .ok (.iload_n 2, 1) := by decide +kernel
theorem dX11_neededRange_39 : decode cX11_neededRange 39 = .ok (.iadd, 1) := by decide +kernel
theorem dX11_neededRange_40 : decode cX11_neededRange 40 = .ok (.iaload, 1) := by decide +kernel
theorem dX11_neededRange_41 : decode cX11_neededRange 41 = .ok (.istore_n 3, 1) := by decide +kernel
theorem dX11_neededRange_42 : decode cX11_neededRange 42 = .ok (.aload_n 0, 1) := by decide +kernel
theorem dX11_neededRange_43 : decode cX11_neededRange 43 = .ok (.iload_n 3, 1) := by decide +kernel
theorem dX11_neededRange_44 : decode cX11_neededRange 44 = .ok (.ldc 118, 2) := by decide +kernel
theorem dX11_neededRange_46 : decode cX11_neededRange 46 = .ok (.if_icmp .ne 7, 3) := by decide +kernel
theorem dX11_neededRange_49 : decode cX11_neededRange 49 = .ok (.iconst 3, 1) := by decide +kernel
theorem dX11_neededRange_50 : decode cX11_neededRange 50 = .ok (.goto 4, 3) := by decide +kernel
theorem dX11_neededRange_53 : decode cX11_neededRange 53 = .ok (.iconst 0, 1) := by decide +kernel
theorem dX11_neededRange_54 : decode cX11_neededRange 54 = .ok (.putfield 49, 3) := by decide +kernel
theorem dX11_neededRange_57 : decode cX11_neededRange 57 = .ok (.aload_n 0, 1) := by decide +kernel
theorem dX11_neededRange_58 : decode cX11_neededRange 58 = .ok (.getfield 49, 3) := by decide +kernel
theorem dX11_neededRange_61 : decode cX11_neededRange 61 = .ok (.ifCond .le 7, 3) := by decide +kernel
theorem dX11_neededRange_64 : decode cX11_neededRange 64 = .ok (.iconst 0, 1) := by decide +kernel
theorem dX11_neededRange_65 : decode cX11_neededRange 65 = .ok (.goto 4, 3) := by decide +kernel
theorem dX11_neededRange_68 : decode cX11_neededRange 68 = .ok (.iload_n 3, 1) := by decide +kernel
theorem dX11_neededRange_69 : decode cX11_neededRange 69 = .ok (.ireturn, 1) := by decide +kernel
set_option maxRecDepth 20000 in
theorem ggX11_neededRangeByTrial_X11_neededRange : GoodIn wsX11_neededRangeByTrial wsX11_neededRange := goodIn_ca (goodIn_r _ [5, 6, 7, 8, 9, 10, 11, 4, 12, 13, 14, 15, 16, 17, 18, 19, 20, 21, 22, 23, 24, 25, 26, 27, 28, 29, 30, 31, 32, 33, 34, 35, 36, 37, 38, 39, 40, 41, 42, 43, 44, 45, 46, 47, 48, 49, 50, 51, 52, 53, 54, 55] (by decide +kernel) (by decide +kernel)) (goodIn_sub (fun _ h => List.mem_cons_of_mem _ (List.mem_append_right _ h)) (by decide +kernel))
set_option maxRecDepth 20000 in
theorem gX11_neededRangeByTrial_X11_neededRange : GoodIn wsX11_neededRangeByTrial (wsV RX11 138 RX11 yX11_neededRange wsX11_neededRange) := goodIn_app (goodIn_of _ (by decide +kernel)) ggX11_neededRangeByTrial_X11_neededRange
theorem dX11_neededRangeByTrial_0 : decode cX11_neededRangeByTrial 0 = .ok (.aload_n 0, 1) := by decide +kernel
theorem dX11_neededRangeByTrial_1 : decode cX11_neededRangeByTrial 1 = .ok (.iload_n 1, 1) := by decide +kernel
theorem dX11_neededRangeByTrial_2 : decode cX11_neededRangeByTrial 2 = .ok (.iload_n 2, 1) := by decide +kernel
theorem dX11_neededRangeByTrial_3 : decode cX11_neededRangeByTrial 3 = .ok (.invokevirtual 138, 3) := by decide +kernel
theorem dX11_neededRangeByTrial_6 : decode cX11_neededRangeByTrial 6 = .ok (.ireturn, 1) := by decide +kernel
set_option maxRecDepth 20000 in
theorem ggX11_litGroups_X11_finds : GoodIn wsX11_litGroups wsX11_finds := goodIn_ca (goodIn_r _ [9, 3, 4, 10, 11, 12, 13, 14, 15, 16, 8, 17, 2, 18, 19, 20, 21, 22, 23, 24, 25, 26, 27, 28, 29, 30, 31, 32, 33, 34, 35, 36, 37, 38, 39, 40, 41] (by decide +kernel) (by decide +kernel)) (goodIn_sub (fun _ h => List.mem_cons_of_mem _ (List.mem_append_right _ h)) (by decide +kernel))
set_option maxRecDepth 20000 in
theorem gX11_litGroups_X11_finds : GoodIn wsX11_litGroups (wsV RX11 127 RX11 yX11_finds wsX11_finds) := goodIn_app (goodIn_of _ (by decide +kernel)) ggX11_litGroups_X11_finds
theorem dX11_litGroups_0 : decode cX11_litGroups 0 = .ok (.aload_n 0, 1) := by decide +kernel
theorem dX11_litGroups_1 : decode cX11_litGroups 1 = .ok (.iconst 0, 1) := by decide +kernel
theorem dX11_litGroups_2 : decode cX11_litGroups 2 = .ok (.putfield 49, 3) := by decide +kernel
theorem dX11_litGroups_5 : decode cX11_litGroups 5 = .ok (.aload_n 0, 1) := by decide +kernel
theorem dX11_litGroups_6 : decode cX11_litGroups 6 = .ok (.iconst 1, 1) := by decide +kernel
theorem dX11_litGroups_7 : decode cX11_litGroups 7 = .ok (.invokevirtual 127, 3) := by decide +kernel
theorem dX11_litGroups_10 : decode cX11_litGroups 10 = .ok (.iconst 0, 1) := by decide +kernel
theorem dX11_litGroups_11 : decode cX11_litGroups 11 = .ok (.istore_n 1, 1) := by decide +kernel
theorem dX11_litGroups_12 : decode cX11_litGroups 12 = .ok (.iconst 0, 1) := by decide +kernel
theorem dX11_litGroups_13 : decode cX11_litGroups 13 = .ok (.istore_n 2, 1) := by decide +kernel
theorem dX11_litGroups_14 : decode cX11_litGroups 14 = .ok (.iload_n 2, 1) := by decide +kernel
theorem dX11_litGroups_15 : decode cX11_litGroups 15 = .ok (.aload_n 0, 1) := by decide +kernel
theorem dX11_litGroups_16 : decode cX11_litGroups 16 = .ok (.getfield 9, 3) := by decide +kernel
theorem dX11_litGroups_19 : decode cX11_litGroups 19 = .ok (.iconst 0, 1) := by decide +kernel
theorem dX11_litGroups_20 : decode cX11_litGroups 20 = .ok (.iaload, 1) := by decide +kernel
theorem dX11_litGroups_21 : decode cX11_litGroups 21 = .ok (.if_icmp .ge 65, 3) := by decide +kernel
theorem dX11_litGroups_24 : decode cX11_litGroups 24 = .ok (.iconst 1, 1) := by decide +kernel
theorem dX11_litGroups_25 : decode cX11_litGroups 25 = .ok (.istore_n 3, 1) := by decide +kernel
theorem dX11_litGroups_26 : decode cX11_litGroups 26 = .ok (.iconst 0, 1) := by decide +kernel
theorem dX11_litGroups_27 : decode cX11_litGroups 27 = .ok (.istore 4, 2) := by decide +kernel
theorem dX11_litGroups_29 : decode cX11_litGroups 29 = .ok (.iload 4, 2) := by decide +kernel
theorem dX11_litGroups_31 : decode cX11_litGroups 31 = .ok (.iload_n 2, 1) := by decide +kernel
theorem dX11_litGroups_32 : decode cX11_litGroups 32 = .ok (.if_icmp .ge 36, 3) := by decide +kernel
theorem dX11_litGroups_35 : decode cX11_litGroups 35 = .ok (.iload_n 3, 1) := by decide +kernel
theorem dX11_litGroups_36 : decode cX11_litGroups 36 = .ok (.ifCond .eq 24, 3) := by decide +kernel
theorem dX11_litGroups_39 : decode cX11_litGroups 39 = .ok (.aload_n 0, 1) := by decide +kernel
theorem dX11_litGroups_40 : decode cX11_litGroups 40 = .ok (.getfield 22, 3) := by decide +kernel
theorem dX11_litGroups_43 : decode cX11_litGroups 43 = .ok (.bipush 10, 2) := by decide +kernel
theorem dX11_litGroups_45 : decode cX11_litGroups 45 = .ok (.iload_n 2, 1) := by decide +kernel
theorem dX11_litGroups_46 : decode cX11_litGroups 46 = .ok (.imul, 1) := by decide +kernel
theorem dX11_litGroups_47 : decode cX11_litGroups 47 = .ok (.iload 4, 2) := by decide +kernel
theorem dX11_litGroups_49 : decode cX11_litGroups 49 = .ok (.iadd, 1) := by decide +kernel
theorem dX11_litGroups_50 : decode cX11_litGroups 50 = .ok (.iaload, 1) := by decide +kernel
theorem dX11_litGroups_51 : decode cX11_litGroups 51 = .ok (.ldc 118, 2) := by decide +kernel
theorem dX11_litGroups_53 : decode cX11_litGroups 53 = .ok (.if_icmp .lt 7, 3) := by decide +kernel
theorem dX11_litGroups_56 : decode cX11_litGroups 56 = .ok (.iconst 1, 1) := by decide +kernel
theorem dX11_litGroups_57 : decode cX11_litGroups 57 = .ok (.goto 4, 3) := by decide +kernel
theorem dX11_litGroups_60 : decode cX11_litGroups 60 = .ok (.iconst 0, 1) := by decide +kernel
theorem dX11_litGroups_61 : decode cX11_litGroups 61 = .ok (.istore_n 3, 1) := by decide +kernel
theorem dX11_litGroups_62 : decode cX11_litGroups 62 = .ok (.iinc 4 1, 3) := by decide +kernel
theorem dX11_litGroups_65 : decode cX11_litGroups 65 = .ok (.goto (-36), 3) := by decide +kernel
theorem dX11_litGroups_68 : decode cX11_litGroups 68 = .ok (.iload_n 1, 1) := by decide +kernel
theorem dX11_litGroups_69 : decode cX11_litGroups 69 = .ok (.iload_n 3, 1) := by decide +kernel
theorem dX11_litGroups_70 : decode cX11_litGroups 70 = .ok (.ifCond .eq 7, 3) := by decide +kernel
theorem dX11_litGroups_73 : decode cX11_litGroups 73 = .ok (.iconst 1, 1) := by decide +kernel
theorem dX11_litGroups_74 : decode cX11_litGroups 74 = .ok (.goto 4, 3) := by decide +kernel
theorem dX11_litGroups_77 : decode cX11_litGroups 77 = .ok (.iconst 0, 1) := by decide +kernel
theorem dX11_litGroups_78 : decode cX11_litGroups 78 = .ok (.iadd, 1) := by decide +kernel
theorem dX11_litGroups_79 : decode cX11_litGroups 79 = .ok (.istore_n 1, 1) := by decide +kernel
theorem dX11_litGroups_80 : decode cX11_litGroups 80 = .ok (.iinc 2 1, 3) := by decide +kernel
theorem dX11_litGroups_83 : decode cX11_litGroups 83 = .ok (.goto (-69), 3) := by decide +kernel
theorem dX11_litGroups_86 : decode cX11_litGroups 86 = .ok (.iload_n 1, 1) := by decide +kernel
theorem dX11_litGroups_87 : decode cX11_litGroups 87 = .ok (.ireturn, 1) := by decide +kernel
theorem dX11_cost_0 : decode cX11_cost 0 = .ok (.bipush 60, 2) := by decide +kernel
theorem dX11_cost_2 : decode cX11_cost 2 = .ok (.iload_n 0, 1) := by decide +kernel
theorem dX11_cost_3 : decode cX11_cost 3 = .ok (.imul, 1) := by decide +kernel
theorem dX11_cost_4 : decode cX11_cost 4 = .ok (.iload_n 0, 1) := by decide +kernel
theorem dX11_cost_5 : decode cX11_cost 5 = .ok (.imul, 1) := by decide +kernel
theorem dX11_cost_6 : decode cX11_cost 6 = .ok (.ireturn, 1) := by decide +kernel
set_option maxRecDepth 20000 in
theorem ggX11_findsNeeds_X11_findsRanges : GoodIn wsX11_findsNeeds wsX11_findsRanges := goodIn_ca (goodIn_r _ [10, 3, 5, 11, 12, 13, 14, 15, 16, 17, 18, 19, 20, 9, 21, 1, 26, 27, 28, 29, 30, 31, 32, 33, 34, 35, 36, 37, 38, 39, 40, 41, 42, 43, 44, 45] (by decide +kernel) (by decide +kernel)) (goodIn_sub (fun _ h => List.mem_cons_of_mem _ (List.mem_append_right _ h)) (by decide +kernel))
set_option maxRecDepth 20000 in
theorem gX11_findsNeeds_X11_findsRanges : GoodIn wsX11_findsNeeds (wsV RX11 135 RX11 yX11_findsRanges wsX11_findsRanges) := goodIn_app (goodIn_of _ (by decide +kernel)) ggX11_findsNeeds_X11_findsRanges
set_option maxRecDepth 20000 in
theorem ggX11_findsNeeds_X11_of : GoodIn wsX11_findsNeeds wsX11_of := goodIn_ca (goodIn_r _ [25, 1, 26, 27, 28, 29, 30, 31, 32, 33, 34, 35, 36, 37, 38, 39, 40, 41, 42, 43, 44, 45] (by decide +kernel) (by decide +kernel)) (goodIn_sub (fun _ h => List.mem_cons_of_mem _ (List.mem_append_right _ h)) (by decide +kernel))
set_option maxRecDepth 20000 in
theorem gX11_findsNeeds_X11_of : GoodIn wsX11_findsNeeds (wsV RX11 141 RX11 yX11_of wsX11_of) := goodIn_app (goodIn_of _ (by decide +kernel)) ggX11_findsNeeds_X11_of
theorem dX11_findsNeeds_0 : decode cX11_findsNeeds 0 = .ok (.aload_n 0, 1) := by decide +kernel
theorem dX11_findsNeeds_1 : decode cX11_findsNeeds 1 = .ok (.invokevirtual 135, 3) := by decide +kernel
theorem dX11_findsNeeds_4 : decode cX11_findsNeeds 4 = .ok (.iconst 0, 1) := by decide +kernel
theorem dX11_findsNeeds_5 : decode cX11_findsNeeds 5 = .ok (.istore_n 1, 1) := by decide +kernel
theorem dX11_findsNeeds_6 : decode cX11_findsNeeds 6 = .ok (.iload_n 1, 1) := by decide +kernel
theorem dX11_findsNeeds_7 : decode cX11_findsNeeds 7 = .ok (.aload_n 0, 1) := by decide +kernel
theorem dX11_findsNeeds_8 : decode cX11_findsNeeds 8 = .ok (.getfield 9, 3) := by decide +kernel
theorem dX11_findsNeeds_11 : decode cX11_findsNeeds 11 = .ok (.iconst 1, 1) := by decide +kernel
theorem dX11_findsNeeds_12 : decode cX11_findsNeeds 12 = .ok (.iaload, 1) := by decide +kernel
theorem dX11_findsNeeds_13 : decode cX11_findsNeeds 13 = .ok (.if_icmp .ge 58, 3) := by decide +kernel
theorem dX11_findsNeeds_16 : decode cX11_findsNeeds 16 = .ok (.aload_n 0, 1) := by decide +kernel
theorem dX11_findsNeeds_17 : decode cX11_findsNeeds 17 = .ok (.getfield 25, 3) := by decide +kernel
theorem dX11_findsNeeds_20 : decode cX11_findsNeeds 20 = .ok (.iload_n 1, 1) := by decide +kernel
theorem dX11_findsNeeds_21 : decode cX11_findsNeeds 21 = .ok (.aload_n 0, 1) := by decide +kernel
theorem dX11_findsNeeds_22 : decode cX11_findsNeeds 22 = .ok (.getfield 22, 3) := by decide +kernel
theorem dX11_findsNeeds_25 : decode cX11_findsNeeds 25 = .ok (.bipush 10, 2) := by decide +kernel
theorem dX11_findsNeeds_27 : decode cX11_findsNeeds 27 = .ok (.aload_n 0, 1) := by decide +kernel
theorem dX11_findsNeeds_28 : decode cX11_findsNeeds 28 = .ok (.iload_n 1, 1) := by decide +kernel
theorem dX11_findsNeeds_29 : decode cX11_findsNeeds 29 = .ok (.iconst 0, 1) := by decide +kernel
theorem dX11_findsNeeds_30 : decode cX11_findsNeeds 30 = .ok (.invokevirtual 141, 3) := by decide +kernel
theorem dX11_findsNeeds_33 : decode cX11_findsNeeds 33 = .ok (.imul, 1) := by decide +kernel
theorem dX11_findsNeeds_34 : decode cX11_findsNeeds 34 = .ok (.aload_n 0, 1) := by decide +kernel
theorem dX11_findsNeeds_35 : decode cX11_findsNeeds 35 = .ok (.iload_n 1, 1) := by decide +kernel
theorem dX11_findsNeeds_36 : decode cX11_findsNeeds 36 = .ok (.iconst 1, 1) := by decide +kernel
theorem dX11_findsNeeds_37 : decode cX11_findsNeeds 37 = .ok (.invokevirtual 141, 3) := by decide +kernel
theorem dX11_findsNeeds_40 : decode cX11_findsNeeds 40 = .ok (.iadd, 1) := by decide +kernel
theorem dX11_findsNeeds_41 : decode cX11_findsNeeds 41 = .ok (.iaload, 1) := by decide +kernel
theorem dX11_findsNeeds_42 : decode cX11_findsNeeds 42 = .ok (.iastore, 1) := by decide +kernel
theorem dX11_findsNeeds_43 : decode cX11_findsNeeds 43 = .ok (.aload_n 0, 1) := by decide +kernel
theorem dX11_findsNeeds_44 : decode cX11_findsNeeds 44 = .ok (.getfield 28, 3) := by decide +kernel
theorem dX11_findsNeeds_47 : decode cX11_findsNeeds 47 = .ok (.iload_n 1, 1) := by decide +kernel
theorem dX11_findsNeeds_48 : decode cX11_findsNeeds 48 = .ok (.aload_n 0, 1) := by decide +kernel
theorem dX11_findsNeeds_49 : decode cX11_findsNeeds 49 = .ok (.getfield 25, 3) := by decide +kernel
theorem dX11_findsNeeds_52 : decode cX11_findsNeeds 52 = .ok (.iload_n 1, 1) := by decide +kernel
theorem dX11_findsNeeds_53 : decode cX11_findsNeeds 53 = .ok (.iaload, 1) := by decide +kernel
theorem dX11_findsNeeds_54 : decode cX11_findsNeeds 54 = .ok (.ldc 118, 2) := by decide +kernel
theorem dX11_findsNeeds_56 : decode cX11_findsNeeds 56 = .ok (.if_icmp .ge 7, 3) := by decide +kernel
theorem dX11_findsNeeds_59 : decode cX11_findsNeeds 59 = .ok (.iconst 1, 1) := by decide +kernel
theorem dX11_findsNeeds_60 : decode cX11_findsNeeds 60 = .ok (.goto 4, 3) := by decide +kernel
theorem dX11_findsNeeds_63 : decode cX11_findsNeeds 63 = .ok (.iconst 0, 1) := by decide +kernel
theorem dX11_findsNeeds_64 : decode cX11_findsNeeds 64 = .ok (.bastore, 1) := by decide +kernel
theorem dX11_findsNeeds_65 : decode cX11_findsNeeds 65 = .ok (.iinc 1 1, 3) := by decide +kernel
theorem dX11_findsNeeds_68 : decode cX11_findsNeeds 68 = .ok (.goto (-62), 3) := by decide +kernel
theorem dX11_findsNeeds_71 : decode cX11_findsNeeds 71 = .ok (.return_, 1) := by decide +kernel
set_option maxRecDepth 20000 in
theorem ggX11_share_X11_cost : GoodIn wsX11_share wsX11_cost := goodIn_r _ [7] (by decide +kernel) (by decide +kernel)
set_option maxRecDepth 20000 in
theorem gX11_share_X11_cost : GoodIn wsX11_share (va_wsS RX11 144 yX11_cost wsX11_cost) := goodIn_app (goodIn_of _ (by decide +kernel)) ggX11_share_X11_cost
theorem dX11_share_0 : decode cX11_share 0 = .ok (.iconst 0, 1) := by decide +kernel
theorem dX11_share_1 : decode cX11_share 1 = .ok (.istore_n 2, 1) := by decide +kernel
theorem dX11_share_2 : decode cX11_share 2 = .ok (.iconst 1, 1) := by decide +kernel
theorem dX11_share_3 : decode cX11_share 3 = .ok (.istore_n 3, 1) := by decide +kernel
theorem dX11_share_4 : decode cX11_share 4 = .ok (.iload_n 3, 1) := by decide +kernel
theorem dX11_share_5 : decode cX11_share 5 = .ok (.aload_n 0, 1) := by decide +kernel
theorem dX11_share_6 : decode cX11_share 6 = .ok (.getfield 25, 3) := by decide +kernel
theorem dX11_share_9 : decode cX11_share 9 = .ok (.iload_n 1, 1) := by decide +kernel
theorem dX11_share_10 : decode cX11_share 10 = .ok (.iaload, 1) := by decide +kernel
theorem dX11_share_11 : decode cX11_share 11 = .ok (.if_icmp .gt 80, 3) := by decide +kernel
theorem dX11_share_14 : decode cX11_share 14 = .ok (.iconst 0, 1) := by decide +kernel
theorem dX11_share_15 : decode cX11_share 15 = .ok (.istore 4, 2) := by decide +kernel
theorem dX11_share_17 : decode cX11_share 17 = .ok (.iconst 0, 1) := by decide +kernel
theorem dX11_share_18 : decode cX11_share 18 = .ok (.istore 5, 2) := by decide +kernel
theorem dX11_share_20 : decode cX11_share 20 = .ok (.iload 5, 2) := by decide +kernel
theorem dX11_share_22 : decode cX11_share 22 = .ok (.aload_n 0, 1) := by decide +kernel
theorem dX11_share_23 : decode cX11_share 23 = .ok (.getfield 9, 3) := by decide +kernel
theorem dX11_share_26 : decode cX11_share 26 = .ok (.iconst 1, 1) := by decide +kernel
theorem dX11_share_27 : decode cX11_share 27 = .ok (.iaload, 1) := by decide +kernel
theorem dX11_share_28 : decode cX11_share 28 = .ok (.if_icmp .ge 40, 3) := by decide +kernel
theorem dX11_share_31 : decode cX11_share 31 = .ok (.iload 4, 2) := by decide +kernel
theorem dX11_share_33 : decode cX11_share 33 = .ok (.aload_n 0, 1) := by decide +kernel
theorem dX11_share_34 : decode cX11_share 34 = .ok (.getfield 28, 3) := by decide +kernel
theorem dX11_share_37 : decode cX11_share 37 = .ok (.iload 5, 2) := by decide +kernel
theorem dX11_share_39 : decode cX11_share 39 = .ok (.baload, 1) := by decide +kernel
theorem dX11_share_40 : decode cX11_share 40 = .ok (.ifCond .eq 18, 3) := by decide +kernel
theorem dX11_share_43 : decode cX11_share 43 = .ok (.aload_n 0, 1) := by decide +kernel
theorem dX11_share_44 : decode cX11_share 44 = .ok (.getfield 25, 3) := by decide +kernel
theorem dX11_share_47 : decode cX11_share 47 = .ok (.iload 5, 2) := by decide +kernel
theorem dX11_share_49 : decode cX11_share 49 = .ok (.iaload, 1) := by decide +kernel
theorem dX11_share_50 : decode cX11_share 50 = .ok (.iload_n 3, 1) := by decide +kernel
theorem dX11_share_51 : decode cX11_share 51 = .ok (.if_icmp .lt 7, 3) := by decide +kernel
theorem dX11_share_54 : decode cX11_share 54 = .ok (.iconst 1, 1) := by decide +kernel
theorem dX11_share_55 : decode cX11_share 55 = .ok (.goto 4, 3) := by decide +kernel
theorem dX11_share_58 : decode cX11_share 58 = .ok (.iconst 0, 1) := by decide +kernel
theorem dX11_share_59 : decode cX11_share 59 = .ok (.iadd, 1) := by decide +kernel
theorem dX11_share_60 : decode cX11_share 60 = .ok (.istore 4, 2) := by decide +kernel
theorem dX11_share_62 : decode cX11_share 62 = .ok (.iinc 5 1, 3) := by decide +kernel
theorem dX11_share_65 : decode cX11_share 65 = .ok (.goto (-45), 3) := by decide +kernel
theorem dX11_share_68 : decode cX11_share 68 = .ok (.iload_n 2, 1) := by decide +kernel
theorem dX11_share_69 : decode cX11_share 69 = .ok (.iload_n 3, 1) := by decide +kernel
theorem dX11_share_70 : decode cX11_share 70 = .ok (.invokestatic 144, 3) := by decide +kernel
theorem dX11_share_73 : decode cX11_share 73 = .ok (.iload_n 3, 1) := by decide +kernel
theorem dX11_share_74 : decode cX11_share 74 = .ok (.iconst 1, 1) := by decide +kernel
theorem dX11_share_75 : decode cX11_share 75 = .ok (.isub, 1) := by decide +kernel
theorem dX11_share_76 : decode cX11_share 76 = .ok (.invokestatic 144, 3) := by decide +kernel
theorem dX11_share_79 : decode cX11_share 79 = .ok (.isub, 1) := by decide +kernel
theorem dX11_share_80 : decode cX11_share 80 = .ok (.iload 4, 2) := by decide +kernel
theorem dX11_share_82 : decode cX11_share 82 = .ok (.idiv, 1) := by decide +kernel
theorem dX11_share_83 : decode cX11_share 83 = .ok (.iadd, 1) := by decide +kernel
theorem dX11_share_84 : decode cX11_share 84 = .ok (.istore_n 2, 1) := by decide +kernel
theorem dX11_share_85 : decode cX11_share 85 = .ok (.iinc 3 1, 3) := by decide +kernel
theorem dX11_share_88 : decode cX11_share 88 = .ok (.goto (-84), 3) := by decide +kernel
theorem dX11_share_91 : decode cX11_share 91 = .ok (.iload_n 2, 1) := by decide +kernel
theorem dX11_share_92 : decode cX11_share 92 = .ok (.ireturn, 1) := by decide +kernel
set_option maxRecDepth 20000 in
theorem ggX11_findsNight_X11_findsNeeds : GoodIn wsX11_findsNight wsX11_findsNeeds := goodIn_ca (goodIn_r _ [7, 1, 8, 9, 2, 10, 11, 12, 13, 6, 14, 15, 16, 17, 18, 19, 20, 21, 22, 23, 24, 25, 26, 27, 28, 29, 37, 38, 39, 40, 41, 42, 43, 44, 45, 46, 47, 48, 49, 50, 51, 52, 53, 54, 55, 56] (by decide +kernel) (by decide +kernel)) (goodIn_sub (fun _ h => List.mem_cons_of_mem _ (List.mem_append_left _ (List.mem_append_right _ h))) (by decide +kernel))
set_option maxRecDepth 20000 in
theorem gX11_findsNight_X11_findsNeeds : GoodIn wsX11_findsNight (wsV RX11 147 RX11 yX11_findsNeeds wsX11_findsNeeds) := goodIn_app (goodIn_of _ (by decide +kernel)) ggX11_findsNight_X11_findsNeeds
set_option maxRecDepth 20000 in
theorem ggX11_findsNight_X11_of : GoodIn wsX11_findsNight wsX11_of := goodIn_ca (goodIn_r _ [29, 1, 37, 38, 39, 40, 41, 42, 43, 44, 45, 46, 47, 48, 49, 50, 51, 52, 53, 54, 55, 56] (by decide +kernel) (by decide +kernel)) (goodIn_sub (fun _ h => List.mem_cons_of_mem _ (List.mem_append_left _ (List.mem_append_right _ h))) (by decide +kernel))
set_option maxRecDepth 20000 in
theorem gX11_findsNight_X11_of : GoodIn wsX11_findsNight (wsV RX11 141 RX11 yX11_of wsX11_of) := goodIn_app (goodIn_of _ (by decide +kernel)) ggX11_findsNight_X11_of
set_option maxRecDepth 20000 in
theorem ggX11_findsNight_X11_share : GoodIn wsX11_findsNight wsX11_share := goodIn_ca (goodIn_ca (goodIn_r _ [33, 8, 1, 2, 34, 35, 6, 36, 37, 38, 39, 40, 41, 42, 43, 44, 45, 46, 47, 48, 49, 50, 51, 52, 53, 54, 55, 56] (by decide +kernel) (by decide +kernel)) (goodIn_sub (fun _ h => List.mem_cons_of_mem _ (List.mem_append_left _ (List.mem_append_right _ h))) (by decide +kernel))) (goodIn_sub (fun _ h => List.mem_cons_of_mem _ (List.mem_append_right _ h)) (by decide +kernel))
set_option maxRecDepth 20000 in
theorem gX11_findsNight_X11_share : GoodIn wsX11_findsNight (wsV RX11 150 RX11 yX11_share wsX11_share) := goodIn_app (goodIn_of _ (by decide +kernel)) ggX11_findsNight_X11_share
theorem dX11_findsNight_0 : decode cX11_findsNight 0 = .ok (.aload_n 0, 1) := by decide +kernel
theorem dX11_findsNight_1 : decode cX11_findsNight 1 = .ok (.invokevirtual 147, 3) := by decide +kernel
theorem dX11_findsNight_4 : decode cX11_findsNight 4 = .ok (.iconst 1, 1) := by decide +kernel
theorem dX11_findsNight_5 : decode cX11_findsNight 5 = .ok (.istore_n 1, 1) := by decide +kernel
theorem dX11_findsNight_6 : decode cX11_findsNight 6 = .ok (.iload_n 1, 1) := by decide +kernel
theorem dX11_findsNight_7 : decode cX11_findsNight 7 = .ok (.ifCond .eq 77, 3) := by decide +kernel
theorem dX11_findsNight_10 : decode cX11_findsNight 10 = .ok (.iconst (-1), 1) := by decide +kernel
theorem dX11_findsNight_11 : decode cX11_findsNight 11 = .ok (.istore_n 2, 1) := by decide +kernel
theorem dX11_findsNight_12 : decode cX11_findsNight 12 = .ok (.aload_n 0, 1) := by decide +kernel
theorem dX11_findsNight_13 : decode cX11_findsNight 13 = .ok (.getfield 9, 3) := by decide +kernel
theorem dX11_findsNight_16 : decode cX11_findsNight 16 = .ok (.iconst 1, 1) := by decide +kernel
theorem dX11_findsNight_17 : decode cX11_findsNight 17 = .ok (.iaload, 1) := by decide +kernel
theorem dX11_findsNight_18 : decode cX11_findsNight 18 = .ok (.iconst 1, 1) := by decide +kernel
theorem dX11_findsNight_19 : decode cX11_findsNight 19 = .ok (.isub, 1) := by decide +kernel
theorem dX11_findsNight_20 : decode cX11_findsNight 20 = .ok (.istore_n 3, 1) := by decide +kernel
theorem dX11_findsNight_21 : decode cX11_findsNight 21 = .ok (.iload_n 3, 1) := by decide +kernel
theorem dX11_findsNight_22 : decode cX11_findsNight 22 = .ok (.ifCond .lt 38, 3) := by decide +kernel
theorem dX11_findsNight_25 : decode cX11_findsNight 25 = .ok (.aload_n 0, 1) := by decide +kernel
theorem dX11_findsNight_26 : decode cX11_findsNight 26 = .ok (.getfield 28, 3) := by decide +kernel
theorem dX11_findsNight_29 : decode cX11_findsNight 29 = .ok (.iload_n 3, 1) := by decide +kernel
theorem dX11_findsNight_30 : decode cX11_findsNight 30 = .ok (.baload, 1) := by decide +kernel
theorem dX11_findsNight_31 : decode cX11_findsNight 31 = .ok (.ifCond .eq 21, 3) := by decide +kernel
theorem dX11_findsNight_34 : decode cX11_findsNight 34 = .ok (.aload_n 0, 1) := by decide +kernel
theorem dX11_findsNight_35 : decode cX11_findsNight 35 = .ok (.iload_n 3, 1) := by decide +kernel
theorem dX11_findsNight_36 : decode cX11_findsNight 36 = .ok (.iconst 2, 1) := by decide +kernel
theorem dX11_findsNight_37 : decode cX11_findsNight 37 = .ok (.invokevirtual 141, 3) := by decide +kernel
theorem dX11_findsNight_40 : decode cX11_findsNight 40 = .ok (.aload_n 0, 1) := by decide +kernel
theorem dX11_findsNight_41 : decode cX11_findsNight 41 = .ok (.iload_n 3, 1) := by decide +kernel
theorem dX11_findsNight_42 : decode cX11_findsNight 42 = .ok (.invokevirtual 150, 3) := by decide +kernel
theorem dX11_findsNight_45 : decode cX11_findsNight 45 = .ok (.if_icmp .ge 7, 3) := by decide +kernel
theorem dX11_findsNight_48 : decode cX11_findsNight 48 = .ok (.iload_n 3, 1) := by decide +kernel
theorem dX11_findsNight_49 : decode cX11_findsNight 49 = .ok (.goto 4, 3) := by decide +kernel
theorem dX11_findsNight_52 : decode cX11_findsNight 52 = .ok (.iload_n 2, 1) := by decide +kernel
theorem dX11_findsNight_53 : decode cX11_findsNight 53 = .ok (.istore_n 2, 1) := by decide +kernel
theorem dX11_findsNight_54 : decode cX11_findsNight 54 = .ok (.iinc 3 (-1), 3) := by decide +kernel
theorem dX11_findsNight_57 : decode cX11_findsNight 57 = .ok (.goto (-36), 3) := by decide +kernel
theorem dX11_findsNight_60 : decode cX11_findsNight 60 = .ok (.iload_n 2, 1) := by decide +kernel
theorem dX11_findsNight_61 : decode cX11_findsNight 61 = .ok (.ifCond .lt 7, 3) := by decide +kernel
theorem dX11_findsNight_64 : decode cX11_findsNight 64 = .ok (.iconst 1, 1) := by decide +kernel
theorem dX11_findsNight_65 : decode cX11_findsNight 65 = .ok (.goto 4, 3) := by decide +kernel
theorem dX11_findsNight_68 : decode cX11_findsNight 68 = .ok (.iconst 0, 1) := by decide +kernel
theorem dX11_findsNight_69 : decode cX11_findsNight 69 = .ok (.istore_n 1, 1) := by decide +kernel
theorem dX11_findsNight_70 : decode cX11_findsNight 70 = .ok (.iload_n 1, 1) := by decide +kernel
theorem dX11_findsNight_71 : decode cX11_findsNight 71 = .ok (.ifCond .eq 10, 3) := by decide +kernel
theorem dX11_findsNight_74 : decode cX11_findsNight 74 = .ok (.aload_n 0, 1) := by decide +kernel
theorem dX11_findsNight_75 : decode cX11_findsNight 75 = .ok (.getfield 28, 3) := by decide +kernel
theorem dX11_findsNight_78 : decode cX11_findsNight 78 = .ok (.iload_n 2, 1) := by decide +kernel
theorem dX11_findsNight_79 : decode cX11_findsNight 79 = .ok (.iconst 0, 1) := by decide +kernel
theorem dX11_findsNight_80 : decode cX11_findsNight 80 = .ok (.bastore, 1) := by decide +kernel
theorem dX11_findsNight_81 : decode cX11_findsNight 81 = .ok (.goto (-75), 3) := by decide +kernel
theorem dX11_findsNight_84 : decode cX11_findsNight 84 = .ok (.return_, 1) := by decide +kernel
theorem dX11_greatestNeed_0 : decode cX11_greatestNeed 0 = .ok (.iconst 0, 1) := by decide +kernel
theorem dX11_greatestNeed_1 : decode cX11_greatestNeed 1 = .ok (.istore_n 1, 1) := by decide +kernel
theorem dX11_greatestNeed_2 : decode cX11_greatestNeed 2 = .ok (.iconst 0, 1) := by decide +kernel
theorem dX11_greatestNeed_3 : decode cX11_greatestNeed 3 = .ok (.istore_n 2, 1) := by decide +kernel
theorem dX11_greatestNeed_4 : decode cX11_greatestNeed 4 = .ok (.iload_n 2, 1) := by decide +kernel
theorem dX11_greatestNeed_5 : decode cX11_greatestNeed 5 = .ok (.aload_n 0, 1) := by decide +kernel
theorem dX11_greatestNeed_6 : decode cX11_greatestNeed 6 = .ok (.getfield 9, 3) := by decide +kernel
theorem dX11_greatestNeed_9 : decode cX11_greatestNeed 9 = .ok (.iconst 1, 1) := by decide +kernel
theorem dX11_greatestNeed_10 : decode cX11_greatestNeed 10 = .ok (.iaload, 1) := by decide +kernel
theorem dX11_greatestNeed_11 : decode cX11_greatestNeed 11 = .ok (.if_icmp .ge 33, 3) := by decide +kernel
theorem dX11_greatestNeed_14 : decode cX11_greatestNeed 14 = .ok (.aload_n 0, 1) := by decide +kernel
theorem dX11_greatestNeed_15 : decode cX11_greatestNeed 15 = .ok (.getfield 28, 3) := by decide +kernel
theorem dX11_greatestNeed_18 : decode cX11_greatestNeed 18 = .ok (.iload_n 2, 1) := by decide +kernel
theorem dX11_greatestNeed_19 : decode cX11_greatestNeed 19 = .ok (.baload, 1) := by decide +kernel
theorem dX11_greatestNeed_20 : decode cX11_greatestNeed 20 = .ok (.ifCond .eq 16, 3) := by decide +kernel
theorem dX11_greatestNeed_23 : decode cX11_greatestNeed 23 = .ok (.iload_n 1, 1) := by decide +kernel
theorem dX11_greatestNeed_24 : decode cX11_greatestNeed 24 = .ok (.aload_n 0, 1) := by decide +kernel
theorem dX11_greatestNeed_25 : decode cX11_greatestNeed 25 = .ok (.getfield 25, 3) := by decide +kernel
theorem dX11_greatestNeed_28 : decode cX11_greatestNeed 28 = .ok (.iload_n 2, 1) := by decide +kernel
theorem dX11_greatestNeed_29 : decode cX11_greatestNeed 29 = .ok (.iaload, 1) := by decide +kernel
theorem dX11_greatestNeed_30 : decode cX11_greatestNeed 30 = .ok (.invokestatic 124, 3) := by decide +kernel
theorem dX11_greatestNeed_33 : decode cX11_greatestNeed 33 = .ok (.goto 4, 3) := by decide +kernel
theorem dX11_greatestNeed_36 : decode cX11_greatestNeed 36 = .ok (.iload_n 1, 1) := by decide +kernel
theorem dX11_greatestNeed_37 : decode cX11_greatestNeed 37 = .ok (.istore_n 1, 1) := by decide +kernel
theorem dX11_greatestNeed_38 : decode cX11_greatestNeed 38 = .ok (.iinc 2 1, 3) := by decide +kernel
theorem dX11_greatestNeed_41 : decode cX11_greatestNeed 41 = .ok (.goto (-37), 3) := by decide +kernel
theorem dX11_greatestNeed_44 : decode cX11_greatestNeed 44 = .ok (.iload_n 1, 1) := by decide +kernel
theorem dX11_greatestNeed_45 : decode cX11_greatestNeed 45 = .ok (.ireturn, 1) := by decide +kernel
set_option maxRecDepth 20000 in
theorem ggX11_doSubscribe_X11_arePorts : GoodIn wsX11_doSubscribe wsX11_arePorts := goodIn_ca (goodIn_r _ [8, 1, 9, 10, 7, 11, 33, 34, 35, 36, 37, 38, 39, 40, 41, 42, 43, 44, 45, 46, 47, 48, 49, 50, 51, 52] (by decide +kernel) (by decide +kernel)) (goodIn_sub (fun _ h => List.mem_cons_of_mem _ (List.mem_append_right _ h)) (by decide +kernel))
set_option maxRecDepth 20000 in
theorem gX11_doSubscribe_X11_arePorts : GoodIn wsX11_doSubscribe (wsV RX11 83 RX11 yX11_arePorts wsX11_arePorts) := goodIn_app (goodIn_of _ (by decide +kernel)) ggX11_doSubscribe_X11_arePorts
set_option maxRecDepth 20000 in
theorem ggX11_doSubscribe_X11_fails : GoodIn wsX11_doSubscribe wsX11_fails := goodIn_r _ [15, 16, 33, 34, 35, 36, 37, 38, 39, 40, 41, 42, 43, 44, 45, 46, 47, 48, 49, 50, 51, 52] (by decide +kernel) (by decide +kernel)
set_option maxRecDepth 20000 in
theorem gX11_doSubscribe_X11_fails : GoodIn wsX11_doSubscribe (wsV RX11 69 RX11 yX11_fails wsX11_fails) := goodIn_app (goodIn_of _ (by decide +kernel)) ggX11_doSubscribe_X11_fails
set_option maxRecDepth 20000 in
theorem ggX11_doSubscribe_X11_in : GoodIn wsX11_doSubscribe wsX11_in := goodIn_r _ [11] (by decide +kernel) (by decide +kernel)
set_option maxRecDepth 20000 in
theorem gX11_doSubscribe_X11_in : GoodIn wsX11_doSubscribe (va_wsS RX11 61 yX11_in wsX11_in) := goodIn_app (goodIn_of _ (by decide +kernel)) ggX11_doSubscribe_X11_in
set_option maxRecDepth 20000 in
theorem ggX11_doSubscribe_X11_finds : GoodIn wsX11_doSubscribe wsX11_finds := goodIn_ca (goodIn_r _ [20, 2, 3, 21, 22, 23, 24, 25, 26, 27, 7, 28, 1, 29, 30, 31, 32, 33, 34, 35, 36, 37, 38, 39, 40, 41, 42, 43, 44, 45, 46, 47, 48, 49, 50, 51, 52] (by decide +kernel) (by decide +kernel)) (goodIn_sub (fun _ h => List.mem_cons_of_mem _ (List.mem_append_right _ h)) (by decide +kernel))
set_option maxRecDepth 20000 in
theorem gX11_doSubscribe_X11_finds : GoodIn wsX11_doSubscribe (wsV RX11 127 RX11 yX11_finds wsX11_finds) := goodIn_app (goodIn_of _ (by decide +kernel)) ggX11_doSubscribe_X11_finds
theorem dX11_doSubscribe_0 : decode cX11_doSubscribe 0 = .ok (.aload_n 0, 1) := by decide +kernel
theorem dX11_doSubscribe_1 : decode cX11_doSubscribe 1 = .ok (.getfield 9, 3) := by decide +kernel
theorem dX11_doSubscribe_4 : decode cX11_doSubscribe 4 = .ok (.iconst 1, 1) := by decide +kernel
theorem dX11_doSubscribe_5 : decode cX11_doSubscribe 5 = .ok (.iaload, 1) := by decide +kernel
theorem dX11_doSubscribe_6 : decode cX11_doSubscribe 6 = .ok (.istore 4, 2) := by decide +kernel
theorem dX11_doSubscribe_8 : decode cX11_doSubscribe 8 = .ok (.aload_n 0, 1) := by decide +kernel
theorem dX11_doSubscribe_9 : decode cX11_doSubscribe 9 = .ok (.iload_n 1, 1) := by decide +kernel
theorem dX11_doSubscribe_10 : decode cX11_doSubscribe 10 = .ok (.iload_n 2, 1) := by decide +kernel
theorem dX11_doSubscribe_11 : decode cX11_doSubscribe 11 = .ok (.invokevirtual 83, 3) := by decide +kernel
theorem dX11_doSubscribe_14 : decode cX11_doSubscribe 14 = .ok (.ifCond .ne 9, 3) := by decide +kernel
theorem dX11_doSubscribe_17 : decode cX11_doSubscribe 17 = .ok (.aload_n 0, 1) := by decide +kernel
theorem dX11_doSubscribe_18 : decode cX11_doSubscribe 18 = .ok (.iconst 1, 1) := by decide +kernel
theorem dX11_doSubscribe_19 : decode cX11_doSubscribe 19 = .ok (.invokevirtual 69, 3) := by decide +kernel
theorem dX11_doSubscribe_22 : decode cX11_doSubscribe 22 = .ok (.ireturn, 1) := by decide +kernel
theorem dX11_doSubscribe_23 : decode cX11_doSubscribe 23 = .ok (.iload_n 1, 1) := by decide +kernel
theorem dX11_doSubscribe_24 : decode cX11_doSubscribe 24 = .ok (.iload_n 2, 1) := by decide +kernel
theorem dX11_doSubscribe_25 : decode cX11_doSubscribe 25 = .ok (.if_icmp .eq 14, 3) := by decide +kernel
theorem dX11_doSubscribe_28 : decode cX11_doSubscribe 28 = .ok (.iload_n 3, 1) := by decide +kernel
theorem dX11_doSubscribe_29 : decode cX11_doSubscribe 29 = .ok (.iconst 0, 1) := by decide +kernel
theorem dX11_doSubscribe_30 : decode cX11_doSubscribe 30 = .ok (.sipush 9999, 3) := by decide +kernel
theorem dX11_doSubscribe_33 : decode cX11_doSubscribe 33 = .ok (.invokestatic 61, 3) := by decide +kernel
theorem dX11_doSubscribe_36 : decode cX11_doSubscribe 36 = .ok (.ifCond .ne 9, 3) := by decide +kernel
theorem dX11_doSubscribe_39 : decode cX11_doSubscribe 39 = .ok (.aload_n 0, 1) := by decide +kernel
theorem dX11_doSubscribe_40 : decode cX11_doSubscribe 40 = .ok (.iconst 2, 1) := by decide +kernel
theorem dX11_doSubscribe_41 : decode cX11_doSubscribe 41 = .ok (.invokevirtual 69, 3) := by decide +kernel
theorem dX11_doSubscribe_44 : decode cX11_doSubscribe 44 = .ok (.ireturn, 1) := by decide +kernel
theorem dX11_doSubscribe_45 : decode cX11_doSubscribe 45 = .ok (.iload 4, 2) := by decide +kernel
theorem dX11_doSubscribe_47 : decode cX11_doSubscribe 47 = .ok (.bipush 6, 2) := by decide +kernel
theorem dX11_doSubscribe_49 : decode cX11_doSubscribe 49 = .ok (.if_icmp .ne 9, 3) := by decide +kernel
theorem dX11_doSubscribe_52 : decode cX11_doSubscribe 52 = .ok (.aload_n 0, 1) := by decide +kernel
theorem dX11_doSubscribe_53 : decode cX11_doSubscribe 53 = .ok (.iconst 3, 1) := by decide +kernel
theorem dX11_doSubscribe_54 : decode cX11_doSubscribe 54 = .ok (.invokevirtual 69, 3) := by decide +kernel
theorem dX11_doSubscribe_57 : decode cX11_doSubscribe 57 = .ok (.ireturn, 1) := by decide +kernel
theorem dX11_doSubscribe_58 : decode cX11_doSubscribe 58 = .ok (.aload_n 0, 1) := by decide +kernel
theorem dX11_doSubscribe_59 : decode cX11_doSubscribe 59 = .ok (.iconst 0, 1) := by decide +kernel
theorem dX11_doSubscribe_60 : decode cX11_doSubscribe 60 = .ok (.invokevirtual 127, 3) := by decide +kernel
theorem dX11_doSubscribe_63 : decode cX11_doSubscribe 63 = .ok (.aload_n 0, 1) := by decide +kernel
theorem dX11_doSubscribe_64 : decode cX11_doSubscribe 64 = .ok (.getfield 22, 3) := by decide +kernel
theorem dX11_doSubscribe_67 : decode cX11_doSubscribe 67 = .ok (.bipush 10, 2) := by decide +kernel
theorem dX11_doSubscribe_69 : decode cX11_doSubscribe 69 = .ok (.iload_n 1, 1) := by decide +kernel
theorem dX11_doSubscribe_70 : decode cX11_doSubscribe 70 = .ok (.imul, 1) := by decide +kernel
theorem dX11_doSubscribe_71 : decode cX11_doSubscribe 71 = .ok (.iload_n 2, 1) := by decide +kernel
theorem dX11_doSubscribe_72 : decode cX11_doSubscribe 72 = .ok (.iadd, 1) := by decide +kernel
theorem dX11_doSubscribe_73 : decode cX11_doSubscribe 73 = .ok (.iaload, 1) := by decide +kernel
theorem dX11_doSubscribe_74 : decode cX11_doSubscribe 74 = .ok (.ldc 118, 2) := by decide +kernel
theorem dX11_doSubscribe_76 : decode cX11_doSubscribe 76 = .ok (.if_icmp .lt 9, 3) := by decide +kernel
theorem dX11_doSubscribe_79 : decode cX11_doSubscribe 79 = .ok (.aload_n 0, 1) := by decide +kernel
theorem dX11_doSubscribe_80 : decode cX11_doSubscribe 80 = .ok (.iconst 4, 1) := by decide +kernel
theorem dX11_doSubscribe_81 : decode cX11_doSubscribe 81 = .ok (.invokevirtual 69, 3) := by decide +kernel
theorem dX11_doSubscribe_84 : decode cX11_doSubscribe 84 = .ok (.ireturn, 1) := by decide +kernel
theorem dX11_doSubscribe_85 : decode cX11_doSubscribe 85 = .ok (.sipush 307, 3) := by decide +kernel
theorem dX11_doSubscribe_88 : decode cX11_doSubscribe 88 = .ok (.iconst 5, 1) := by decide +kernel
theorem dX11_doSubscribe_89 : decode cX11_doSubscribe 89 = .ok (.iload 4, 2) := by decide +kernel
theorem dX11_doSubscribe_91 : decode cX11_doSubscribe 91 = .ok (.imul, 1) := by decide +kernel
theorem dX11_doSubscribe_92 : decode cX11_doSubscribe 92 = .ok (.iadd, 1) := by decide +kernel
theorem dX11_doSubscribe_93 : decode cX11_doSubscribe 93 = .ok (.istore 5, 2) := by decide +kernel
theorem dX11_doSubscribe_95 : decode cX11_doSubscribe 95 = .ok (.aload_n 0, 1) := by decide +kernel
theorem dX11_doSubscribe_96 : decode cX11_doSubscribe 96 = .ok (.getfield 9, 3) := by decide +kernel
theorem dX11_doSubscribe_99 : decode cX11_doSubscribe 99 = .ok (.iload 5, 2) := by decide +kernel
theorem dX11_doSubscribe_101 : decode cX11_doSubscribe 101 = .ok (.iload_n 1, 1) := by decide +kernel
theorem dX11_doSubscribe_102 : decode cX11_doSubscribe 102 = .ok (.iastore, 1) := by decide +kernel
theorem dX11_doSubscribe_103 : decode cX11_doSubscribe 103 = .ok (.aload_n 0, 1) := by decide +kernel
theorem dX11_doSubscribe_104 : decode cX11_doSubscribe 104 = .ok (.getfield 9, 3) := by decide +kernel
theorem dX11_doSubscribe_107 : decode cX11_doSubscribe 107 = .ok (.iload 5, 2) := by decide +kernel
theorem dX11_doSubscribe_109 : decode cX11_doSubscribe 109 = .ok (.iconst 1, 1) := by decide +kernel
theorem dX11_doSubscribe_110 : decode cX11_doSubscribe 110 = .ok (.iadd, 1) := by decide +kernel
theorem dX11_doSubscribe_111 : decode cX11_doSubscribe 111 = .ok (.iload_n 2, 1) := by decide +kernel
theorem dX11_doSubscribe_112 : decode cX11_doSubscribe 112 = .ok (.iastore, 1) := by decide +kernel
theorem dX11_doSubscribe_113 : decode cX11_doSubscribe 113 = .ok (.aload_n 0, 1) := by decide +kernel
theorem dX11_doSubscribe_114 : decode cX11_doSubscribe 114 = .ok (.getfield 9, 3) := by decide +kernel
theorem dX11_doSubscribe_117 : decode cX11_doSubscribe 117 = .ok (.iload 5, 2) := by decide +kernel
theorem dX11_doSubscribe_119 : decode cX11_doSubscribe 119 = .ok (.iconst 2, 1) := by decide +kernel
theorem dX11_doSubscribe_120 : decode cX11_doSubscribe 120 = .ok (.iadd, 1) := by decide +kernel
theorem dX11_doSubscribe_121 : decode cX11_doSubscribe 121 = .ok (.iload_n 3, 1) := by decide +kernel
theorem dX11_doSubscribe_122 : decode cX11_doSubscribe 122 = .ok (.iastore, 1) := by decide +kernel
theorem dX11_doSubscribe_123 : decode cX11_doSubscribe 123 = .ok (.aload_n 0, 1) := by decide +kernel
theorem dX11_doSubscribe_124 : decode cX11_doSubscribe 124 = .ok (.getfield 9, 3) := by decide +kernel
theorem dX11_doSubscribe_127 : decode cX11_doSubscribe 127 = .ok (.iload 5, 2) := by decide +kernel
theorem dX11_doSubscribe_129 : decode cX11_doSubscribe 129 = .ok (.iconst 3, 1) := by decide +kernel
theorem dX11_doSubscribe_130 : decode cX11_doSubscribe 130 = .ok (.iadd, 1) := by decide +kernel
theorem dX11_doSubscribe_131 : decode cX11_doSubscribe 131 = .ok (.iconst 0, 1) := by decide +kernel
theorem dX11_doSubscribe_132 : decode cX11_doSubscribe 132 = .ok (.iastore, 1) := by decide +kernel
theorem dX11_doSubscribe_133 : decode cX11_doSubscribe 133 = .ok (.aload_n 0, 1) := by decide +kernel
theorem dX11_doSubscribe_134 : decode cX11_doSubscribe 134 = .ok (.getfield 9, 3) := by decide +kernel
theorem dX11_doSubscribe_137 : decode cX11_doSubscribe 137 = .ok (.iload 5, 2) := by decide +kernel
theorem dX11_doSubscribe_139 : decode cX11_doSubscribe 139 = .ok (.iconst 4, 1) := by decide +kernel
theorem dX11_doSubscribe_140 : decode cX11_doSubscribe 140 = .ok (.iadd, 1) := by decide +kernel
theorem dX11_doSubscribe_141 : decode cX11_doSubscribe 141 = .ok (.iconst 0, 1) := by decide +kernel
theorem dX11_doSubscribe_142 : decode cX11_doSubscribe 142 = .ok (.iastore, 1) := by decide +kernel
theorem dX11_doSubscribe_143 : decode cX11_doSubscribe 143 = .ok (.aload_n 0, 1) := by decide +kernel
theorem dX11_doSubscribe_144 : decode cX11_doSubscribe 144 = .ok (.getfield 9, 3) := by decide +kernel
theorem dX11_doSubscribe_147 : decode cX11_doSubscribe 147 = .ok (.iconst 1, 1) := by decide +kernel
theorem dX11_doSubscribe_148 : decode cX11_doSubscribe 148 = .ok (.dup2, 1) := by decide +kernel
theorem dX11_doSubscribe_149 : decode cX11_doSubscribe 149 = .ok (.iaload, 1) := by decide +kernel
theorem dX11_doSubscribe_150 : decode cX11_doSubscribe 150 = .ok (.iconst 1, 1) := by decide +kernel
theorem dX11_doSubscribe_151 : decode cX11_doSubscribe 151 = .ok (.iadd, 1) := by decide +kernel
theorem dX11_doSubscribe_152 : decode cX11_doSubscribe 152 = .ok (.iastore, 1) := by decide +kernel
theorem dX11_doSubscribe_153 : decode cX11_doSubscribe 153 = .ok (.iload 4, 2) := by decide +kernel
theorem dX11_doSubscribe_155 : decode cX11_doSubscribe 155 = .ok (.ireturn, 1) := by decide +kernel
set_option maxRecDepth 20000 in
theorem ggX11_subscribe_X11_keep : GoodIn wsX11_subscribe wsX11_keep := goodIn_r _ [5, 6, 7, 8, 9, 10, 11, 12, 52, 53, 54, 55, 56, 57, 58, 59, 60, 61, 62, 63, 64, 65, 66, 67, 68, 69, 70, 71] (by decide +kernel) (by decide +kernel)
set_option maxRecDepth 20000 in
theorem gX11_subscribe_X11_keep : GoodIn wsX11_subscribe (wsV RX11 73 RX11 yX11_keep wsX11_keep) := goodIn_app (goodIn_of _ (by decide +kernel)) ggX11_subscribe_X11_keep
set_option maxRecDepth 20000 in
theorem ggX11_subscribe_X11_doSubscribe : GoodIn wsX11_subscribe wsX11_doSubscribe := goodIn_ca (goodIn_r _ [16, 7, 17, 18, 19, 20, 21, 4, 22, 23, 24, 25, 26, 27, 28, 29, 6, 30, 31, 32, 33, 34, 35, 36, 37, 38, 39, 40, 41, 42, 43, 44, 45, 52, 53, 54, 55, 56, 57, 58, 59, 60, 61, 62, 63, 64, 65, 66, 67, 68, 69, 70, 71] (by decide +kernel) (by decide +kernel)) (goodIn_sub (fun _ h => List.mem_cons_of_mem _ (List.mem_append_right _ h)) (by decide +kernel))
set_option maxRecDepth 20000 in
theorem gX11_subscribe_X11_doSubscribe : GoodIn wsX11_subscribe (wsV RX11 153 RX11 yX11_doSubscribe wsX11_doSubscribe) := goodIn_app (goodIn_of _ (by decide +kernel)) ggX11_subscribe_X11_doSubscribe
set_option maxRecDepth 20000 in
theorem ggX11_subscribe_X11_ends : GoodIn wsX11_subscribe wsX11_ends := goodIn_r _ [49, 6, 8, 7, 9, 10, 11, 12, 50, 51, 52, 53, 54, 55, 56, 57, 58, 59, 60, 61, 62, 63, 64, 65, 66, 67, 68, 69, 70, 71] (by decide +kernel) (by decide +kernel)
set_option maxRecDepth 20000 in
theorem gX11_subscribe_X11_ends : GoodIn wsX11_subscribe (wsV RX11 80 RX11 yX11_ends wsX11_ends) := goodIn_app (goodIn_of _ (by decide +kernel)) ggX11_subscribe_X11_ends
theorem dX11_subscribe_0 : decode cX11_subscribe 0 = .ok (.aload_n 0, 1) := by decide +kernel
theorem dX11_subscribe_1 : decode cX11_subscribe 1 = .ok (.invokevirtual 73, 3) := by decide +kernel
theorem dX11_subscribe_4 : decode cX11_subscribe 4 = .ok (.aload_n 0, 1) := by decide +kernel
theorem dX11_subscribe_5 : decode cX11_subscribe 5 = .ok (.aload_n 0, 1) := by decide +kernel
theorem dX11_subscribe_6 : decode cX11_subscribe 6 = .ok (.iload_n 1, 1) := by decide +kernel
theorem dX11_subscribe_7 : decode cX11_subscribe 7 = .ok (.iload_n 2, 1) := by decide +kernel
theorem dX11_subscribe_8 : decode cX11_subscribe 8 = .ok (.iload_n 3, 1) := by decide +kernel
theorem dX11_subscribe_9 : decode cX11_subscribe 9 = .ok (.invokevirtual 153, 3) := by decide +kernel
theorem dX11_subscribe_12 : decode cX11_subscribe 12 = .ok (.invokevirtual 80, 3) := by decide +kernel
theorem dX11_subscribe_15 : decode cX11_subscribe 15 = .ok (.ireturn, 1) := by decide +kernel
set_option maxRecDepth 20000 in
theorem ggX11_doLeave_X11_isSubscriber : GoodIn wsX11_doLeave wsX11_isSubscriber := goodIn_ca (goodIn_r _ [10, 1, 11, 12, 9, 13, 23, 24, 25, 26, 27, 28, 29, 30, 31, 32, 33, 34, 35, 36, 37, 38, 39, 40, 41, 42] (by decide +kernel) (by decide +kernel)) (goodIn_sub (fun _ h => List.mem_cons_of_mem _ (List.mem_append_right _ h)) (by decide +kernel))
set_option maxRecDepth 20000 in
theorem gX11_doLeave_X11_isSubscriber : GoodIn wsX11_doLeave (wsV RX11 156 RX11 yX11_isSubscriber wsX11_isSubscriber) := goodIn_app (goodIn_of _ (by decide +kernel)) ggX11_doLeave_X11_isSubscriber
set_option maxRecDepth 20000 in
theorem ggX11_doLeave_X11_fails : GoodIn wsX11_doLeave wsX11_fails := goodIn_r _ [17, 18, 23, 24, 25, 26, 27, 28, 29, 30, 31, 32, 33, 34, 35, 36, 37, 38, 39, 40, 41, 42] (by decide +kernel) (by decide +kernel)
set_option maxRecDepth 20000 in
theorem gX11_doLeave_X11_fails : GoodIn wsX11_doLeave (wsV RX11 69 RX11 yX11_fails wsX11_fails) := goodIn_app (goodIn_of _ (by decide +kernel)) ggX11_doLeave_X11_fails
set_option maxRecDepth 20000 in
theorem ggX11_doLeave_X11_of : GoodIn wsX11_doLeave wsX11_of := goodIn_ca (goodIn_r _ [22, 1, 23, 24, 25, 26, 27, 28, 29, 30, 31, 32, 33, 34, 35, 36, 37, 38, 39, 40, 41, 42] (by decide +kernel) (by decide +kernel)) (goodIn_sub (fun _ h => List.mem_cons_of_mem _ (List.mem_append_right _ h)) (by decide +kernel))
set_option maxRecDepth 20000 in
theorem gX11_doLeave_X11_of : GoodIn wsX11_doLeave (wsV RX11 141 RX11 yX11_of wsX11_of) := goodIn_app (goodIn_of _ (by decide +kernel)) ggX11_doLeave_X11_of
theorem dX11_doLeave_0 : decode cX11_doLeave 0 = .ok (.aload_n 0, 1) := by decide +kernel
theorem dX11_doLeave_1 : decode cX11_doLeave 1 = .ok (.iload_n 1, 1) := by decide +kernel
theorem dX11_doLeave_2 : decode cX11_doLeave 2 = .ok (.invokevirtual 156, 3) := by decide +kernel
theorem dX11_doLeave_5 : decode cX11_doLeave 5 = .ok (.ifCond .ne 9, 3) := by decide +kernel
theorem dX11_doLeave_8 : decode cX11_doLeave 8 = .ok (.aload_n 0, 1) := by decide +kernel
theorem dX11_doLeave_9 : decode cX11_doLeave 9 = .ok (.iconst 1, 1) := by decide +kernel
theorem dX11_doLeave_10 : decode cX11_doLeave 10 = .ok (.invokevirtual 69, 3) := by decide +kernel
theorem dX11_doLeave_13 : decode cX11_doLeave 13 = .ok (.ireturn, 1) := by decide +kernel
theorem dX11_doLeave_14 : decode cX11_doLeave 14 = .ok (.aload_n 0, 1) := by decide +kernel
theorem dX11_doLeave_15 : decode cX11_doLeave 15 = .ok (.iload_n 1, 1) := by decide +kernel
theorem dX11_doLeave_16 : decode cX11_doLeave 16 = .ok (.iconst 2, 1) := by decide +kernel
theorem dX11_doLeave_17 : decode cX11_doLeave 17 = .ok (.invokevirtual 141, 3) := by decide +kernel
theorem dX11_doLeave_20 : decode cX11_doLeave 20 = .ok (.istore_n 2, 1) := by decide +kernel
theorem dX11_doLeave_21 : decode cX11_doLeave 21 = .ok (.aload_n 0, 1) := by decide +kernel
theorem dX11_doLeave_22 : decode cX11_doLeave 22 = .ok (.getfield 9, 3) := by decide +kernel
theorem dX11_doLeave_25 : decode cX11_doLeave 25 = .ok (.iconst 1, 1) := by decide +kernel
theorem dX11_doLeave_26 : decode cX11_doLeave 26 = .ok (.dup2, 1) := by decide +kernel
theorem dX11_doLeave_27 : decode cX11_doLeave 27 = .ok (.iaload, 1) := by decide +kernel
theorem dX11_doLeave_28 : decode cX11_doLeave 28 = .ok (.iconst 1, 1) := by decide +kernel
theorem dX11_doLeave_29 : decode cX11_doLeave 29 = .ok (.isub, 1) := by decide +kernel
theorem dX11_doLeave_30 : decode cX11_doLeave 30 = .ok (.iastore, 1) := by decide +kernel
theorem dX11_doLeave_31 : decode cX11_doLeave 31 = .ok (.sipush 307, 3) := by decide +kernel
theorem dX11_doLeave_34 : decode cX11_doLeave 34 = .ok (.iconst 5, 1) := by decide +kernel
theorem dX11_doLeave_35 : decode cX11_doLeave 35 = .ok (.iload_n 1, 1) := by decide +kernel
theorem dX11_doLeave_36 : decode cX11_doLeave 36 = .ok (.imul, 1) := by decide +kernel
theorem dX11_doLeave_37 : decode cX11_doLeave 37 = .ok (.iadd, 1) := by decide +kernel
theorem dX11_doLeave_38 : decode cX11_doLeave 38 = .ok (.istore_n 3, 1) := by decide +kernel
theorem dX11_doLeave_39 : decode cX11_doLeave 39 = .ok (.aload_n 0, 1) := by decide +kernel
theorem dX11_doLeave_40 : decode cX11_doLeave 40 = .ok (.getfield 9, 3) := by decide +kernel
theorem dX11_doLeave_43 : decode cX11_doLeave 43 = .ok (.iload_n 3, 1) := by decide +kernel
theorem dX11_doLeave_44 : decode cX11_doLeave 44 = .ok (.iconst 5, 1) := by decide +kernel
theorem dX11_doLeave_45 : decode cX11_doLeave 45 = .ok (.iadd, 1) := by decide +kernel
theorem dX11_doLeave_46 : decode cX11_doLeave 46 = .ok (.aload_n 0, 1) := by decide +kernel
theorem dX11_doLeave_47 : decode cX11_doLeave 47 = .ok (.getfield 9, 3) := by decide +kernel
theorem dX11_doLeave_50 : decode cX11_doLeave 50 = .ok (.iload_n 3, 1) := by decide +kernel
theorem dX11_doLeave_51 : decode cX11_doLeave 51 = .ok (.iconst 5, 1) := by decide +kernel
theorem dX11_doLeave_52 : decode cX11_doLeave 52 = .ok (.aload_n 0, 1) := by decide +kernel
theorem dX11_doLeave_53 : decode cX11_doLeave 53 = .ok (.getfield 9, 3) := by decide +kernel
theorem dX11_doLeave_56 : decode cX11_doLeave 56 = .ok (.iconst 1, 1) := by decide +kernel
theorem dX11_doLeave_57 : decode cX11_doLeave 57 = .ok (.iaload, 1) := by decide +kernel
theorem dX11_doLeave_58 : decode cX11_doLeave 58 = .ok (.iload_n 1, 1) := by decide +kernel
theorem dX11_doLeave_59 : decode cX11_doLeave 59 = .ok (.isub, 1) := by decide +kernel
theorem dX11_doLeave_60 : decode cX11_doLeave 60 = .ok (.imul, 1) := by decide +kernel
theorem dX11_doLeave_61 : decode cX11_doLeave 61 = .ok (.invokestatic 52, 3) := by decide +kernel
theorem dX11_doLeave_64 : decode cX11_doLeave 64 = .ok (.iload_n 2, 1) := by decide +kernel
theorem dX11_doLeave_65 : decode cX11_doLeave 65 = .ok (.ireturn, 1) := by decide +kernel
set_option maxRecDepth 20000 in
theorem ggX11_leave_X11_keep : GoodIn wsX11_leave wsX11_keep := goodIn_r _ [5, 6, 7, 8, 9, 10, 11, 12, 38, 39, 40, 41, 42, 43, 44, 45, 46, 47, 48, 49, 50, 51, 52, 53, 54, 55, 56, 57] (by decide +kernel) (by decide +kernel)
set_option maxRecDepth 20000 in
theorem gX11_leave_X11_keep : GoodIn wsX11_leave (wsV RX11 73 RX11 yX11_keep wsX11_keep) := goodIn_app (goodIn_of _ (by decide +kernel)) ggX11_leave_X11_keep
set_option maxRecDepth 20000 in
theorem ggX11_leave_X11_doLeave : GoodIn wsX11_leave wsX11_doLeave := goodIn_ca (goodIn_r _ [16, 7, 9, 10, 11, 12, 17, 18, 19, 4, 20, 21, 22, 23, 24, 25, 26, 27, 6, 28, 29, 30, 31, 38, 39, 40, 41, 42, 43, 44, 45, 46, 47, 48, 49, 50, 51, 52, 53, 54, 55, 56, 57] (by decide +kernel) (by decide +kernel)) (goodIn_sub (fun _ h => List.mem_cons_of_mem _ (List.mem_append_right _ h)) (by decide +kernel))
set_option maxRecDepth 20000 in
theorem gX11_leave_X11_doLeave : GoodIn wsX11_leave (wsV RX11 160 RX11 yX11_doLeave wsX11_doLeave) := goodIn_app (goodIn_of _ (by decide +kernel)) ggX11_leave_X11_doLeave
set_option maxRecDepth 20000 in
theorem ggX11_leave_X11_ends : GoodIn wsX11_leave wsX11_ends := goodIn_r _ [35, 6, 8, 7, 9, 10, 11, 12, 36, 37, 38, 39, 40, 41, 42, 43, 44, 45, 46, 47, 48, 49, 50, 51, 52, 53, 54, 55, 56, 57] (by decide +kernel) (by decide +kernel)
set_option maxRecDepth 20000 in
theorem gX11_leave_X11_ends : GoodIn wsX11_leave (wsV RX11 80 RX11 yX11_ends wsX11_ends) := goodIn_app (goodIn_of _ (by decide +kernel)) ggX11_leave_X11_ends
theorem dX11_leave_0 : decode cX11_leave 0 = .ok (.aload_n 0, 1) := by decide +kernel
theorem dX11_leave_1 : decode cX11_leave 1 = .ok (.invokevirtual 73, 3) := by decide +kernel
theorem dX11_leave_4 : decode cX11_leave 4 = .ok (.aload_n 0, 1) := by decide +kernel
theorem dX11_leave_5 : decode cX11_leave 5 = .ok (.aload_n 0, 1) := by decide +kernel
theorem dX11_leave_6 : decode cX11_leave 6 = .ok (.iload_n 1, 1) := by decide +kernel
theorem dX11_leave_7 : decode cX11_leave 7 = .ok (.invokevirtual 160, 3) := by decide +kernel
theorem dX11_leave_10 : decode cX11_leave 10 = .ok (.invokevirtual 80, 3) := by decide +kernel
theorem dX11_leave_13 : decode cX11_leave 13 = .ok (.ireturn, 1) := by decide +kernel
set_option maxRecDepth 20000 in
theorem ggX11_doDeposit_X11_isSubscriber : GoodIn wsX11_doDeposit wsX11_isSubscriber := goodIn_ca (goodIn_r _ [5, 6, 7, 8, 4, 9, 23, 24, 25, 26, 27, 28, 29, 30, 31, 32, 33, 34, 35, 36, 37, 38, 39, 40, 41, 42] (by decide +kernel) (by decide +kernel)) (goodIn_sub (fun _ h => List.mem_cons_of_mem _ (List.mem_append_right _ h)) (by decide +kernel))
set_option maxRecDepth 20000 in
theorem gX11_doDeposit_X11_isSubscriber : GoodIn wsX11_doDeposit (wsV RX11 156 RX11 yX11_isSubscriber wsX11_isSubscriber) := goodIn_app (goodIn_of _ (by decide +kernel)) ggX11_doDeposit_X11_isSubscriber
set_option maxRecDepth 20000 in
theorem ggX11_doDeposit_X11_fails : GoodIn wsX11_doDeposit wsX11_fails := goodIn_r _ [13, 14, 23, 24, 25, 26, 27, 28, 29, 30, 31, 32, 33, 34, 35, 36, 37, 38, 39, 40, 41, 42] (by decide +kernel) (by decide +kernel)
set_option maxRecDepth 20000 in
theorem gX11_doDeposit_X11_fails : GoodIn wsX11_doDeposit (wsV RX11 69 RX11 yX11_fails wsX11_fails) := goodIn_app (goodIn_of _ (by decide +kernel)) ggX11_doDeposit_X11_fails
set_option maxRecDepth 20000 in
theorem ggX11_doDeposit_X11_in : GoodIn wsX11_doDeposit wsX11_in := goodIn_r _ [9] (by decide +kernel) (by decide +kernel)
set_option maxRecDepth 20000 in
theorem gX11_doDeposit_X11_in : GoodIn wsX11_doDeposit (va_wsS RX11 61 yX11_in wsX11_in) := goodIn_app (goodIn_of _ (by decide +kernel)) ggX11_doDeposit_X11_in
set_option maxRecDepth 20000 in
theorem ggX11_doDeposit_X11_adds : GoodIn wsX11_doDeposit wsX11_adds := goodIn_ca (goodIn_r _ [18, 6, 23, 24, 25, 26, 27, 28, 29, 30, 31, 32, 33, 34, 35, 36, 37, 38, 39, 40, 41, 42] (by decide +kernel) (by decide +kernel)) (goodIn_sub (fun _ h => List.mem_cons_of_mem _ (List.mem_append_right _ h)) (by decide +kernel))
set_option maxRecDepth 20000 in
theorem gX11_doDeposit_X11_adds : GoodIn wsX11_doDeposit (wsV RX11 163 RX11 yX11_adds wsX11_adds) := goodIn_app (goodIn_of _ (by decide +kernel)) ggX11_doDeposit_X11_adds
set_option maxRecDepth 20000 in
theorem ggX11_doDeposit_X11_of : GoodIn wsX11_doDeposit wsX11_of := goodIn_ca (goodIn_r _ [22, 6, 23, 24, 25, 26, 27, 28, 29, 30, 31, 32, 33, 34, 35, 36, 37, 38, 39, 40, 41, 42] (by decide +kernel) (by decide +kernel)) (goodIn_sub (fun _ h => List.mem_cons_of_mem _ (List.mem_append_right _ h)) (by decide +kernel))
set_option maxRecDepth 20000 in
theorem gX11_doDeposit_X11_of : GoodIn wsX11_doDeposit (wsV RX11 141 RX11 yX11_of wsX11_of) := goodIn_app (goodIn_of _ (by decide +kernel)) ggX11_doDeposit_X11_of
theorem dX11_doDeposit_0 : decode cX11_doDeposit 0 = .ok (.aload_n 0, 1) := by decide +kernel
theorem dX11_doDeposit_1 : decode cX11_doDeposit 1 = .ok (.iload_n 1, 1) := by decide +kernel
theorem dX11_doDeposit_2 : decode cX11_doDeposit 2 = .ok (.invokevirtual 156, 3) := by decide +kernel
theorem dX11_doDeposit_5 : decode cX11_doDeposit 5 = .ok (.ifCond .ne 9, 3) := by decide +kernel
theorem dX11_doDeposit_8 : decode cX11_doDeposit 8 = .ok (.aload_n 0, 1) := by decide +kernel
theorem dX11_doDeposit_9 : decode cX11_doDeposit 9 = .ok (.iconst 1, 1) := by decide +kernel
theorem dX11_doDeposit_10 : decode cX11_doDeposit 10 = .ok (.invokevirtual 69, 3) := by decide +kernel
theorem dX11_doDeposit_13 : decode cX11_doDeposit 13 = .ok (.ireturn, 1) := by decide +kernel
theorem dX11_doDeposit_14 : decode cX11_doDeposit 14 = .ok (.iload_n 2, 1) := by decide +kernel
theorem dX11_doDeposit_15 : decode cX11_doDeposit 15 = .ok (.iconst 1, 1) := by decide +kernel
theorem dX11_doDeposit_16 : decode cX11_doDeposit 16 = .ok (.sipush 9999, 3) := by decide +kernel
theorem dX11_doDeposit_19 : decode cX11_doDeposit 19 = .ok (.invokestatic 61, 3) := by decide +kernel
theorem dX11_doDeposit_22 : decode cX11_doDeposit 22 = .ok (.ifCond .ne 9, 3) := by decide +kernel
theorem dX11_doDeposit_25 : decode cX11_doDeposit 25 = .ok (.aload_n 0, 1) := by decide +kernel
theorem dX11_doDeposit_26 : decode cX11_doDeposit 26 = .ok (.iconst 2, 1) := by decide +kernel
theorem dX11_doDeposit_27 : decode cX11_doDeposit 27 = .ok (.invokevirtual 69, 3) := by decide +kernel
theorem dX11_doDeposit_30 : decode cX11_doDeposit 30 = .ok (.ireturn, 1) := by decide +kernel
theorem dX11_doDeposit_31 : decode cX11_doDeposit 31 = .ok (.aload_n 0, 1) := by decide +kernel
theorem dX11_doDeposit_32 : decode cX11_doDeposit 32 = .ok (.iload_n 1, 1) := by decide +kernel
theorem dX11_doDeposit_33 : decode cX11_doDeposit 33 = .ok (.iconst 2, 1) := by decide +kernel
theorem dX11_doDeposit_34 : decode cX11_doDeposit 34 = .ok (.iload_n 2, 1) := by decide +kernel
theorem dX11_doDeposit_35 : decode cX11_doDeposit 35 = .ok (.invokevirtual 163, 3) := by decide +kernel
theorem dX11_doDeposit_38 : decode cX11_doDeposit 38 = .ok (.aload_n 0, 1) := by decide +kernel
theorem dX11_doDeposit_39 : decode cX11_doDeposit 39 = .ok (.iload_n 1, 1) := by decide +kernel
theorem dX11_doDeposit_40 : decode cX11_doDeposit 40 = .ok (.iconst 2, 1) := by decide +kernel
theorem dX11_doDeposit_41 : decode cX11_doDeposit 41 = .ok (.invokevirtual 141, 3) := by decide +kernel
theorem dX11_doDeposit_44 : decode cX11_doDeposit 44 = .ok (.ireturn, 1) := by decide +kernel
set_option maxRecDepth 20000 in
theorem ggX11_deposit_X11_keep : GoodIn wsX11_deposit wsX11_keep := goodIn_r _ [5, 6, 7, 8, 9, 10, 11, 12, 42, 43, 44, 45, 46, 47, 48, 49, 50, 51, 52, 53, 54, 55, 56, 57, 58, 59, 60, 61] (by decide +kernel) (by decide +kernel)
set_option maxRecDepth 20000 in
theorem gX11_deposit_X11_keep : GoodIn wsX11_deposit (wsV RX11 73 RX11 yX11_keep wsX11_keep) := goodIn_app (goodIn_of _ (by decide +kernel)) ggX11_deposit_X11_keep
set_option maxRecDepth 20000 in
theorem ggX11_deposit_X11_doDeposit : GoodIn wsX11_deposit wsX11_doDeposit := goodIn_ca (goodIn_r _ [16, 17, 18, 19, 4, 20, 7, 21, 22, 23, 24, 25, 26, 27, 6, 28, 29, 30, 31, 32, 33, 34, 35, 42, 43, 44, 45, 46, 47, 48, 49, 50, 51, 52, 53, 54, 55, 56, 57, 58, 59, 60, 61] (by decide +kernel) (by decide +kernel)) (goodIn_sub (fun _ h => List.mem_cons_of_mem _ (List.mem_append_right _ h)) (by decide +kernel))
set_option maxRecDepth 20000 in
theorem gX11_deposit_X11_doDeposit : GoodIn wsX11_deposit (wsV RX11 167 RX11 yX11_doDeposit wsX11_doDeposit) := goodIn_app (goodIn_of _ (by decide +kernel)) ggX11_deposit_X11_doDeposit
set_option maxRecDepth 20000 in
theorem ggX11_deposit_X11_ends : GoodIn wsX11_deposit wsX11_ends := goodIn_r _ [39, 6, 8, 7, 9, 10, 11, 12, 40, 41, 42, 43, 44, 45, 46, 47, 48, 49, 50, 51, 52, 53, 54, 55, 56, 57, 58, 59, 60, 61] (by decide +kernel) (by decide +kernel)
set_option maxRecDepth 20000 in
theorem gX11_deposit_X11_ends : GoodIn wsX11_deposit (wsV RX11 80 RX11 yX11_ends wsX11_ends) := goodIn_app (goodIn_of _ (by decide +kernel)) ggX11_deposit_X11_ends
theorem dX11_deposit_0 : decode cX11_deposit 0 = .ok (.aload_n 0, 1) := by decide +kernel
theorem dX11_deposit_1 : decode cX11_deposit 1 = .ok (.invokevirtual 73, 3) := by decide +kernel
theorem dX11_deposit_4 : decode cX11_deposit 4 = .ok (.aload_n 0, 1) := by decide +kernel
theorem dX11_deposit_5 : decode cX11_deposit 5 = .ok (.aload_n 0, 1) := by decide +kernel
theorem dX11_deposit_6 : decode cX11_deposit 6 = .ok (.iload_n 1, 1) := by decide +kernel
theorem dX11_deposit_7 : decode cX11_deposit 7 = .ok (.iload_n 2, 1) := by decide +kernel
theorem dX11_deposit_8 : decode cX11_deposit 8 = .ok (.invokevirtual 167, 3) := by decide +kernel
theorem dX11_deposit_11 : decode cX11_deposit 11 = .ok (.invokevirtual 80, 3) := by decide +kernel
theorem dX11_deposit_14 : decode cX11_deposit 14 = .ok (.ireturn, 1) := by decide +kernel
theorem dX11_subscriberCount_0 : decode cX11_subscriberCount 0 = .ok (.aload_n 0, 1) := by decide +kernel
theorem dX11_subscriberCount_1 : decode cX11_subscriberCount 1 = .ok (.iconst 0, 1) := by decide +kernel
theorem dX11_subscriberCount_2 : decode cX11_subscriberCount 2 = .ok (.putfield 49, 3) := by decide +kernel
theorem dX11_subscriberCount_5 : decode cX11_subscriberCount 5 = .ok (.aload_n 0, 1) := by decide +kernel
theorem dX11_subscriberCount_6 : decode cX11_subscriberCount 6 = .ok (.getfield 9, 3) := by decide +kernel
theorem dX11_subscriberCount_9 : decode cX11_subscriberCount 9 = .ok (.iconst 1, 1) := by decide +kernel
theorem dX11_subscriberCount_10 : decode cX11_subscriberCount 10 = .ok (.iaload, 1) := by decide +kernel
theorem dX11_subscriberCount_11 : decode cX11_subscriberCount 11 = .ok (.ireturn, 1) := by decide +kernel
set_option maxRecDepth 20000 in
theorem ggX11_tells_X11_isSubscriber : GoodIn wsX11_tells wsX11_isSubscriber := goodIn_ca (goodIn_r _ [5, 6, 7, 8, 4, 9, 19, 20, 21, 22, 23, 24, 25, 26, 27, 28, 29, 30, 31, 32, 33, 34, 35, 36, 37, 38] (by decide +kernel) (by decide +kernel)) (goodIn_sub (fun _ h => List.mem_cons_of_mem _ (List.mem_append_right _ h)) (by decide +kernel))
set_option maxRecDepth 20000 in
theorem gX11_tells_X11_isSubscriber : GoodIn wsX11_tells (wsV RX11 156 RX11 yX11_isSubscriber wsX11_isSubscriber) := goodIn_app (goodIn_of _ (by decide +kernel)) ggX11_tells_X11_isSubscriber
set_option maxRecDepth 20000 in
theorem ggX11_tells_X11_isThere : GoodIn wsX11_tells wsX11_isThere := goodIn_r _ [13, 14, 19, 20, 21, 22, 23, 24, 25, 26, 27, 28, 29, 30, 31, 32, 33, 34, 35, 36, 37, 38] (by decide +kernel) (by decide +kernel)
set_option maxRecDepth 20000 in
theorem gX11_tells_X11_isThere : GoodIn wsX11_tells (wsV RX11 102 RX11 yX11_isThere wsX11_isThere) := goodIn_app (goodIn_of _ (by decide +kernel)) ggX11_tells_X11_isThere
set_option maxRecDepth 20000 in
theorem ggX11_tells_X11_of : GoodIn wsX11_tells wsX11_of := goodIn_ca (goodIn_r _ [18, 6, 19, 20, 21, 22, 23, 24, 25, 26, 27, 28, 29, 30, 31, 32, 33, 34, 35, 36, 37, 38] (by decide +kernel) (by decide +kernel)) (goodIn_sub (fun _ h => List.mem_cons_of_mem _ (List.mem_append_right _ h)) (by decide +kernel))
set_option maxRecDepth 20000 in
theorem gX11_tells_X11_of : GoodIn wsX11_tells (wsV RX11 141 RX11 yX11_of wsX11_of) := goodIn_app (goodIn_of _ (by decide +kernel)) ggX11_tells_X11_of
theorem dX11_tells_0 : decode cX11_tells 0 = .ok (.aload_n 0, 1) := by decide +kernel
theorem dX11_tells_1 : decode cX11_tells 1 = .ok (.aload_n 0, 1) := by decide +kernel
theorem dX11_tells_2 : decode cX11_tells 2 = .ok (.iload_n 1, 1) := by decide +kernel
theorem dX11_tells_3 : decode cX11_tells 3 = .ok (.invokevirtual 156, 3) := by decide +kernel
theorem dX11_tells_6 : decode cX11_tells 6 = .ok (.invokevirtual 102, 3) := by decide +kernel
theorem dX11_tells_9 : decode cX11_tells 9 = .ok (.ifCond .eq 12, 3) := by decide +kernel
theorem dX11_tells_12 : decode cX11_tells 12 = .ok (.aload_n 0, 1) := by decide +kernel
theorem dX11_tells_13 : decode cX11_tells 13 = .ok (.iload_n 1, 1) := by decide +kernel
theorem dX11_tells_14 : decode cX11_tells 14 = .ok (.iload_n 2, 1) := by decide +kernel
theorem dX11_tells_15 : decode cX11_tells 15 = .ok (.invokevirtual 141, 3) := by decide +kernel
theorem dX11_tells_18 : decode cX11_tells 18 = .ok (.goto 4, 3) := by decide +kernel
theorem dX11_tells_21 : decode cX11_tells 21 = .ok (.iconst 0, 1) := by decide +kernel
theorem dX11_tells_22 : decode cX11_tells 22 = .ok (.ireturn, 1) := by decide +kernel
set_option maxRecDepth 20000 in
theorem ggX11_startOf_X11_tells : GoodIn wsX11_startOf wsX11_tells := goodIn_ca (goodIn_r _ [5, 6, 7, 8, 4, 9, 10, 11, 12, 13, 14, 15, 16, 17, 18, 19, 20, 21, 22, 23, 24, 25, 26, 27, 28, 29, 30, 31, 32, 33, 34, 35, 36, 37, 38, 39, 40, 41, 42] (by decide +kernel) (by decide +kernel)) (goodIn_sub (fun _ h => List.mem_cons_of_mem _ (List.mem_append_right _ h)) (by decide +kernel))
set_option maxRecDepth 20000 in
theorem gX11_startOf_X11_tells : GoodIn wsX11_startOf (wsV RX11 170 RX11 yX11_tells wsX11_tells) := goodIn_app (goodIn_of _ (by decide +kernel)) ggX11_startOf_X11_tells
theorem dX11_startOf_0 : decode cX11_startOf 0 = .ok (.aload_n 0, 1) := by decide +kernel
theorem dX11_startOf_1 : decode cX11_startOf 1 = .ok (.iload_n 1, 1) := by decide +kernel
theorem dX11_startOf_2 : decode cX11_startOf 2 = .ok (.iconst 0, 1) := by decide +kernel
theorem dX11_startOf_3 : decode cX11_startOf 3 = .ok (.invokevirtual 170, 3) := by decide +kernel
theorem dX11_startOf_6 : decode cX11_startOf 6 = .ok (.ireturn, 1) := by decide +kernel
set_option maxRecDepth 20000 in
theorem ggX11_goalOf_X11_tells : GoodIn wsX11_goalOf wsX11_tells := goodIn_ca (goodIn_r _ [5, 6, 7, 8, 4, 9, 10, 11, 12, 13, 14, 15, 16, 17, 18, 19, 20, 21, 22, 23, 24, 25, 26, 27, 28, 29, 30, 31, 32, 33, 34, 35, 36, 37, 38, 39, 40, 41, 42] (by decide +kernel) (by decide +kernel)) (goodIn_sub (fun _ h => List.mem_cons_of_mem _ (List.mem_append_right _ h)) (by decide +kernel))
set_option maxRecDepth 20000 in
theorem gX11_goalOf_X11_tells : GoodIn wsX11_goalOf (wsV RX11 170 RX11 yX11_tells wsX11_tells) := goodIn_app (goodIn_of _ (by decide +kernel)) ggX11_goalOf_X11_tells
theorem dX11_goalOf_0 : decode cX11_goalOf 0 = .ok (.aload_n 0, 1) := by decide +kernel
theorem dX11_goalOf_1 : decode cX11_goalOf 1 = .ok (.iload_n 1, 1) := by decide +kernel
theorem dX11_goalOf_2 : decode cX11_goalOf 2 = .ok (.iconst 1, 1) := by decide +kernel
theorem dX11_goalOf_3 : decode cX11_goalOf 3 = .ok (.invokevirtual 170, 3) := by decide +kernel
theorem dX11_goalOf_6 : decode cX11_goalOf 6 = .ok (.ireturn, 1) := by decide +kernel
set_option maxRecDepth 20000 in
theorem ggX11_moneyOf_X11_tells : GoodIn wsX11_moneyOf wsX11_tells := goodIn_ca (goodIn_r _ [5, 6, 7, 8, 4, 9, 10, 11, 12, 13, 14, 15, 16, 17, 18, 19, 20, 21, 22, 23, 24, 25, 26, 27, 28, 29, 30, 31, 32, 33, 34, 35, 36, 37, 38, 39, 40, 41, 42] (by decide +kernel) (by decide +kernel)) (goodIn_sub (fun _ h => List.mem_cons_of_mem _ (List.mem_append_right _ h)) (by decide +kernel))
set_option maxRecDepth 20000 in
theorem gX11_moneyOf_X11_tells : GoodIn wsX11_moneyOf (wsV RX11 170 RX11 yX11_tells wsX11_tells) := goodIn_app (goodIn_of _ (by decide +kernel)) ggX11_moneyOf_X11_tells
theorem dX11_moneyOf_0 : decode cX11_moneyOf 0 = .ok (.aload_n 0, 1) := by decide +kernel
theorem dX11_moneyOf_1 : decode cX11_moneyOf 1 = .ok (.iload_n 1, 1) := by decide +kernel
theorem dX11_moneyOf_2 : decode cX11_moneyOf 2 = .ok (.iconst 2, 1) := by decide +kernel
theorem dX11_moneyOf_3 : decode cX11_moneyOf 3 = .ok (.invokevirtual 170, 3) := by decide +kernel
theorem dX11_moneyOf_6 : decode cX11_moneyOf 6 = .ok (.ireturn, 1) := by decide +kernel
set_option maxRecDepth 20000 in
theorem ggX11_litNightsOf_X11_tells : GoodIn wsX11_litNightsOf wsX11_tells := goodIn_ca (goodIn_r _ [5, 6, 7, 8, 4, 9, 10, 11, 12, 13, 14, 15, 16, 17, 18, 19, 20, 21, 22, 23, 24, 25, 26, 27, 28, 29, 30, 31, 32, 33, 34, 35, 36, 37, 38, 39, 40, 41, 42] (by decide +kernel) (by decide +kernel)) (goodIn_sub (fun _ h => List.mem_cons_of_mem _ (List.mem_append_right _ h)) (by decide +kernel))
set_option maxRecDepth 20000 in
theorem gX11_litNightsOf_X11_tells : GoodIn wsX11_litNightsOf (wsV RX11 170 RX11 yX11_tells wsX11_tells) := goodIn_app (goodIn_of _ (by decide +kernel)) ggX11_litNightsOf_X11_tells
theorem dX11_litNightsOf_0 : decode cX11_litNightsOf 0 = .ok (.aload_n 0, 1) := by decide +kernel
theorem dX11_litNightsOf_1 : decode cX11_litNightsOf 1 = .ok (.iload_n 1, 1) := by decide +kernel
theorem dX11_litNightsOf_2 : decode cX11_litNightsOf 2 = .ok (.iconst 3, 1) := by decide +kernel
theorem dX11_litNightsOf_3 : decode cX11_litNightsOf 3 = .ok (.invokevirtual 170, 3) := by decide +kernel
theorem dX11_litNightsOf_6 : decode cX11_litNightsOf 6 = .ok (.ireturn, 1) := by decide +kernel
set_option maxRecDepth 20000 in
theorem ggX11_darkNightsOf_X11_tells : GoodIn wsX11_darkNightsOf wsX11_tells := goodIn_ca (goodIn_r _ [5, 6, 7, 8, 4, 9, 10, 11, 12, 13, 14, 15, 16, 17, 18, 19, 20, 21, 22, 23, 24, 25, 26, 27, 28, 29, 30, 31, 32, 33, 34, 35, 36, 37, 38, 39, 40, 41, 42] (by decide +kernel) (by decide +kernel)) (goodIn_sub (fun _ h => List.mem_cons_of_mem _ (List.mem_append_right _ h)) (by decide +kernel))
set_option maxRecDepth 20000 in
theorem gX11_darkNightsOf_X11_tells : GoodIn wsX11_darkNightsOf (wsV RX11 170 RX11 yX11_tells wsX11_tells) := goodIn_app (goodIn_of _ (by decide +kernel)) ggX11_darkNightsOf_X11_tells
theorem dX11_darkNightsOf_0 : decode cX11_darkNightsOf 0 = .ok (.aload_n 0, 1) := by decide +kernel
theorem dX11_darkNightsOf_1 : decode cX11_darkNightsOf 1 = .ok (.iload_n 1, 1) := by decide +kernel
theorem dX11_darkNightsOf_2 : decode cX11_darkNightsOf 2 = .ok (.iconst 4, 1) := by decide +kernel
theorem dX11_darkNightsOf_3 : decode cX11_darkNightsOf 3 = .ok (.invokevirtual 170, 3) := by decide +kernel
theorem dX11_darkNightsOf_6 : decode cX11_darkNightsOf 6 = .ok (.ireturn, 1) := by decide +kernel
set_option maxRecDepth 20000 in
theorem ggX11_asksRoute_X11_findsNeeds : GoodIn wsX11_asksRoute wsX11_findsNeeds := goodIn_ca (goodIn_r _ [7, 8, 9, 10, 1, 11, 12, 13, 14, 6, 15, 16, 17, 18, 19, 20, 21, 22, 23, 24, 25, 26, 27, 28, 29, 30, 38, 39, 40, 41, 42, 43, 44, 45, 46, 47, 48, 49, 50, 51, 52, 53, 54, 55, 56, 57] (by decide +kernel) (by decide +kernel)) (goodIn_sub (fun _ h => List.mem_cons_of_mem _ (List.mem_append_right _ h)) (by decide +kernel))
set_option maxRecDepth 20000 in
theorem gX11_asksRoute_X11_findsNeeds : GoodIn wsX11_asksRoute (wsV RX11 147 RX11 yX11_findsNeeds wsX11_findsNeeds) := goodIn_app (goodIn_of _ (by decide +kernel)) ggX11_asksRoute_X11_findsNeeds
set_option maxRecDepth 20000 in
theorem ggX11_asksRoute_X11_isSubscriber : GoodIn wsX11_asksRoute wsX11_isSubscriber := goodIn_ca (goodIn_r _ [34, 8, 35, 36, 6, 37, 38, 39, 40, 41, 42, 43, 44, 45, 46, 47, 48, 49, 50, 51, 52, 53, 54, 55, 56, 57] (by decide +kernel) (by decide +kernel)) (goodIn_sub (fun _ h => List.mem_cons_of_mem _ (List.mem_append_right _ h)) (by decide +kernel))
set_option maxRecDepth 20000 in
theorem gX11_asksRoute_X11_isSubscriber : GoodIn wsX11_asksRoute (wsV RX11 156 RX11 yX11_isSubscriber wsX11_isSubscriber) := goodIn_app (goodIn_of _ (by decide +kernel)) ggX11_asksRoute_X11_isSubscriber
theorem dX11_asksRoute_0 : decode cX11_asksRoute 0 = .ok (.aload_n 0, 1) := by decide +kernel
theorem dX11_asksRoute_1 : decode cX11_asksRoute 1 = .ok (.invokevirtual 147, 3) := by decide +kernel
theorem dX11_asksRoute_4 : decode cX11_asksRoute 4 = .ok (.aload_n 0, 1) := by decide +kernel
theorem dX11_asksRoute_5 : decode cX11_asksRoute 5 = .ok (.aload_n 0, 1) := by decide +kernel
theorem dX11_asksRoute_6 : decode cX11_asksRoute 6 = .ok (.iload_n 1, 1) := by decide +kernel
theorem dX11_asksRoute_7 : decode cX11_asksRoute 7 = .ok (.invokevirtual 156, 3) := by decide +kernel
theorem dX11_asksRoute_10 : decode cX11_asksRoute 10 = .ok (.ifCond .ne 7, 3) := by decide +kernel
theorem dX11_asksRoute_13 : decode cX11_asksRoute 13 = .ok (.iconst 1, 1) := by decide +kernel
theorem dX11_asksRoute_14 : decode cX11_asksRoute 14 = .ok (.goto 17, 3) := by decide +kernel
theorem dX11_asksRoute_17 : decode cX11_asksRoute 17 = .ok (.aload_n 0, 1) := by decide +kernel
theorem dX11_asksRoute_18 : decode cX11_asksRoute 18 = .ok (.getfield 28, 3) := by decide +kernel
theorem dX11_asksRoute_21 : decode cX11_asksRoute 21 = .ok (.iload_n 1, 1) := by decide +kernel
theorem dX11_asksRoute_22 : decode cX11_asksRoute 22 = .ok (.baload, 1) := by decide +kernel
theorem dX11_asksRoute_23 : decode cX11_asksRoute 23 = .ok (.ifCond .ne 7, 3) := by decide +kernel
theorem dX11_asksRoute_26 : decode cX11_asksRoute 26 = .ok (.iconst 2, 1) := by decide +kernel
theorem dX11_asksRoute_27 : decode cX11_asksRoute 27 = .ok (.goto 4, 3) := by decide +kernel
theorem dX11_asksRoute_30 : decode cX11_asksRoute 30 = .ok (.iconst 0, 1) := by decide +kernel
theorem dX11_asksRoute_31 : decode cX11_asksRoute 31 = .ok (.putfield 49, 3) := by decide +kernel
theorem dX11_asksRoute_34 : decode cX11_asksRoute 34 = .ok (.aload_n 0, 1) := by decide +kernel
theorem dX11_asksRoute_35 : decode cX11_asksRoute 35 = .ok (.getfield 49, 3) := by decide +kernel
theorem dX11_asksRoute_38 : decode cX11_asksRoute 38 = .ok (.ifCond .ne 7, 3) := by decide +kernel
theorem dX11_asksRoute_41 : decode cX11_asksRoute 41 = .ok (.iconst 1, 1) := by decide +kernel
theorem dX11_asksRoute_42 : decode cX11_asksRoute 42 = .ok (.goto 4, 3) := by decide +kernel
theorem dX11_asksRoute_45 : decode cX11_asksRoute 45 = .ok (.iconst 0, 1) := by decide +kernel
theorem dX11_asksRoute_46 : decode cX11_asksRoute 46 = .ok (.ireturn, 1) := by decide +kernel
set_option maxRecDepth 20000 in
theorem ggX11_needOf_X11_asksRoute : GoodIn wsX11_needOf wsX11_asksRoute := goodIn_ca (goodIn_r _ [6, 7, 8, 9, 10, 11, 5, 12, 13, 1, 14, 15, 16, 17, 18, 19, 20, 21, 22, 23, 24, 25, 26, 27, 28, 29, 30, 31, 32, 33, 34, 35, 36, 37, 38, 39, 40, 41, 42, 43, 44, 45, 46, 47, 48, 49, 50, 51, 52, 53, 54, 55, 56, 57, 58, 59, 60, 61] (by decide +kernel) (by decide +kernel)) (goodIn_sub (fun _ h => List.mem_cons_of_mem _ (List.mem_append_right _ h)) (by decide +kernel))
set_option maxRecDepth 20000 in
theorem gX11_needOf_X11_asksRoute : GoodIn wsX11_needOf (wsV RX11 173 RX11 yX11_asksRoute wsX11_asksRoute) := goodIn_app (goodIn_of _ (by decide +kernel)) ggX11_needOf_X11_asksRoute
theorem dX11_needOf_0 : decode cX11_needOf 0 = .ok (.aload_n 0, 1) := by decide +kernel
theorem dX11_needOf_1 : decode cX11_needOf 1 = .ok (.iload_n 1, 1) := by decide +kernel
theorem dX11_needOf_2 : decode cX11_needOf 2 = .ok (.invokevirtual 173, 3) := by decide +kernel
theorem dX11_needOf_5 : decode cX11_needOf 5 = .ok (.ifCond .eq 12, 3) := by decide +kernel
theorem dX11_needOf_8 : decode cX11_needOf 8 = .ok (.aload_n 0, 1) := by decide +kernel
theorem dX11_needOf_9 : decode cX11_needOf 9 = .ok (.getfield 25, 3) := by decide +kernel
theorem dX11_needOf_12 : decode cX11_needOf 12 = .ok (.iload_n 1, 1) := by decide +kernel
theorem dX11_needOf_13 : decode cX11_needOf 13 = .ok (.iaload, 1) := by decide +kernel
theorem dX11_needOf_14 : decode cX11_needOf 14 = .ok (.goto 4, 3) := by decide +kernel
theorem dX11_needOf_17 : decode cX11_needOf 17 = .ok (.iconst 0, 1) := by decide +kernel
theorem dX11_needOf_18 : decode cX11_needOf 18 = .ok (.ireturn, 1) := by decide +kernel
set_option maxRecDepth 20000 in
theorem ggX11_shareOf_X11_asksRoute : GoodIn wsX11_shareOf wsX11_asksRoute := goodIn_ca (goodIn_r _ [5, 6, 7, 8, 9, 10, 4, 11, 12, 13, 14, 15, 16, 17, 18, 19, 20, 21, 22, 23, 24, 25, 26, 27, 28, 29, 30, 31, 32, 33, 34, 35, 36, 37, 38, 39, 40, 41, 49, 50, 51, 52, 53, 54, 55, 56, 57, 58, 59, 60, 61, 62, 63, 64, 65, 66, 67, 68] (by decide +kernel) (by decide +kernel)) (goodIn_sub (fun _ h => List.mem_cons_of_mem _ (List.mem_append_left _ (List.mem_append_right _ h))) (by decide +kernel))
set_option maxRecDepth 20000 in
theorem gX11_shareOf_X11_asksRoute : GoodIn wsX11_shareOf (wsV RX11 173 RX11 yX11_asksRoute wsX11_asksRoute) := goodIn_app (goodIn_of _ (by decide +kernel)) ggX11_shareOf_X11_asksRoute
set_option maxRecDepth 20000 in
theorem ggX11_shareOf_X11_share : GoodIn wsX11_shareOf wsX11_share := goodIn_ca (goodIn_ca (goodIn_r _ [45, 13, 12, 6, 46, 47, 4, 48, 49, 50, 51, 52, 53, 54, 55, 56, 57, 58, 59, 60, 61, 62, 63, 64, 65, 66, 67, 68] (by decide +kernel) (by decide +kernel)) (goodIn_sub (fun _ h => List.mem_cons_of_mem _ (List.mem_append_left _ (List.mem_append_right _ h))) (by decide +kernel))) (goodIn_sub (fun _ h => List.mem_cons_of_mem _ (List.mem_append_right _ h)) (by decide +kernel))
set_option maxRecDepth 20000 in
theorem gX11_shareOf_X11_share : GoodIn wsX11_shareOf (wsV RX11 150 RX11 yX11_share wsX11_share) := goodIn_app (goodIn_of _ (by decide +kernel)) ggX11_shareOf_X11_share
theorem dX11_shareOf_0 : decode cX11_shareOf 0 = .ok (.aload_n 0, 1) := by decide +kernel
theorem dX11_shareOf_1 : decode cX11_shareOf 1 = .ok (.iload_n 1, 1) := by decide +kernel
theorem dX11_shareOf_2 : decode cX11_shareOf 2 = .ok (.invokevirtual 173, 3) := by decide +kernel
theorem dX11_shareOf_5 : decode cX11_shareOf 5 = .ok (.ifCond .eq 11, 3) := by decide +kernel
theorem dX11_shareOf_8 : decode cX11_shareOf 8 = .ok (.aload_n 0, 1) := by decide +kernel
theorem dX11_shareOf_9 : decode cX11_shareOf 9 = .ok (.iload_n 1, 1) := by decide +kernel
theorem dX11_shareOf_10 : decode cX11_shareOf 10 = .ok (.invokevirtual 150, 3) := by decide +kernel
theorem dX11_shareOf_13 : decode cX11_shareOf 13 = .ok (.goto 4, 3) := by decide +kernel
theorem dX11_shareOf_16 : decode cX11_shareOf 16 = .ok (.iconst 0, 1) := by decide +kernel
theorem dX11_shareOf_17 : decode cX11_shareOf 17 = .ok (.ireturn, 1) := by decide +kernel
set_option maxRecDepth 20000 in
theorem ggX11_shareByOrders_X11_shareOf : GoodIn wsX11_shareByOrders wsX11_shareOf := goodIn_ca (goodIn_ca (goodIn_r _ [5, 6, 7, 8, 4, 9, 10, 11, 12, 13, 14, 15, 16, 17, 18, 19, 20, 21, 22, 23, 24, 25, 26, 27, 28, 29, 30, 31, 32, 33, 34, 35, 36, 37, 38, 39, 40, 41, 42, 43, 44, 45, 46, 47, 48, 49, 50, 51, 52, 53, 54, 55, 56, 57, 58, 59, 60, 61, 62, 63, 64, 65, 66, 67, 68, 69, 70, 71, 72] (by decide +kernel) (by decide +kernel)) (goodIn_sub (fun _ h => List.mem_cons_of_mem _ (List.mem_append_left _ (List.mem_append_right _ h))) (by decide +kernel))) (goodIn_sub (fun _ h => List.mem_cons_of_mem _ (List.mem_append_right _ h)) (by decide +kernel))
set_option maxRecDepth 20000 in
theorem gX11_shareByOrders_X11_shareOf : GoodIn wsX11_shareByOrders (wsV RX11 176 RX11 yX11_shareOf wsX11_shareOf) := goodIn_app (goodIn_of _ (by decide +kernel)) ggX11_shareByOrders_X11_shareOf
theorem dX11_shareByOrders_0 : decode cX11_shareByOrders 0 = .ok (.aload_n 0, 1) := by decide +kernel
theorem dX11_shareByOrders_1 : decode cX11_shareByOrders 1 = .ok (.iload_n 1, 1) := by decide +kernel
theorem dX11_shareByOrders_2 : decode cX11_shareByOrders 2 = .ok (.invokevirtual 176, 3) := by decide +kernel
theorem dX11_shareByOrders_5 : decode cX11_shareByOrders 5 = .ok (.ireturn, 1) := by decide +kernel
set_option maxRecDepth 20000 in
theorem ggX11_subscriberByDark_X11_isSubscriber : GoodIn wsX11_subscriberByDark wsX11_isSubscriber := goodIn_ca (goodIn_r _ [6, 1, 7, 8, 5, 9, 19, 20, 21, 22, 23, 24, 25, 26, 27, 28, 29, 30, 31, 32, 33, 34, 35, 36, 37, 38] (by decide +kernel) (by decide +kernel)) (goodIn_sub (fun _ h => List.mem_cons_of_mem _ (List.mem_append_right _ h)) (by decide +kernel))
set_option maxRecDepth 20000 in
theorem gX11_subscriberByDark_X11_isSubscriber : GoodIn wsX11_subscriberByDark (wsV RX11 156 RX11 yX11_isSubscriber wsX11_isSubscriber) := goodIn_app (goodIn_of _ (by decide +kernel)) ggX11_subscriberByDark_X11_isSubscriber
set_option maxRecDepth 20000 in
theorem ggX11_subscriberByDark_X11_isThere : GoodIn wsX11_subscriberByDark wsX11_isThere := goodIn_r _ [13, 14, 19, 20, 21, 22, 23, 24, 25, 26, 27, 28, 29, 30, 31, 32, 33, 34, 35, 36, 37, 38] (by decide +kernel) (by decide +kernel)
set_option maxRecDepth 20000 in
theorem gX11_subscriberByDark_X11_isThere : GoodIn wsX11_subscriberByDark (wsV RX11 102 RX11 yX11_isThere wsX11_isThere) := goodIn_app (goodIn_of _ (by decide +kernel)) ggX11_subscriberByDark_X11_isThere
set_option maxRecDepth 20000 in
theorem ggX11_subscriberByDark_X11_of : GoodIn wsX11_subscriberByDark wsX11_of := goodIn_ca (goodIn_r _ [18, 1, 19, 20, 21, 22, 23, 24, 25, 26, 27, 28, 29, 30, 31, 32, 33, 34, 35, 36, 37, 38] (by decide +kernel) (by decide +kernel)) (goodIn_sub (fun _ h => List.mem_cons_of_mem _ (List.mem_append_right _ h)) (by decide +kernel))
set_option maxRecDepth 20000 in
theorem gX11_subscriberByDark_X11_of : GoodIn wsX11_subscriberByDark (wsV RX11 141 RX11 yX11_of wsX11_of) := goodIn_app (goodIn_of _ (by decide +kernel)) ggX11_subscriberByDark_X11_of
theorem dX11_subscriberByDark_0 : decode cX11_subscriberByDark 0 = .ok (.iconst 0, 1) := by decide +kernel
theorem dX11_subscriberByDark_1 : decode cX11_subscriberByDark 1 = .ok (.istore_n 2, 1) := by decide +kernel
theorem dX11_subscriberByDark_2 : decode cX11_subscriberByDark 2 = .ok (.aload_n 0, 1) := by decide +kernel
theorem dX11_subscriberByDark_3 : decode cX11_subscriberByDark 3 = .ok (.aload_n 0, 1) := by decide +kernel
theorem dX11_subscriberByDark_4 : decode cX11_subscriberByDark 4 = .ok (.iload_n 1, 1) := by decide +kernel
theorem dX11_subscriberByDark_5 : decode cX11_subscriberByDark 5 = .ok (.invokevirtual 156, 3) := by decide +kernel
theorem dX11_subscriberByDark_8 : decode cX11_subscriberByDark 8 = .ok (.invokevirtual 102, 3) := by decide +kernel
theorem dX11_subscriberByDark_11 : decode cX11_subscriberByDark 11 = .ok (.istore_n 3, 1) := by decide +kernel
theorem dX11_subscriberByDark_12 : decode cX11_subscriberByDark 12 = .ok (.iconst 0, 1) := by decide +kernel
theorem dX11_subscriberByDark_13 : decode cX11_subscriberByDark 13 = .ok (.istore 4, 2) := by decide +kernel
theorem dX11_subscriberByDark_15 : decode cX11_subscriberByDark 15 = .ok (.iload 4, 2) := by decide +kernel
theorem dX11_subscriberByDark_17 : decode cX11_subscriberByDark 17 = .ok (.aload_n 0, 1) := by decide +kernel
theorem dX11_subscriberByDark_18 : decode cX11_subscriberByDark 18 = .ok (.getfield 9, 3) := by decide +kernel
theorem dX11_subscriberByDark_21 : decode cX11_subscriberByDark 21 = .ok (.iconst 1, 1) := by decide +kernel
theorem dX11_subscriberByDark_22 : decode cX11_subscriberByDark 22 = .ok (.iaload, 1) := by decide +kernel
theorem dX11_subscriberByDark_23 : decode cX11_subscriberByDark 23 = .ok (.if_icmp .ge 93, 3) := by decide +kernel
theorem dX11_subscriberByDark_26 : decode cX11_subscriberByDark 26 = .ok (.iload_n 3, 1) := by decide +kernel
theorem dX11_subscriberByDark_27 : decode cX11_subscriberByDark 27 = .ok (.ifCond .eq 89, 3) := by decide +kernel
theorem dX11_subscriberByDark_30 : decode cX11_subscriberByDark 30 = .ok (.iconst 0, 1) := by decide +kernel
theorem dX11_subscriberByDark_31 : decode cX11_subscriberByDark 31 = .ok (.istore 5, 2) := by decide +kernel
theorem dX11_subscriberByDark_33 : decode cX11_subscriberByDark 33 = .ok (.iconst 0, 1) := by decide +kernel
theorem dX11_subscriberByDark_34 : decode cX11_subscriberByDark 34 = .ok (.istore 6, 2) := by decide +kernel
theorem dX11_subscriberByDark_36 : decode cX11_subscriberByDark 36 = .ok (.iload 6, 2) := by decide +kernel
theorem dX11_subscriberByDark_38 : decode cX11_subscriberByDark 38 = .ok (.aload_n 0, 1) := by decide +kernel
theorem dX11_subscriberByDark_39 : decode cX11_subscriberByDark 39 = .ok (.getfield 9, 3) := by decide +kernel
theorem dX11_subscriberByDark_42 : decode cX11_subscriberByDark 42 = .ok (.iconst 1, 1) := by decide +kernel
theorem dX11_subscriberByDark_43 : decode cX11_subscriberByDark 43 = .ok (.iaload, 1) := by decide +kernel
theorem dX11_subscriberByDark_44 : decode cX11_subscriberByDark 44 = .ok (.if_icmp .ge 53, 3) := by decide +kernel
theorem dX11_subscriberByDark_47 : decode cX11_subscriberByDark 47 = .ok (.aload_n 0, 1) := by decide +kernel
theorem dX11_subscriberByDark_48 : decode cX11_subscriberByDark 48 = .ok (.iload 6, 2) := by decide +kernel
theorem dX11_subscriberByDark_50 : decode cX11_subscriberByDark 50 = .ok (.iconst 4, 1) := by decide +kernel
theorem dX11_subscriberByDark_51 : decode cX11_subscriberByDark 51 = .ok (.invokevirtual 141, 3) := by decide +kernel
theorem dX11_subscriberByDark_54 : decode cX11_subscriberByDark 54 = .ok (.aload_n 0, 1) := by decide +kernel
theorem dX11_subscriberByDark_55 : decode cX11_subscriberByDark 55 = .ok (.iload 4, 2) := by decide +kernel
theorem dX11_subscriberByDark_57 : decode cX11_subscriberByDark 57 = .ok (.iconst 4, 1) := by decide +kernel
theorem dX11_subscriberByDark_58 : decode cX11_subscriberByDark 58 = .ok (.invokevirtual 141, 3) := by decide +kernel
theorem dX11_subscriberByDark_61 : decode cX11_subscriberByDark 61 = .ok (.isub, 1) := by decide +kernel
theorem dX11_subscriberByDark_62 : decode cX11_subscriberByDark 62 = .ok (.istore 7, 2) := by decide +kernel
theorem dX11_subscriberByDark_64 : decode cX11_subscriberByDark 64 = .ok (.iload 5, 2) := by decide +kernel
theorem dX11_subscriberByDark_66 : decode cX11_subscriberByDark 66 = .ok (.iload 7, 2) := by decide +kernel
theorem dX11_subscriberByDark_68 : decode cX11_subscriberByDark 68 = .ok (.ifCond .gt 15, 3) := by decide +kernel
theorem dX11_subscriberByDark_71 : decode cX11_subscriberByDark 71 = .ok (.iload 7, 2) := by decide +kernel
theorem dX11_subscriberByDark_73 : decode cX11_subscriberByDark 73 = .ok (.ifCond .ne 14, 3) := by decide +kernel
theorem dX11_subscriberByDark_76 : decode cX11_subscriberByDark 76 = .ok (.iload 6, 2) := by decide +kernel
theorem dX11_subscriberByDark_78 : decode cX11_subscriberByDark 78 = .ok (.iload 4, 2) := by decide +kernel
theorem dX11_subscriberByDark_80 : decode cX11_subscriberByDark 80 = .ok (.if_icmp .ge 7, 3) := by decide +kernel
theorem dX11_subscriberByDark_83 : decode cX11_subscriberByDark 83 = .ok (.iconst 1, 1) := by decide +kernel
theorem dX11_subscriberByDark_84 : decode cX11_subscriberByDark 84 = .ok (.goto 4, 3) := by decide +kernel
theorem dX11_subscriberByDark_87 : decode cX11_subscriberByDark 87 = .ok (.iconst 0, 1) := by decide +kernel
theorem dX11_subscriberByDark_88 : decode cX11_subscriberByDark 88 = .ok (.iadd, 1) := by decide +kernel
theorem dX11_subscriberByDark_89 : decode cX11_subscriberByDark 89 = .ok (.istore 5, 2) := by decide +kernel
theorem dX11_subscriberByDark_91 : decode cX11_subscriberByDark 91 = .ok (.iinc 6 1, 3) := by decide +kernel
theorem dX11_subscriberByDark_94 : decode cX11_subscriberByDark 94 = .ok (.goto (-58), 3) := by decide +kernel
theorem dX11_subscriberByDark_97 : decode cX11_subscriberByDark 97 = .ok (.iload 5, 2) := by decide +kernel
theorem dX11_subscriberByDark_99 : decode cX11_subscriberByDark 99 = .ok (.iload_n 1, 1) := by decide +kernel
theorem dX11_subscriberByDark_100 : decode cX11_subscriberByDark 100 = .ok (.if_icmp .ne 8, 3) := by decide +kernel
theorem dX11_subscriberByDark_103 : decode cX11_subscriberByDark 103 = .ok (.iload 4, 2) := by decide +kernel
theorem dX11_subscriberByDark_105 : decode cX11_subscriberByDark 105 = .ok (.goto 4, 3) := by decide +kernel
theorem dX11_subscriberByDark_108 : decode cX11_subscriberByDark 108 = .ok (.iload_n 2, 1) := by decide +kernel
theorem dX11_subscriberByDark_109 : decode cX11_subscriberByDark 109 = .ok (.istore_n 2, 1) := by decide +kernel
theorem dX11_subscriberByDark_110 : decode cX11_subscriberByDark 110 = .ok (.iinc 4 1, 3) := by decide +kernel
theorem dX11_subscriberByDark_113 : decode cX11_subscriberByDark 113 = .ok (.goto (-98), 3) := by decide +kernel
theorem dX11_subscriberByDark_116 : decode cX11_subscriberByDark 116 = .ok (.iload_n 2, 1) := by decide +kernel
theorem dX11_subscriberByDark_117 : decode cX11_subscriberByDark 117 = .ok (.ireturn, 1) := by decide +kernel
set_option maxRecDepth 20000 in
theorem ggX11_doSetFog_X11_in : GoodIn wsX11_doSetFog wsX11_in := goodIn_r _ [5] (by decide +kernel) (by decide +kernel)
set_option maxRecDepth 20000 in
theorem gX11_doSetFog_X11_in : GoodIn wsX11_doSetFog (va_wsS RX11 61 yX11_in wsX11_in) := goodIn_app (goodIn_of _ (by decide +kernel)) ggX11_doSetFog_X11_in
set_option maxRecDepth 20000 in
theorem ggX11_doSetFog_X11_fails : GoodIn wsX11_doSetFog wsX11_fails := goodIn_r _ [9, 10, 11, 12, 13, 14, 15, 16, 17, 18, 19, 20, 21, 22, 23, 24, 25, 26, 27, 28, 29, 30] (by decide +kernel) (by decide +kernel)
set_option maxRecDepth 20000 in
theorem gX11_doSetFog_X11_fails : GoodIn wsX11_doSetFog (wsV RX11 69 RX11 yX11_fails wsX11_fails) := goodIn_app (goodIn_of _ (by decide +kernel)) ggX11_doSetFog_X11_fails
theorem dX11_doSetFog_0 : decode cX11_doSetFog 0 = .ok (.iload_n 1, 1) := by decide +kernel
theorem dX11_doSetFog_1 : decode cX11_doSetFog 1 = .ok (.iconst 0, 1) := by decide +kernel
theorem dX11_doSetFog_2 : decode cX11_doSetFog 2 = .ok (.bipush 9, 2) := by decide +kernel
theorem dX11_doSetFog_4 : decode cX11_doSetFog 4 = .ok (.invokestatic 61, 3) := by decide +kernel
theorem dX11_doSetFog_7 : decode cX11_doSetFog 7 = .ok (.ifCond .ne 9, 3) := by decide +kernel
theorem dX11_doSetFog_10 : decode cX11_doSetFog 10 = .ok (.aload_n 0, 1) := by decide +kernel
