/-! ===== the law's names, 1 ===== -/
theorem dL_distance_16 : decode cL_distance 16 = .ok (.ireturn, 1) := by decide +kernel
theorem dL_distance_17 : decode cL_distance 17 = .ok (.astore 4, 2) := by decide +kernel
theorem dL_distance_19 : decode cL_distance 19 = .ok (.iconst 2, 1) := by decide +kernel
theorem dL_distance_20 : decode cL_distance 20 = .ok (.ireturn, 1) := by decide +kernel
theorem dL_distance_21 : decode cL_distance 21 = .ok (.iconst 0, 1) := by decide +kernel
theorem dL_distance_22 : decode cL_distance 22 = .ok (.ireturn, 1) := by decide +kernel
set_option maxRecDepth 20000 in
theorem ggL_distanceByRounds_X10_distanceByRounds : GoodIn wsL_distanceByRounds wsX10_distanceByRounds := goodIn_ca (goodIn_ca (goodIn_ca (goodIn_r _ [6, 7, 8, 9, 10, 11, 12, 13, 5, 14, 15, 16, 17, 18, 19, 20, 21, 22, 23, 24, 25, 26, 27, 28, 29, 30, 31, 32, 33, 34, 35, 36, 37, 38, 39, 40, 41, 42, 43, 44, 45, 46, 47, 48, 49, 50, 51, 52, 53, 54, 55, 56, 57, 58, 59, 60, 61, 62, 63, 64, 65, 66, 67, 68, 69, 70, 71, 72, 73, 74, 75, 76] (by decide +kernel) (by decide +kernel)) (goodIn_sub (fun _ h => List.mem_cons_of_mem _ (List.mem_append_left _ (List.mem_append_right _ h))) (by decide +kernel))) (goodIn_sub (fun _ h => List.mem_cons_of_mem _ (List.mem_append_left _ (List.mem_append_left _ (List.mem_append_right _ h)))) (by decide +kernel))) (goodIn_sub (fun _ h => List.mem_cons_of_mem _ (List.mem_append_right _ h)) (by decide +kernel))
set_option maxRecDepth 20000 in
theorem gL_distanceByRounds_X10_distanceByRounds : GoodIn wsL_distanceByRounds (wsV RL 55 RX10 yX10_distanceByRounds wsX10_distanceByRounds) := goodIn_app (goodIn_of _ (by decide +kernel)) ggL_distanceByRounds_X10_distanceByRounds
theorem dL_distanceByRounds_0 : decode cL_distanceByRounds 0 = .ok (.aload_n 3, 1) := by decide +kernel
theorem dL_distanceByRounds_1 : decode cL_distanceByRounds 1 = .ok (.iconst 0, 1) := by decide +kernel
theorem dL_distanceByRounds_2 : decode cL_distanceByRounds 2 = .ok (.aload_n 0, 1) := by decide +kernel
theorem dL_distanceByRounds_3 : decode cL_distanceByRounds 3 = .ok (.iload_n 1, 1) := by decide +kernel
theorem dL_distanceByRounds_4 : decode cL_distanceByRounds 4 = .ok (.iload_n 2, 1) := by decide +kernel
theorem dL_distanceByRounds_5 : decode cL_distanceByRounds 5 = .ok (.invokevirtual 55, 3) := by decide +kernel
theorem dL_distanceByRounds_8 : decode cL_distanceByRounds 8 = .ok (.i2l, 1) := by decide +kernel
theorem dL_distanceByRounds_9 : decode cL_distanceByRounds 9 = .ok (.lastore, 1) := by decide +kernel
theorem dL_distanceByRounds_10 : decode cL_distanceByRounds 10 = .ok (.goto 11, 3) := by decide +kernel
theorem dL_distanceByRounds_13 : decode cL_distanceByRounds 13 = .ok (.astore 4, 2) := by decide +kernel
theorem dL_distanceByRounds_15 : decode cL_distanceByRounds 15 = .ok (.iconst 1, 1) := by decide +kernel
theorem dL_distanceByRounds_16 : decode cL_distanceByRounds 16 = .ok (.ireturn, 1) := by decide +kernel
theorem dL_distanceByRounds_17 : decode cL_distanceByRounds 17 = .ok (.astore 4, 2) := by decide +kernel
theorem dL_distanceByRounds_19 : decode cL_distanceByRounds 19 = .ok (.iconst 2, 1) := by decide +kernel
theorem dL_distanceByRounds_20 : decode cL_distanceByRounds 20 = .ok (.ireturn, 1) := by decide +kernel
theorem dL_distanceByRounds_21 : decode cL_distanceByRounds 21 = .ok (.iconst 0, 1) := by decide +kernel
theorem dL_distanceByRounds_22 : decode cL_distanceByRounds 22 = .ok (.ireturn, 1) := by decide +kernel
set_option maxRecDepth 20000 in
theorem ggL_litDistance_X10_litDistance : GoodIn wsL_litDistance wsX10_litDistance := goodIn_ca (goodIn_ca (goodIn_ca (goodIn_r _ [6, 7, 8, 9, 10, 11, 12, 13, 14, 5, 15, 16, 17, 18, 19, 20, 21, 22, 23, 24, 25, 26, 27, 28, 29, 30, 31, 32, 33, 34, 35, 36, 37, 38, 39, 40, 41, 42, 43, 44, 45, 46, 47, 48, 49, 50, 51, 52, 53, 54, 55, 56, 57, 58, 59, 60, 61, 62, 63, 64, 65, 66, 67, 68, 69, 70, 71, 72, 73, 74, 75, 76, 77, 78, 79, 80, 81, 82, 83, 84, 85, 86, 87] (by decide +kernel) (by decide +kernel)) (goodIn_sub (fun _ h => List.mem_cons_of_mem _ (List.mem_append_left _ (List.mem_append_right _ h))) (by decide +kernel))) (goodIn_sub (fun _ h => List.mem_cons_of_mem _ (List.mem_append_left _ (List.mem_append_left _ (List.mem_append_right _ h)))) (by decide +kernel))) (goodIn_sub (fun _ h => List.mem_cons_of_mem _ (List.mem_append_right _ h)) (by decide +kernel))
set_option maxRecDepth 20000 in
theorem gL_litDistance_X10_litDistance : GoodIn wsL_litDistance (wsV RL 58 RX10 yX10_litDistance wsX10_litDistance) := goodIn_app (goodIn_of _ (by decide +kernel)) ggL_litDistance_X10_litDistance
theorem dL_litDistance_0 : decode cL_litDistance 0 = .ok (.aload_n 3, 1) := by decide +kernel
theorem dL_litDistance_1 : decode cL_litDistance 1 = .ok (.iconst 0, 1) := by decide +kernel
theorem dL_litDistance_2 : decode cL_litDistance 2 = .ok (.aload_n 0, 1) := by decide +kernel
theorem dL_litDistance_3 : decode cL_litDistance 3 = .ok (.iload_n 1, 1) := by decide +kernel
theorem dL_litDistance_4 : decode cL_litDistance 4 = .ok (.iload_n 2, 1) := by decide +kernel
theorem dL_litDistance_5 : decode cL_litDistance 5 = .ok (.invokevirtual 58, 3) := by decide +kernel
theorem dL_litDistance_8 : decode cL_litDistance 8 = .ok (.i2l, 1) := by decide +kernel
theorem dL_litDistance_9 : decode cL_litDistance 9 = .ok (.lastore, 1) := by decide +kernel
theorem dL_litDistance_10 : decode cL_litDistance 10 = .ok (.goto 11, 3) := by decide +kernel
theorem dL_litDistance_13 : decode cL_litDistance 13 = .ok (.astore 4, 2) := by decide +kernel
theorem dL_litDistance_15 : decode cL_litDistance 15 = .ok (.iconst 1, 1) := by decide +kernel
theorem dL_litDistance_16 : decode cL_litDistance 16 = .ok (.ireturn, 1) := by decide +kernel
theorem dL_litDistance_17 : decode cL_litDistance 17 = .ok (.astore 4, 2) := by decide +kernel
theorem dL_litDistance_19 : decode cL_litDistance 19 = .ok (.iconst 2, 1) := by decide +kernel
theorem dL_litDistance_20 : decode cL_litDistance 20 = .ok (.ireturn, 1) := by decide +kernel
theorem dL_litDistance_21 : decode cL_litDistance 21 = .ok (.iconst 0, 1) := by decide +kernel
theorem dL_litDistance_22 : decode cL_litDistance 22 = .ok (.ireturn, 1) := by decide +kernel
set_option maxRecDepth 20000 in
theorem ggL_neededRange_X10_neededRange : GoodIn wsL_neededRange wsX10_neededRange := goodIn_ca (goodIn_ca (goodIn_ca (goodIn_ca (goodIn_r _ [6, 7, 8, 9, 10, 11, 12, 13, 5, 14, 15, 16, 17, 18, 19, 20, 21, 22, 23, 24, 25, 26, 27, 28, 29, 30, 31, 32, 33, 34, 35, 36, 37, 38, 39, 40, 41, 42, 43, 44, 45, 46, 47, 48, 49, 50, 51, 52, 53, 54, 55, 56, 57, 58, 59, 60, 61, 62, 63, 64, 65, 66, 67, 68, 69, 70, 71, 72, 73, 74, 75, 76, 77, 78, 79, 80, 81] (by decide +kernel) (by decide +kernel)) (goodIn_sub (fun _ h => List.mem_cons_of_mem _ (List.mem_append_left _ (List.mem_append_left _ (List.mem_append_right _ h)))) (by decide +kernel))) (goodIn_sub (fun _ h => List.mem_cons_of_mem _ (List.mem_append_left _ (List.mem_append_right _ h))) (by decide +kernel))) (goodIn_sub (fun _ h => List.mem_cons_of_mem _ (List.mem_append_left _ (List.mem_append_left _ (List.mem_append_left _ (List.mem_append_right _ h))))) (by decide +kernel))) (goodIn_sub (fun _ h => List.mem_cons_of_mem _ (List.mem_append_right _ h)) (by decide +kernel))
set_option maxRecDepth 20000 in
theorem gL_neededRange_X10_neededRange : GoodIn wsL_neededRange (wsV RL 61 RX10 yX10_neededRange wsX10_neededRange) := goodIn_app (goodIn_of _ (by decide +kernel)) ggL_neededRange_X10_neededRange
theorem dL_neededRange_0 : decode cL_neededRange 0 = .ok (.aload_n 3, 1) := by decide +kernel
theorem dL_neededRange_1 : decode cL_neededRange 1 = .ok (.iconst 0, 1) := by decide +kernel
theorem dL_neededRange_2 : decode cL_neededRange 2 = .ok (.aload_n 0, 1) := by decide +kernel
theorem dL_neededRange_3 : decode cL_neededRange 3 = .ok (.iload_n 1, 1) := by decide +kernel
theorem dL_neededRange_4 : decode cL_neededRange 4 = .ok (.iload_n 2, 1) := by decide +kernel
theorem dL_neededRange_5 : decode cL_neededRange 5 = .ok (.invokevirtual 61, 3) := by decide +kernel
theorem dL_neededRange_8 : decode cL_neededRange 8 = .ok (.i2l, 1) := by decide +kernel
theorem dL_neededRange_9 : decode cL_neededRange 9 = .ok (.lastore, 1) := by decide +kernel
theorem dL_neededRange_10 : decode cL_neededRange 10 = .ok (.goto 15, 3) := by decide +kernel
theorem dL_neededRange_13 : decode cL_neededRange 13 = .ok (.astore 4, 2) := by decide +kernel
theorem dL_neededRange_15 : decode cL_neededRange 15 = .ok (.iconst 1, 1) := by decide +kernel
theorem dL_neededRange_16 : decode cL_neededRange 16 = .ok (.ireturn, 1) := by decide +kernel
theorem dL_neededRange_17 : decode cL_neededRange 17 = .ok (.astore 4, 2) := by decide +kernel
theorem dL_neededRange_19 : decode cL_neededRange 19 = .ok (.iconst 2, 1) := by decide +kernel
theorem dL_neededRange_20 : decode cL_neededRange 20 = .ok (.ireturn, 1) := by decide +kernel
theorem dL_neededRange_21 : decode cL_neededRange 21 = .ok (.astore 4, 2) := by decide +kernel
theorem dL_neededRange_23 : decode cL_neededRange 23 = .ok (.iconst 3, 1) := by decide +kernel
theorem dL_neededRange_24 : decode cL_neededRange 24 = .ok (.ireturn, 1) := by decide +kernel
theorem dL_neededRange_25 : decode cL_neededRange 25 = .ok (.iconst 0, 1) := by decide +kernel
theorem dL_neededRange_26 : decode cL_neededRange 26 = .ok (.ireturn, 1) := by decide +kernel
set_option maxRecDepth 20000 in
theorem ggL_neededRangeByTrial_X10_neededRangeByTrial : GoodIn wsL_neededRangeByTrial wsX10_neededRangeByTrial := goodIn_ca (goodIn_ca (goodIn_ca (goodIn_ca (goodIn_r _ [6, 7, 8, 9, 10, 11, 12, 13, 5, 14, 15, 16, 17, 18, 19, 20, 21, 22, 23, 24, 25, 26, 27, 28, 29, 30, 31, 32, 33, 34, 35, 36, 37, 38, 39, 40, 41, 42, 43, 44, 45, 46, 47, 48, 49, 50, 51, 52, 53, 54, 55, 56, 57, 58, 59, 60, 61, 62, 63, 64, 65, 66, 67, 68, 69, 70, 71, 72, 73, 74, 75, 76, 77] (by decide +kernel) (by decide +kernel)) (goodIn_sub (fun _ h => List.mem_cons_of_mem _ (List.mem_append_left _ (List.mem_append_left _ (List.mem_append_right _ h)))) (by decide +kernel))) (goodIn_sub (fun _ h => List.mem_cons_of_mem _ (List.mem_append_left _ (List.mem_append_right _ h))) (by decide +kernel))) (goodIn_sub (fun _ h => List.mem_cons_of_mem _ (List.mem_append_left _ (List.mem_append_left _ (List.mem_append_left _ (List.mem_append_right _ h))))) (by decide +kernel))) (goodIn_sub (fun _ h => List.mem_cons_of_mem _ (List.mem_append_right _ h)) (by decide +kernel))
set_option maxRecDepth 20000 in
theorem gL_neededRangeByTrial_X10_neededRangeByTrial : GoodIn wsL_neededRangeByTrial (wsV RL 64 RX10 yX10_neededRangeByTrial wsX10_neededRangeByTrial) := goodIn_app (goodIn_of _ (by decide +kernel)) ggL_neededRangeByTrial_X10_neededRangeByTrial
theorem dL_neededRangeByTrial_0 : decode cL_neededRangeByTrial 0 = .ok (.aload_n 3, 1) := by decide +kernel
theorem dL_neededRangeByTrial_1 : decode cL_neededRangeByTrial 1 = .ok (.iconst 0, 1) := by decide +kernel
theorem dL_neededRangeByTrial_2 : decode cL_neededRangeByTrial 2 = .ok (.aload_n 0, 1) := by decide +kernel
theorem dL_neededRangeByTrial_3 : decode cL_neededRangeByTrial 3 = .ok (.iload_n 1, 1) := by decide +kernel
theorem dL_neededRangeByTrial_4 : decode cL_neededRangeByTrial 4 = .ok (.iload_n 2, 1) := by decide +kernel
theorem dL_neededRangeByTrial_5 : decode cL_neededRangeByTrial 5 = .ok (.invokevirtual 64, 3) := by decide +kernel
theorem dL_neededRangeByTrial_8 : decode cL_neededRangeByTrial 8 = .ok (.i2l, 1) := by decide +kernel
theorem dL_neededRangeByTrial_9 : decode cL_neededRangeByTrial 9 = .ok (.lastore, 1) := by decide +kernel
theorem dL_neededRangeByTrial_10 : decode cL_neededRangeByTrial 10 = .ok (.goto 15, 3) := by decide +kernel
theorem dL_neededRangeByTrial_13 : decode cL_neededRangeByTrial 13 = .ok (.astore 4, 2) := by decide +kernel
theorem dL_neededRangeByTrial_15 : decode cL_neededRangeByTrial 15 = .ok (.iconst 1, 1) := by decide +kernel
theorem dL_neededRangeByTrial_16 : decode cL_neededRangeByTrial 16 = .ok (.ireturn, 1) := by decide +kernel
theorem dL_neededRangeByTrial_17 : decode cL_neededRangeByTrial 17 = .ok (.astore 4, 2) := by decide +kernel
theorem dL_neededRangeByTrial_19 : decode cL_neededRangeByTrial 19 = .ok (.iconst 2, 1) := by decide +kernel
theorem dL_neededRangeByTrial_20 : decode cL_neededRangeByTrial 20 = .ok (.ireturn, 1) := by decide +kernel
theorem dL_neededRangeByTrial_21 : decode cL_neededRangeByTrial 21 = .ok (.astore 4, 2) := by decide +kernel
theorem dL_neededRangeByTrial_23 : decode cL_neededRangeByTrial 23 = .ok (.iconst 3, 1) := by decide +kernel
theorem dL_neededRangeByTrial_24 : decode cL_neededRangeByTrial 24 = .ok (.ireturn, 1) := by decide +kernel
theorem dL_neededRangeByTrial_25 : decode cL_neededRangeByTrial 25 = .ok (.iconst 0, 1) := by decide +kernel
theorem dL_neededRangeByTrial_26 : decode cL_neededRangeByTrial 26 = .ok (.ireturn, 1) := by decide +kernel
set_option maxRecDepth 20000 in
theorem ggL_subscribe_X10_subscribe : GoodIn wsL_subscribe wsX10_subscribe := goodIn_ca (goodIn_ca (goodIn_ca (goodIn_ca (goodIn_ca (goodIn_ca (goodIn_r _ [6, 7, 8, 9, 10, 11, 12, 13, 14, 15, 16, 17, 18, 19, 20, 21, 22, 23, 24, 25, 26, 27, 28, 29, 30, 31, 32, 33, 34, 35, 36, 37, 38, 39, 40, 41, 42, 43, 44, 45, 5, 46, 47, 48, 49, 50, 51, 52, 53, 54, 55, 56, 57, 58, 59, 60, 61, 62, 63, 64, 65, 66, 67, 68, 69, 70, 71, 72, 73, 74, 75, 76, 77, 78, 79, 80, 81, 82, 83, 84, 85, 86, 87, 88, 89, 90, 91, 92, 93, 94, 95, 96, 97, 98, 99, 100, 101, 102, 103, 104, 105, 106, 107, 108, 109, 110, 111, 112, 113, 114, 115, 116, 117, 118, 119, 120, 121, 122, 123, 124, 125, 126, 127, 128, 129, 130, 131, 132, 133, 134, 135, 136, 137, 138, 139, 140, 141, 142, 143, 144, 145, 146, 147, 148, 149, 150, 151, 152, 153, 154, 155] (by decide +kernel) (by decide +kernel)) (goodIn_sub (fun _ h => List.mem_cons_of_mem _ (List.mem_append_left _ (List.mem_append_left _ (List.mem_append_left _ (List.mem_append_left _ (List.mem_append_left _ (List.mem_append_right _ h))))))) (by decide +kernel))) (goodIn_sub (fun _ h => List.mem_cons_of_mem _ (List.mem_append_left _ (List.mem_append_left _ (List.mem_append_left _ (List.mem_append_left _ (List.mem_append_right _ h)))))) (by decide +kernel))) (goodIn_sub (fun _ h => List.mem_cons_of_mem _ (List.mem_append_left _ (List.mem_append_left _ (List.mem_append_left _ (List.mem_append_right _ h))))) (by decide +kernel))) (goodIn_sub (fun _ h => List.mem_cons_of_mem _ (List.mem_append_left _ (List.mem_append_left _ (List.mem_append_right _ h)))) (by decide +kernel))) (goodIn_sub (fun _ h => List.mem_cons_of_mem _ (List.mem_append_left _ (List.mem_append_right _ h))) (by decide +kernel))) (goodIn_sub (fun _ h => List.mem_cons_of_mem _ (List.mem_append_right _ h)) (by decide +kernel))
set_option maxRecDepth 20000 in
theorem gL_subscribe_X10_subscribe : GoodIn wsL_subscribe (wsV RL 67 RX10 yX10_subscribe wsX10_subscribe) := goodIn_app (goodIn_of _ (by decide +kernel)) ggL_subscribe_X10_subscribe
theorem dL_subscribe_0 : decode cL_subscribe 0 = .ok (.aload 4, 2) := by decide +kernel
theorem dL_subscribe_2 : decode cL_subscribe 2 = .ok (.iconst 0, 1) := by decide +kernel
theorem dL_subscribe_3 : decode cL_subscribe 3 = .ok (.aload_n 0, 1) := by decide +kernel
theorem dL_subscribe_4 : decode cL_subscribe 4 = .ok (.iload_n 1, 1) := by decide +kernel
theorem dL_subscribe_5 : decode cL_subscribe 5 = .ok (.iload_n 2, 1) := by decide +kernel
theorem dL_subscribe_6 : decode cL_subscribe 6 = .ok (.iload_n 3, 1) := by decide +kernel
theorem dL_subscribe_7 : decode cL_subscribe 7 = .ok (.invokevirtual 67, 3) := by decide +kernel
theorem dL_subscribe_10 : decode cL_subscribe 10 = .ok (.i2l, 1) := by decide +kernel
theorem dL_subscribe_11 : decode cL_subscribe 11 = .ok (.lastore, 1) := by decide +kernel
theorem dL_subscribe_12 : decode cL_subscribe 12 = .ok (.goto 19, 3) := by decide +kernel
theorem dL_subscribe_15 : decode cL_subscribe 15 = .ok (.astore 5, 2) := by decide +kernel
theorem dL_subscribe_17 : decode cL_subscribe 17 = .ok (.iconst 1, 1) := by decide +kernel
theorem dL_subscribe_18 : decode cL_subscribe 18 = .ok (.ireturn, 1) := by decide +kernel
theorem dL_subscribe_19 : decode cL_subscribe 19 = .ok (.astore 5, 2) := by decide +kernel
theorem dL_subscribe_21 : decode cL_subscribe 21 = .ok (.iconst 2, 1) := by decide +kernel
theorem dL_subscribe_22 : decode cL_subscribe 22 = .ok (.ireturn, 1) := by decide +kernel
theorem dL_subscribe_23 : decode cL_subscribe 23 = .ok (.astore 5, 2) := by decide +kernel
theorem dL_subscribe_25 : decode cL_subscribe 25 = .ok (.iconst 3, 1) := by decide +kernel
theorem dL_subscribe_26 : decode cL_subscribe 26 = .ok (.ireturn, 1) := by decide +kernel
theorem dL_subscribe_27 : decode cL_subscribe 27 = .ok (.astore 5, 2) := by decide +kernel
theorem dL_subscribe_29 : decode cL_subscribe 29 = .ok (.iconst 4, 1) := by decide +kernel
theorem dL_subscribe_30 : decode cL_subscribe 30 = .ok (.ireturn, 1) := by decide +kernel
theorem dL_subscribe_31 : decode cL_subscribe 31 = .ok (.iconst 0, 1) := by decide +kernel
theorem dL_subscribe_32 : decode cL_subscribe 32 = .ok (.ireturn, 1) := by decide +kernel
set_option maxRecDepth 20000 in
theorem ggL_leave_X10_leave : GoodIn wsL_leave wsX10_leave := goodIn_ca (goodIn_ca (goodIn_ca (goodIn_ca (goodIn_ca (goodIn_ca (goodIn_r _ [6, 7, 8, 9, 10, 11, 12, 13, 14, 15, 16, 17, 18, 19, 20, 21, 22, 23, 24, 5, 25, 26, 27, 28, 29, 30, 31, 32, 33, 34, 35, 36, 37, 38, 39, 40, 41, 42, 43, 44, 45, 46, 47, 48, 49, 50, 51, 52, 53, 54, 55, 56, 57, 58, 59, 60, 61, 62, 63, 64, 65, 66, 67, 68, 69, 70, 71, 72, 73, 74, 75, 76, 77, 78, 79, 80, 81, 82, 83, 84, 85, 86, 87, 88, 89, 90, 91, 92, 93, 94, 95, 96, 97, 98, 99, 100, 101, 102, 103, 104, 105, 106, 107, 108, 109, 110, 111, 112, 113, 114, 115, 116, 117, 118, 119, 120, 121, 122, 123, 124, 125, 126, 127, 128, 129, 130, 131, 132, 133] (by decide +kernel) (by decide +kernel)) (goodIn_sub (fun _ h => List.mem_cons_of_mem _ (List.mem_append_left _ (List.mem_append_left _ (List.mem_append_left _ (List.mem_append_left _ (List.mem_append_right _ h)))))) (by decide +kernel))) (goodIn_sub (fun _ h => List.mem_cons_of_mem _ (List.mem_append_left _ (List.mem_append_left _ (List.mem_append_left _ (List.mem_append_right _ h))))) (by decide +kernel))) (goodIn_sub (fun _ h => List.mem_cons_of_mem _ (List.mem_append_left _ (List.mem_append_left _ (List.mem_append_right _ h)))) (by decide +kernel))) (goodIn_sub (fun _ h => List.mem_cons_of_mem _ (List.mem_append_left _ (List.mem_append_right _ h))) (by decide +kernel))) (goodIn_sub (fun _ h => List.mem_cons_of_mem _ (List.mem_append_right _ h)) (by decide +kernel))) (goodIn_sub (fun _ h => List.mem_cons_of_mem _ (List.mem_append_left _ (List.mem_append_left _ (List.mem_append_left _ (List.mem_append_left _ (List.mem_append_left _ (List.mem_append_right _ h))))))) (by decide +kernel))
set_option maxRecDepth 20000 in
theorem gL_leave_X10_leave : GoodIn wsL_leave (wsV RL 73 RX10 yX10_leave wsX10_leave) := goodIn_app (goodIn_of _ (by decide +kernel)) ggL_leave_X10_leave
theorem dL_leave_0 : decode cL_leave 0 = .ok (.aload_n 2, 1) := by decide +kernel
theorem dL_leave_1 : decode cL_leave 1 = .ok (.iconst 0, 1) := by decide +kernel
theorem dL_leave_2 : decode cL_leave 2 = .ok (.aload_n 0, 1) := by decide +kernel
theorem dL_leave_3 : decode cL_leave 3 = .ok (.iload_n 1, 1) := by decide +kernel
theorem dL_leave_4 : decode cL_leave 4 = .ok (.invokevirtual 73, 3) := by decide +kernel
theorem dL_leave_7 : decode cL_leave 7 = .ok (.i2l, 1) := by decide +kernel
theorem dL_leave_8 : decode cL_leave 8 = .ok (.lastore, 1) := by decide +kernel
theorem dL_leave_9 : decode cL_leave 9 = .ok (.goto 6, 3) := by decide +kernel
theorem dL_leave_12 : decode cL_leave 12 = .ok (.astore_n 3, 1) := by decide +kernel
theorem dL_leave_13 : decode cL_leave 13 = .ok (.iconst 1, 1) := by decide +kernel
theorem dL_leave_14 : decode cL_leave 14 = .ok (.ireturn, 1) := by decide +kernel
theorem dL_leave_15 : decode cL_leave 15 = .ok (.iconst 0, 1) := by decide +kernel
theorem dL_leave_16 : decode cL_leave 16 = .ok (.ireturn, 1) := by decide +kernel
set_option maxRecDepth 20000 in
theorem ggL_deposit_X10_deposit : GoodIn wsL_deposit wsX10_deposit := goodIn_ca (goodIn_ca (goodIn_ca (goodIn_ca (goodIn_ca (goodIn_ca (goodIn_r _ [6, 7, 8, 9, 10, 11, 12, 13, 14, 15, 16, 17, 18, 19, 20, 21, 22, 23, 24, 5, 25, 26, 27, 28, 29, 30, 31, 32, 33, 34, 35, 36, 37, 38, 39, 40, 41, 42, 43, 44, 45, 46, 47, 48, 49, 50, 51, 52, 53, 54, 55, 56, 57, 58, 59, 60, 61, 62, 63, 64, 65, 66, 67, 68, 69, 70, 71, 72, 73, 74, 75, 76, 77, 78, 79, 80, 81, 82, 83, 84, 85, 86, 87, 88, 89, 90, 91, 92, 93, 94, 95, 96, 97, 98, 99, 100, 101, 102, 103, 104, 105, 106, 107, 108, 109, 110, 111, 112, 113, 114, 115, 116, 117, 118, 119, 120, 121, 122, 123, 124, 125, 126, 127, 128] (by decide +kernel) (by decide +kernel)) (goodIn_sub (fun _ h => List.mem_cons_of_mem _ (List.mem_append_left _ (List.mem_append_left _ (List.mem_append_left _ (List.mem_append_left _ (List.mem_append_right _ h)))))) (by decide +kernel))) (goodIn_sub (fun _ h => List.mem_cons_of_mem _ (List.mem_append_left _ (List.mem_append_left _ (List.mem_append_left _ (List.mem_append_right _ h))))) (by decide +kernel))) (goodIn_sub (fun _ h => List.mem_cons_of_mem _ (List.mem_append_left _ (List.mem_append_left _ (List.mem_append_right _ h)))) (by decide +kernel))) (goodIn_sub (fun _ h => List.mem_cons_of_mem _ (List.mem_append_left _ (List.mem_append_right _ h))) (by decide +kernel))) (goodIn_sub (fun _ h => List.mem_cons_of_mem _ (List.mem_append_right _ h)) (by decide +kernel))) (goodIn_sub (fun _ h => List.mem_cons_of_mem _ (List.mem_append_left _ (List.mem_append_left _ (List.mem_append_left _ (List.mem_append_left _ (List.mem_append_left _ (List.mem_append_right _ h))))))) (by decide +kernel))
set_option maxRecDepth 20000 in
theorem gL_deposit_X10_deposit : GoodIn wsL_deposit (wsV RL 76 RX10 yX10_deposit wsX10_deposit) := goodIn_app (goodIn_of _ (by decide +kernel)) ggL_deposit_X10_deposit
theorem dL_deposit_0 : decode cL_deposit 0 = .ok (.aload_n 3, 1) := by decide +kernel
theorem dL_deposit_1 : decode cL_deposit 1 = .ok (.iconst 0, 1) := by decide +kernel
theorem dL_deposit_2 : decode cL_deposit 2 = .ok (.aload_n 0, 1) := by decide +kernel
theorem dL_deposit_3 : decode cL_deposit 3 = .ok (.iload_n 1, 1) := by decide +kernel
theorem dL_deposit_4 : decode cL_deposit 4 = .ok (.iload_n 2, 1) := by decide +kernel
theorem dL_deposit_5 : decode cL_deposit 5 = .ok (.invokevirtual 76, 3) := by decide +kernel
theorem dL_deposit_8 : decode cL_deposit 8 = .ok (.i2l, 1) := by decide +kernel
theorem dL_deposit_9 : decode cL_deposit 9 = .ok (.lastore, 1) := by decide +kernel
theorem dL_deposit_10 : decode cL_deposit 10 = .ok (.goto 11, 3) := by decide +kernel
theorem dL_deposit_13 : decode cL_deposit 13 = .ok (.astore 4, 2) := by decide +kernel
theorem dL_deposit_15 : decode cL_deposit 15 = .ok (.iconst 1, 1) := by decide +kernel
theorem dL_deposit_16 : decode cL_deposit 16 = .ok (.ireturn, 1) := by decide +kernel
theorem dL_deposit_17 : decode cL_deposit 17 = .ok (.astore 4, 2) := by decide +kernel
theorem dL_deposit_19 : decode cL_deposit 19 = .ok (.iconst 2, 1) := by decide +kernel
theorem dL_deposit_20 : decode cL_deposit 20 = .ok (.ireturn, 1) := by decide +kernel
theorem dL_deposit_21 : decode cL_deposit 21 = .ok (.iconst 0, 1) := by decide +kernel
theorem dL_deposit_22 : decode cL_deposit 22 = .ok (.ireturn, 1) := by decide +kernel
set_option maxRecDepth 20000 in
theorem ggL_startOf_X10_startOf : GoodIn wsL_startOf wsX10_startOf := goodIn_ca (goodIn_ca (goodIn_r _ [6, 7, 8, 9, 10, 11, 12, 13, 5, 14, 15, 16, 17, 18, 19, 20, 21, 22, 23, 24, 25, 26, 27, 28, 29, 30, 31, 32, 33, 34, 35, 36, 37, 38, 39, 40, 41, 42, 43, 44, 45, 46, 47, 48] (by decide +kernel) (by decide +kernel)) (goodIn_sub (fun _ h => List.mem_cons_of_mem _ (List.mem_append_left _ (List.mem_append_right _ h))) (by decide +kernel))) (goodIn_sub (fun _ h => List.mem_cons_of_mem _ (List.mem_append_right _ h)) (by decide +kernel))
set_option maxRecDepth 20000 in
theorem gL_startOf_X10_startOf : GoodIn wsL_startOf (wsV RL 79 RX10 yX10_startOf wsX10_startOf) := goodIn_app (goodIn_of _ (by decide +kernel)) ggL_startOf_X10_startOf
theorem dL_startOf_0 : decode cL_startOf 0 = .ok (.aload_n 2, 1) := by decide +kernel
theorem dL_startOf_1 : decode cL_startOf 1 = .ok (.iconst 0, 1) := by decide +kernel
theorem dL_startOf_2 : decode cL_startOf 2 = .ok (.aload_n 0, 1) := by decide +kernel
theorem dL_startOf_3 : decode cL_startOf 3 = .ok (.iload_n 1, 1) := by decide +kernel
theorem dL_startOf_4 : decode cL_startOf 4 = .ok (.invokevirtual 79, 3) := by decide +kernel
theorem dL_startOf_7 : decode cL_startOf 7 = .ok (.i2l, 1) := by decide +kernel
theorem dL_startOf_8 : decode cL_startOf 8 = .ok (.lastore, 1) := by decide +kernel
theorem dL_startOf_9 : decode cL_startOf 9 = .ok (.goto 6, 3) := by decide +kernel
theorem dL_startOf_12 : decode cL_startOf 12 = .ok (.astore_n 3, 1) := by decide +kernel
theorem dL_startOf_13 : decode cL_startOf 13 = .ok (.iconst 1, 1) := by decide +kernel
theorem dL_startOf_14 : decode cL_startOf 14 = .ok (.ireturn, 1) := by decide +kernel
theorem dL_startOf_15 : decode cL_startOf 15 = .ok (.iconst 0, 1) := by decide +kernel
theorem dL_startOf_16 : decode cL_startOf 16 = .ok (.ireturn, 1) := by decide +kernel
set_option maxRecDepth 20000 in
theorem ggL_goalOf_X10_goalOf : GoodIn wsL_goalOf wsX10_goalOf := goodIn_ca (goodIn_ca (goodIn_r _ [6, 7, 8, 9, 10, 11, 12, 13, 5, 14, 15, 16, 17, 18, 19, 20, 21, 22, 23, 24, 25, 26, 27, 28, 29, 30, 31, 32, 33, 34, 35, 36, 37, 38, 39, 40, 41, 42, 43, 44, 45, 46, 47, 48] (by decide +kernel) (by decide +kernel)) (goodIn_sub (fun _ h => List.mem_cons_of_mem _ (List.mem_append_left _ (List.mem_append_right _ h))) (by decide +kernel))) (goodIn_sub (fun _ h => List.mem_cons_of_mem _ (List.mem_append_right _ h)) (by decide +kernel))
set_option maxRecDepth 20000 in
theorem gL_goalOf_X10_goalOf : GoodIn wsL_goalOf (wsV RL 82 RX10 yX10_goalOf wsX10_goalOf) := goodIn_app (goodIn_of _ (by decide +kernel)) ggL_goalOf_X10_goalOf
theorem dL_goalOf_0 : decode cL_goalOf 0 = .ok (.aload_n 2, 1) := by decide +kernel
theorem dL_goalOf_1 : decode cL_goalOf 1 = .ok (.iconst 0, 1) := by decide +kernel
theorem dL_goalOf_2 : decode cL_goalOf 2 = .ok (.aload_n 0, 1) := by decide +kernel
theorem dL_goalOf_3 : decode cL_goalOf 3 = .ok (.iload_n 1, 1) := by decide +kernel
theorem dL_goalOf_4 : decode cL_goalOf 4 = .ok (.invokevirtual 82, 3) := by decide +kernel
theorem dL_goalOf_7 : decode cL_goalOf 7 = .ok (.i2l, 1) := by decide +kernel
theorem dL_goalOf_8 : decode cL_goalOf 8 = .ok (.lastore, 1) := by decide +kernel
theorem dL_goalOf_9 : decode cL_goalOf 9 = .ok (.goto 6, 3) := by decide +kernel
theorem dL_goalOf_12 : decode cL_goalOf 12 = .ok (.astore_n 3, 1) := by decide +kernel
theorem dL_goalOf_13 : decode cL_goalOf 13 = .ok (.iconst 1, 1) := by decide +kernel
theorem dL_goalOf_14 : decode cL_goalOf 14 = .ok (.ireturn, 1) := by decide +kernel
theorem dL_goalOf_15 : decode cL_goalOf 15 = .ok (.iconst 0, 1) := by decide +kernel
theorem dL_goalOf_16 : decode cL_goalOf 16 = .ok (.ireturn, 1) := by decide +kernel
set_option maxRecDepth 20000 in
theorem ggL_moneyOf_X10_moneyOf : GoodIn wsL_moneyOf wsX10_moneyOf := goodIn_ca (goodIn_ca (goodIn_r _ [6, 7, 8, 9, 10, 11, 12, 13, 5, 14, 15, 16, 17, 18, 19, 20, 21, 22, 23, 24, 25, 26, 27, 28, 29, 30, 31, 32, 33, 34, 35, 36, 37, 38, 39, 40, 41, 42, 43, 44, 45, 46, 47, 48] (by decide +kernel) (by decide +kernel)) (goodIn_sub (fun _ h => List.mem_cons_of_mem _ (List.mem_append_left _ (List.mem_append_right _ h))) (by decide +kernel))) (goodIn_sub (fun _ h => List.mem_cons_of_mem _ (List.mem_append_right _ h)) (by decide +kernel))
set_option maxRecDepth 20000 in
theorem gL_moneyOf_X10_moneyOf : GoodIn wsL_moneyOf (wsV RL 85 RX10 yX10_moneyOf wsX10_moneyOf) := goodIn_app (goodIn_of _ (by decide +kernel)) ggL_moneyOf_X10_moneyOf
theorem dL_moneyOf_0 : decode cL_moneyOf 0 = .ok (.aload_n 2, 1) := by decide +kernel
theorem dL_moneyOf_1 : decode cL_moneyOf 1 = .ok (.iconst 0, 1) := by decide +kernel
theorem dL_moneyOf_2 : decode cL_moneyOf 2 = .ok (.aload_n 0, 1) := by decide +kernel
theorem dL_moneyOf_3 : decode cL_moneyOf 3 = .ok (.iload_n 1, 1) := by decide +kernel
theorem dL_moneyOf_4 : decode cL_moneyOf 4 = .ok (.invokevirtual 85, 3) := by decide +kernel
theorem dL_moneyOf_7 : decode cL_moneyOf 7 = .ok (.i2l, 1) := by decide +kernel
theorem dL_moneyOf_8 : decode cL_moneyOf 8 = .ok (.lastore, 1) := by decide +kernel
theorem dL_moneyOf_9 : decode cL_moneyOf 9 = .ok (.goto 6, 3) := by decide +kernel
theorem dL_moneyOf_12 : decode cL_moneyOf 12 = .ok (.astore_n 3, 1) := by decide +kernel
theorem dL_moneyOf_13 : decode cL_moneyOf 13 = .ok (.iconst 1, 1) := by decide +kernel
theorem dL_moneyOf_14 : decode cL_moneyOf 14 = .ok (.ireturn, 1) := by decide +kernel
theorem dL_moneyOf_15 : decode cL_moneyOf 15 = .ok (.iconst 0, 1) := by decide +kernel
theorem dL_moneyOf_16 : decode cL_moneyOf 16 = .ok (.ireturn, 1) := by decide +kernel
set_option maxRecDepth 20000 in
theorem ggL_needOf_X10_needOf : GoodIn wsL_needOf wsX10_needOf := goodIn_ca (goodIn_ca (goodIn_ca (goodIn_r _ [6, 7, 8, 9, 10, 5, 11, 12, 13, 14, 15, 16, 17, 18, 19, 20, 21, 22, 23, 24, 25, 26, 27, 28, 29, 30, 31, 32, 33, 34, 35, 36, 37, 38, 39, 40, 41, 42, 43, 44, 45, 46, 47, 48, 49, 50, 51, 52, 53, 54, 55, 56, 57, 58, 59, 60, 61, 62, 63, 64, 65, 66, 67, 68, 69, 70, 71, 72, 73, 74, 75, 76, 77, 78, 79, 80, 81, 82, 83, 84, 85, 86, 87, 88, 89, 90, 91] (by decide +kernel) (by decide +kernel)) (goodIn_sub (fun _ h => List.mem_cons_of_mem _ (List.mem_append_left _ (List.mem_append_right _ h))) (by decide +kernel))) (goodIn_sub (fun _ h => List.mem_cons_of_mem _ (List.mem_append_left _ (List.mem_append_left _ (List.mem_append_right _ h)))) (by decide +kernel))) (goodIn_sub (fun _ h => List.mem_cons_of_mem _ (List.mem_append_right _ h)) (by decide +kernel))
set_option maxRecDepth 20000 in
theorem gL_needOf_X10_needOf : GoodIn wsL_needOf (wsV RL 88 RX10 yX10_needOf wsX10_needOf) := goodIn_app (goodIn_of _ (by decide +kernel)) ggL_needOf_X10_needOf
theorem dL_needOf_0 : decode cL_needOf 0 = .ok (.aload_n 2, 1) := by decide +kernel
theorem dL_needOf_1 : decode cL_needOf 1 = .ok (.iconst 0, 1) := by decide +kernel
theorem dL_needOf_2 : decode cL_needOf 2 = .ok (.aload_n 0, 1) := by decide +kernel
theorem dL_needOf_3 : decode cL_needOf 3 = .ok (.iload_n 1, 1) := by decide +kernel
theorem dL_needOf_4 : decode cL_needOf 4 = .ok (.invokevirtual 88, 3) := by decide +kernel
theorem dL_needOf_7 : decode cL_needOf 7 = .ok (.i2l, 1) := by decide +kernel
theorem dL_needOf_8 : decode cL_needOf 8 = .ok (.lastore, 1) := by decide +kernel
theorem dL_needOf_9 : decode cL_needOf 9 = .ok (.goto 9, 3) := by decide +kernel
theorem dL_needOf_12 : decode cL_needOf 12 = .ok (.astore_n 3, 1) := by decide +kernel
theorem dL_needOf_13 : decode cL_needOf 13 = .ok (.iconst 1, 1) := by decide +kernel
theorem dL_needOf_14 : decode cL_needOf 14 = .ok (.ireturn, 1) := by decide +kernel
theorem dL_needOf_15 : decode cL_needOf 15 = .ok (.astore_n 3, 1) := by decide +kernel
theorem dL_needOf_16 : decode cL_needOf 16 = .ok (.iconst 2, 1) := by decide +kernel
theorem dL_needOf_17 : decode cL_needOf 17 = .ok (.ireturn, 1) := by decide +kernel
theorem dL_needOf_18 : decode cL_needOf 18 = .ok (.iconst 0, 1) := by decide +kernel
theorem dL_needOf_19 : decode cL_needOf 19 = .ok (.ireturn, 1) := by decide +kernel
set_option maxRecDepth 20000 in
theorem ggL_litNightsOf_X10_litNightsOf : GoodIn wsL_litNightsOf wsX10_litNightsOf := goodIn_ca (goodIn_ca (goodIn_r _ [6, 7, 8, 9, 10, 11, 12, 13, 5, 14, 15, 16, 17, 18, 19, 20, 21, 22, 23, 24, 25, 26, 27, 28, 29, 30, 31, 32, 33, 34, 35, 36, 37, 38, 39, 40, 41, 42, 43, 44, 45, 46, 47, 48] (by decide +kernel) (by decide +kernel)) (goodIn_sub (fun _ h => List.mem_cons_of_mem _ (List.mem_append_left _ (List.mem_append_right _ h))) (by decide +kernel))) (goodIn_sub (fun _ h => List.mem_cons_of_mem _ (List.mem_append_right _ h)) (by decide +kernel))
set_option maxRecDepth 20000 in
theorem gL_litNightsOf_X10_litNightsOf : GoodIn wsL_litNightsOf (wsV RL 91 RX10 yX10_litNightsOf wsX10_litNightsOf) := goodIn_app (goodIn_of _ (by decide +kernel)) ggL_litNightsOf_X10_litNightsOf
theorem dL_litNightsOf_0 : decode cL_litNightsOf 0 = .ok (.aload_n 2, 1) := by decide +kernel
theorem dL_litNightsOf_1 : decode cL_litNightsOf 1 = .ok (.iconst 0, 1) := by decide +kernel
theorem dL_litNightsOf_2 : decode cL_litNightsOf 2 = .ok (.aload_n 0, 1) := by decide +kernel
theorem dL_litNightsOf_3 : decode cL_litNightsOf 3 = .ok (.iload_n 1, 1) := by decide +kernel
theorem dL_litNightsOf_4 : decode cL_litNightsOf 4 = .ok (.invokevirtual 91, 3) := by decide +kernel
theorem dL_litNightsOf_7 : decode cL_litNightsOf 7 = .ok (.i2l, 1) := by decide +kernel
theorem dL_litNightsOf_8 : decode cL_litNightsOf 8 = .ok (.lastore, 1) := by decide +kernel
theorem dL_litNightsOf_9 : decode cL_litNightsOf 9 = .ok (.goto 6, 3) := by decide +kernel
theorem dL_litNightsOf_12 : decode cL_litNightsOf 12 = .ok (.astore_n 3, 1) := by decide +kernel
theorem dL_litNightsOf_13 : decode cL_litNightsOf 13 = .ok (.iconst 1, 1) := by decide +kernel
theorem dL_litNightsOf_14 : decode cL_litNightsOf 14 = .ok (.ireturn, 1) := by decide +kernel
theorem dL_litNightsOf_15 : decode cL_litNightsOf 15 = .ok (.iconst 0, 1) := by decide +kernel
theorem dL_litNightsOf_16 : decode cL_litNightsOf 16 = .ok (.ireturn, 1) := by decide +kernel
set_option maxRecDepth 20000 in
theorem ggL_darkNightsOf_X10_darkNightsOf : GoodIn wsL_darkNightsOf wsX10_darkNightsOf := goodIn_ca (goodIn_ca (goodIn_r _ [6, 7, 8, 9, 10, 11, 12, 13, 5, 14, 15, 16, 17, 18, 19, 20, 21, 22, 23, 24, 25, 26, 27, 28, 29, 30, 31, 32, 33, 34, 35, 36, 37, 38, 39, 40, 41, 42, 43, 44, 45, 46, 47, 48] (by decide +kernel) (by decide +kernel)) (goodIn_sub (fun _ h => List.mem_cons_of_mem _ (List.mem_append_left _ (List.mem_append_right _ h))) (by decide +kernel))) (goodIn_sub (fun _ h => List.mem_cons_of_mem _ (List.mem_append_right _ h)) (by decide +kernel))
set_option maxRecDepth 20000 in
theorem gL_darkNightsOf_X10_darkNightsOf : GoodIn wsL_darkNightsOf (wsV RL 94 RX10 yX10_darkNightsOf wsX10_darkNightsOf) := goodIn_app (goodIn_of _ (by decide +kernel)) ggL_darkNightsOf_X10_darkNightsOf
theorem dL_darkNightsOf_0 : decode cL_darkNightsOf 0 = .ok (.aload_n 2, 1) := by decide +kernel
theorem dL_darkNightsOf_1 : decode cL_darkNightsOf 1 = .ok (.iconst 0, 1) := by decide +kernel
theorem dL_darkNightsOf_2 : decode cL_darkNightsOf 2 = .ok (.aload_n 0, 1) := by decide +kernel
theorem dL_darkNightsOf_3 : decode cL_darkNightsOf 3 = .ok (.iload_n 1, 1) := by decide +kernel
theorem dL_darkNightsOf_4 : decode cL_darkNightsOf 4 = .ok (.invokevirtual 94, 3) := by decide +kernel
theorem dL_darkNightsOf_7 : decode cL_darkNightsOf 7 = .ok (.i2l, 1) := by decide +kernel
theorem dL_darkNightsOf_8 : decode cL_darkNightsOf 8 = .ok (.lastore, 1) := by decide +kernel
theorem dL_darkNightsOf_9 : decode cL_darkNightsOf 9 = .ok (.goto 6, 3) := by decide +kernel
theorem dL_darkNightsOf_12 : decode cL_darkNightsOf 12 = .ok (.astore_n 3, 1) := by decide +kernel
theorem dL_darkNightsOf_13 : decode cL_darkNightsOf 13 = .ok (.iconst 1, 1) := by decide +kernel
theorem dL_darkNightsOf_14 : decode cL_darkNightsOf 14 = .ok (.ireturn, 1) := by decide +kernel
theorem dL_darkNightsOf_15 : decode cL_darkNightsOf 15 = .ok (.iconst 0, 1) := by decide +kernel
theorem dL_darkNightsOf_16 : decode cL_darkNightsOf 16 = .ok (.ireturn, 1) := by decide +kernel
set_option maxRecDepth 20000 in
theorem ggL_shareOf_X10_shareOf : GoodIn wsL_shareOf wsX10_shareOf := goodIn_ca (goodIn_ca (goodIn_ca (goodIn_ca (goodIn_r _ [6, 7, 8, 9, 10, 11, 12, 5, 13, 14, 15, 16, 17, 18, 19, 20, 21, 22, 23, 24, 25, 26, 27, 28, 29, 30, 31, 32, 33, 34, 35, 36, 37, 38, 39, 40, 41, 42, 43, 44, 45, 46, 47, 48, 49, 50, 51, 52, 53, 54, 55, 56, 57, 58, 59, 60, 61, 62, 63, 64, 65, 66, 67, 68, 69, 70, 71, 72, 73, 74, 75, 76, 77, 78, 79, 80, 81, 82, 83, 84, 85, 86, 87, 88, 89, 90, 91, 92, 93, 94, 95, 96, 97, 98, 99, 100, 101, 102, 103, 104, 105, 106, 107, 108, 109, 110, 111, 112, 113, 114, 115, 116, 117, 118, 119, 120, 121, 122, 123, 124, 125, 126, 127, 128, 129, 130, 131, 132, 133, 134, 135] (by decide +kernel) (by decide +kernel)) (goodIn_sub (fun _ h => List.mem_cons_of_mem _ (List.mem_append_left _ (List.mem_append_left _ (List.mem_append_left _ (List.mem_append_right _ h))))) (by decide +kernel))) (goodIn_sub (fun _ h => List.mem_cons_of_mem _ (List.mem_append_left _ (List.mem_append_left _ (List.mem_append_right _ h)))) (by decide +kernel))) (goodIn_sub (fun _ h => List.mem_cons_of_mem _ (List.mem_append_left _ (List.mem_append_right _ h))) (by decide +kernel))) (goodIn_sub (fun _ h => List.mem_cons_of_mem _ (List.mem_append_right _ h)) (by decide +kernel))
set_option maxRecDepth 20000 in
theorem gL_shareOf_X10_shareOf : GoodIn wsL_shareOf (wsV RL 97 RX10 yX10_shareOf wsX10_shareOf) := goodIn_app (goodIn_of _ (by decide +kernel)) ggL_shareOf_X10_shareOf
theorem dL_shareOf_0 : decode cL_shareOf 0 = .ok (.aload_n 2, 1) := by decide +kernel
theorem dL_shareOf_1 : decode cL_shareOf 1 = .ok (.iconst 0, 1) := by decide +kernel
theorem dL_shareOf_2 : decode cL_shareOf 2 = .ok (.aload_n 0, 1) := by decide +kernel
theorem dL_shareOf_3 : decode cL_shareOf 3 = .ok (.iload_n 1, 1) := by decide +kernel
theorem dL_shareOf_4 : decode cL_shareOf 4 = .ok (.invokevirtual 97, 3) := by decide +kernel
theorem dL_shareOf_7 : decode cL_shareOf 7 = .ok (.i2l, 1) := by decide +kernel
theorem dL_shareOf_8 : decode cL_shareOf 8 = .ok (.lastore, 1) := by decide +kernel
theorem dL_shareOf_9 : decode cL_shareOf 9 = .ok (.goto 9, 3) := by decide +kernel
theorem dL_shareOf_12 : decode cL_shareOf 12 = .ok (.astore_n 3, 1) := by decide +kernel
theorem dL_shareOf_13 : decode cL_shareOf 13 = .ok (.iconst 1, 1) := by decide +kernel
theorem dL_shareOf_14 : decode cL_shareOf 14 = .ok (.ireturn, 1) := by decide +kernel
theorem dL_shareOf_15 : decode cL_shareOf 15 = .ok (.astore_n 3, 1) := by decide +kernel
theorem dL_shareOf_16 : decode cL_shareOf 16 = .ok (.iconst 2, 1) := by decide +kernel
theorem dL_shareOf_17 : decode cL_shareOf 17 = .ok (.ireturn, 1) := by decide +kernel
theorem dL_shareOf_18 : decode cL_shareOf 18 = .ok (.iconst 0, 1) := by decide +kernel
theorem dL_shareOf_19 : decode cL_shareOf 19 = .ok (.ireturn, 1) := by decide +kernel
set_option maxRecDepth 20000 in
theorem ggL_shareByOrders_X10_shareByOrders : GoodIn wsL_shareByOrders wsX10_shareByOrders := goodIn_ca (goodIn_ca (goodIn_ca (goodIn_ca (goodIn_r _ [6, 7, 8, 9, 10, 11, 5, 12, 13, 14, 15, 16, 17, 18, 19, 20, 21, 22, 23, 24, 25, 26, 27, 28, 29, 30, 31, 32, 33, 34, 35, 36, 37, 38, 39, 40, 41, 42, 43, 44, 45, 46, 47, 48, 49, 50, 51, 52, 53, 54, 55, 56, 57, 58, 59, 60, 61, 62, 63, 64, 65, 66, 67, 68, 69, 70, 71, 72, 73, 74, 75, 76, 77, 78, 79, 80, 81, 82, 83, 84, 85, 86, 87, 88, 89, 90, 91, 92, 93, 94, 95, 96, 97, 98, 99, 100, 101, 102, 103, 104, 105, 106, 107, 108, 109, 110, 111, 112, 113, 114, 115, 116, 117, 118, 119, 120, 121, 122, 123, 124, 125, 126, 127, 128, 129, 130, 131, 132, 133, 134, 135, 136, 137, 138, 139] (by decide +kernel) (by decide +kernel)) (goodIn_sub (fun _ h => List.mem_cons_of_mem _ (List.mem_append_left _ (List.mem_append_left _ (List.mem_append_right _ h)))) (by decide +kernel))) (goodIn_sub (fun _ h => List.mem_cons_of_mem _ (List.mem_append_left _ (List.mem_append_left _ (List.mem_append_left _ (List.mem_append_right _ h))))) (by decide +kernel))) (goodIn_sub (fun _ h => List.mem_cons_of_mem _ (List.mem_append_left _ (List.mem_append_right _ h))) (by decide +kernel))) (goodIn_sub (fun _ h => List.mem_cons_of_mem _ (List.mem_append_right _ h)) (by decide +kernel))
