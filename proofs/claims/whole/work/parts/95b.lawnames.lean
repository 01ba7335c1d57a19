/-! ===== the law's names, 2 ===== -/
set_option maxRecDepth 20000 in
theorem gL_shareByOrders_X10_shareByOrders : GoodIn wsL_shareByOrders (wsV RL 100 RX10 yX10_shareByOrders wsX10_shareByOrders) := goodIn_app (goodIn_of _ (by decide +kernel)) ggL_shareByOrders_X10_shareByOrders
theorem dL_shareByOrders_0 : decode cL_shareByOrders 0 = .ok (.aload_n 2, 1) := by decide +kernel
theorem dL_shareByOrders_1 : decode cL_shareByOrders 1 = .ok (.iconst 0, 1) := by decide +kernel
theorem dL_shareByOrders_2 : decode cL_shareByOrders 2 = .ok (.aload_n 0, 1) := by decide +kernel
theorem dL_shareByOrders_3 : decode cL_shareByOrders 3 = .ok (.iload_n 1, 1) := by decide +kernel
theorem dL_shareByOrders_4 : decode cL_shareByOrders 4 = .ok (.invokevirtual 100, 3) := by decide +kernel
theorem dL_shareByOrders_7 : decode cL_shareByOrders 7 = .ok (.i2l, 1) := by decide +kernel
theorem dL_shareByOrders_8 : decode cL_shareByOrders 8 = .ok (.lastore, 1) := by decide +kernel
theorem dL_shareByOrders_9 : decode cL_shareByOrders 9 = .ok (.goto 9, 3) := by decide +kernel
theorem dL_shareByOrders_12 : decode cL_shareByOrders 12 = .ok (.astore_n 3, 1) := by decide +kernel
theorem dL_shareByOrders_13 : decode cL_shareByOrders 13 = .ok (.iconst 1, 1) := by decide +kernel
theorem dL_shareByOrders_14 : decode cL_shareByOrders 14 = .ok (.ireturn, 1) := by decide +kernel
theorem dL_shareByOrders_15 : decode cL_shareByOrders 15 = .ok (.astore_n 3, 1) := by decide +kernel
theorem dL_shareByOrders_16 : decode cL_shareByOrders 16 = .ok (.iconst 2, 1) := by decide +kernel
theorem dL_shareByOrders_17 : decode cL_shareByOrders 17 = .ok (.ireturn, 1) := by decide +kernel
theorem dL_shareByOrders_18 : decode cL_shareByOrders 18 = .ok (.iconst 0, 1) := by decide +kernel
theorem dL_shareByOrders_19 : decode cL_shareByOrders 19 = .ok (.ireturn, 1) := by decide +kernel
set_option maxRecDepth 20000 in
theorem ggL_subscriberByDark_X10_subscriberByDark : GoodIn wsL_subscriberByDark wsX10_subscriberByDark := goodIn_ca (goodIn_ca (goodIn_r _ [6, 7, 8, 9, 10, 11, 12, 13, 14, 15, 16, 17, 18, 19, 20, 21, 22, 5, 23, 24, 25, 26, 27, 28, 29, 30, 31, 32, 33, 34, 35, 36, 37, 38, 39, 40, 41, 42, 43, 44, 45, 46, 47, 48, 49, 50, 51] (by decide +kernel) (by decide +kernel)) (goodIn_sub (fun _ h => List.mem_cons_of_mem _ (List.mem_append_left _ (List.mem_append_right _ h))) (by decide +kernel))) (goodIn_sub (fun _ h => List.mem_cons_of_mem _ (List.mem_append_right _ h)) (by decide +kernel))
set_option maxRecDepth 20000 in
theorem gL_subscriberByDark_X10_subscriberByDark : GoodIn wsL_subscriberByDark (wsV RL 103 RX10 yX10_subscriberByDark wsX10_subscriberByDark) := goodIn_app (goodIn_of _ (by decide +kernel)) ggL_subscriberByDark_X10_subscriberByDark
theorem dL_subscriberByDark_0 : decode cL_subscriberByDark 0 = .ok (.aload_n 2, 1) := by decide +kernel
theorem dL_subscriberByDark_1 : decode cL_subscriberByDark 1 = .ok (.iconst 0, 1) := by decide +kernel
theorem dL_subscriberByDark_2 : decode cL_subscriberByDark 2 = .ok (.aload_n 0, 1) := by decide +kernel
theorem dL_subscriberByDark_3 : decode cL_subscriberByDark 3 = .ok (.iload_n 1, 1) := by decide +kernel
theorem dL_subscriberByDark_4 : decode cL_subscriberByDark 4 = .ok (.invokevirtual 103, 3) := by decide +kernel
theorem dL_subscriberByDark_7 : decode cL_subscriberByDark 7 = .ok (.i2l, 1) := by decide +kernel
theorem dL_subscriberByDark_8 : decode cL_subscriberByDark 8 = .ok (.lastore, 1) := by decide +kernel
theorem dL_subscriberByDark_9 : decode cL_subscriberByDark 9 = .ok (.goto 6, 3) := by decide +kernel
theorem dL_subscriberByDark_12 : decode cL_subscriberByDark 12 = .ok (.astore_n 3, 1) := by decide +kernel
theorem dL_subscriberByDark_13 : decode cL_subscriberByDark 13 = .ok (.iconst 1, 1) := by decide +kernel
theorem dL_subscriberByDark_14 : decode cL_subscriberByDark 14 = .ok (.ireturn, 1) := by decide +kernel
theorem dL_subscriberByDark_15 : decode cL_subscriberByDark 15 = .ok (.iconst 0, 1) := by decide +kernel
theorem dL_subscriberByDark_16 : decode cL_subscriberByDark 16 = .ok (.ireturn, 1) := by decide +kernel
set_option maxRecDepth 20000 in
theorem ggL_setFog_X10_setFog : GoodIn wsL_setFog wsX10_setFog := goodIn_ca (goodIn_ca (goodIn_ca (goodIn_ca (goodIn_ca (goodIn_r _ [6, 7, 8, 9, 10, 11, 12, 13, 14, 15, 16, 5, 17, 18, 19, 20, 21, 22, 23, 24, 25, 26, 27, 28, 29, 30, 31, 32, 33, 34, 35, 36, 37, 38, 39, 40, 41, 42, 43, 44, 45, 46, 47, 48, 49, 50, 51, 52, 53, 54, 55, 56, 57, 58, 59, 60, 61, 62, 63, 64, 65, 66, 67, 68, 69, 70, 71, 72, 73, 74, 75, 76, 77, 78, 79, 80, 81, 82, 83, 84, 85, 86, 87, 88, 89, 90, 91, 92, 93, 94, 95, 96, 97, 98, 99, 100, 101, 102, 103, 104, 105, 106, 107, 108, 109, 110, 111, 112, 113, 114, 115, 116, 117, 118, 119, 120, 121, 122] (by decide +kernel) (by decide +kernel)) (goodIn_sub (fun _ h => List.mem_cons_of_mem _ (List.mem_append_left _ (List.mem_append_left _ (List.mem_append_left _ (List.mem_append_left _ (List.mem_append_right _ h)))))) (by decide +kernel))) (goodIn_sub (fun _ h => List.mem_cons_of_mem _ (List.mem_append_left _ (List.mem_append_left _ (List.mem_append_left _ (List.mem_append_right _ h))))) (by decide +kernel))) (goodIn_sub (fun _ h => List.mem_cons_of_mem _ (List.mem_append_left _ (List.mem_append_left _ (List.mem_append_right _ h)))) (by decide +kernel))) (goodIn_sub (fun _ h => List.mem_cons_of_mem _ (List.mem_append_left _ (List.mem_append_right _ h))) (by decide +kernel))) (goodIn_sub (fun _ h => List.mem_cons_of_mem _ (List.mem_append_right _ h)) (by decide +kernel))
set_option maxRecDepth 20000 in
theorem gL_setFog_X10_setFog : GoodIn wsL_setFog (wsV RL 106 RX10 yX10_setFog wsX10_setFog) := goodIn_app (goodIn_of _ (by decide +kernel)) ggL_setFog_X10_setFog
theorem dL_setFog_0 : decode cL_setFog 0 = .ok (.aload_n 2, 1) := by decide +kernel
theorem dL_setFog_1 : decode cL_setFog 1 = .ok (.iconst 0, 1) := by decide +kernel
theorem dL_setFog_2 : decode cL_setFog 2 = .ok (.aload_n 0, 1) := by decide +kernel
theorem dL_setFog_3 : decode cL_setFog 3 = .ok (.iload_n 1, 1) := by decide +kernel
theorem dL_setFog_4 : decode cL_setFog 4 = .ok (.invokevirtual 106, 3) := by decide +kernel
theorem dL_setFog_7 : decode cL_setFog 7 = .ok (.i2l, 1) := by decide +kernel
theorem dL_setFog_8 : decode cL_setFog 8 = .ok (.lastore, 1) := by decide +kernel
theorem dL_setFog_9 : decode cL_setFog 9 = .ok (.goto 6, 3) := by decide +kernel
theorem dL_setFog_12 : decode cL_setFog 12 = .ok (.astore_n 3, 1) := by decide +kernel
theorem dL_setFog_13 : decode cL_setFog 13 = .ok (.iconst 1, 1) := by decide +kernel
theorem dL_setFog_14 : decode cL_setFog 14 = .ok (.ireturn, 1) := by decide +kernel
theorem dL_setFog_15 : decode cL_setFog 15 = .ok (.iconst 0, 1) := by decide +kernel
theorem dL_setFog_16 : decode cL_setFog 16 = .ok (.ireturn, 1) := by decide +kernel
set_option maxRecDepth 20000 in
theorem ggL_wouldBeLit_X10_wouldBeLit : GoodIn wsL_wouldBeLit wsX10_wouldBeLit := goodIn_ca (goodIn_ca (goodIn_ca (goodIn_r _ [6, 7, 8, 9, 10, 11, 12, 5, 13, 14, 15, 16, 17, 18, 19, 20, 21, 22, 23, 24, 25, 26, 27, 28, 29, 30, 31, 32, 33, 34, 35, 36, 37, 38, 39, 40, 41, 42, 43, 44, 45, 46, 47, 48, 49, 50, 51, 52, 53, 54, 55, 56, 57, 58, 59, 60, 61, 62, 63, 64, 65, 66, 67, 68, 69, 70, 71, 72, 73, 74, 75, 76, 77, 78, 79, 80, 81, 82, 83, 84, 85, 86, 87, 88, 89, 90, 91, 92, 93, 94, 95, 96, 97, 98, 99, 100, 101, 102, 103, 104, 105, 106, 107, 108, 109, 110, 111, 112, 113, 114, 115, 116, 117, 118, 119, 120, 121, 122, 123, 124, 125, 126, 127, 128, 129, 130, 131, 132, 133, 134, 135, 136, 137, 138, 139, 140, 141, 142, 143, 144] (by decide +kernel) (by decide +kernel)) (goodIn_sub (fun _ h => List.mem_cons_of_mem _ (List.mem_append_left _ (List.mem_append_left _ (List.mem_append_right _ h)))) (by decide +kernel))) (goodIn_sub (fun _ h => List.mem_cons_of_mem _ (List.mem_append_left _ (List.mem_append_right _ h))) (by decide +kernel))) (goodIn_sub (fun _ h => List.mem_cons_of_mem _ (List.mem_append_right _ h)) (by decide +kernel))
set_option maxRecDepth 20000 in
theorem gL_wouldBeLit_X10_wouldBeLit : GoodIn wsL_wouldBeLit (wsV RL 109 RX10 yX10_wouldBeLit wsX10_wouldBeLit) := goodIn_app (goodIn_of _ (by decide +kernel)) ggL_wouldBeLit_X10_wouldBeLit
theorem dL_wouldBeLit_0 : decode cL_wouldBeLit 0 = .ok (.aload_n 2, 1) := by decide +kernel
theorem dL_wouldBeLit_1 : decode cL_wouldBeLit 1 = .ok (.iconst 0, 1) := by decide +kernel
theorem dL_wouldBeLit_2 : decode cL_wouldBeLit 2 = .ok (.aload_n 0, 1) := by decide +kernel
theorem dL_wouldBeLit_3 : decode cL_wouldBeLit 3 = .ok (.iload_n 1, 1) := by decide +kernel
theorem dL_wouldBeLit_4 : decode cL_wouldBeLit 4 = .ok (.invokevirtual 109, 3) := by decide +kernel
theorem dL_wouldBeLit_7 : decode cL_wouldBeLit 7 = .ok (.ifCond .eq 7, 3) := by decide +kernel
theorem dL_wouldBeLit_10 : decode cL_wouldBeLit 10 = .ok (.lconst 1, 1) := by decide +kernel
theorem dL_wouldBeLit_11 : decode cL_wouldBeLit 11 = .ok (.goto 4, 3) := by decide +kernel
theorem dL_wouldBeLit_14 : decode cL_wouldBeLit 14 = .ok (.lconst 0, 1) := by decide +kernel
theorem dL_wouldBeLit_15 : decode cL_wouldBeLit 15 = .ok (.lastore, 1) := by decide +kernel
theorem dL_wouldBeLit_16 : decode cL_wouldBeLit 16 = .ok (.goto 6, 3) := by decide +kernel
theorem dL_wouldBeLit_19 : decode cL_wouldBeLit 19 = .ok (.astore_n 3, 1) := by decide +kernel
theorem dL_wouldBeLit_20 : decode cL_wouldBeLit 20 = .ok (.iconst 1, 1) := by decide +kernel
theorem dL_wouldBeLit_21 : decode cL_wouldBeLit 21 = .ok (.ireturn, 1) := by decide +kernel
theorem dL_wouldBeLit_22 : decode cL_wouldBeLit 22 = .ok (.iconst 0, 1) := by decide +kernel
theorem dL_wouldBeLit_23 : decode cL_wouldBeLit 23 = .ok (.ireturn, 1) := by decide +kernel
set_option maxRecDepth 20000 in
theorem ggL_costOf_X10_costOf : GoodIn wsL_costOf wsX10_costOf := goodIn_ca (goodIn_r _ [6, 7, 8, 9, 10, 11, 12] (by decide +kernel) (by decide +kernel)) (goodIn_sub (fun _ h => List.mem_cons_of_mem _ (List.mem_append_right _ h)) (by decide +kernel))
set_option maxRecDepth 20000 in
theorem gL_costOf_X10_costOf : GoodIn wsL_costOf (wsV RL 113 RX10 yX10_costOf wsX10_costOf) := goodIn_app (goodIn_of _ (by decide +kernel)) ggL_costOf_X10_costOf
theorem dL_costOf_0 : decode cL_costOf 0 = .ok (.aload_n 2, 1) := by decide +kernel
theorem dL_costOf_1 : decode cL_costOf 1 = .ok (.iconst 0, 1) := by decide +kernel
theorem dL_costOf_2 : decode cL_costOf 2 = .ok (.aload_n 0, 1) := by decide +kernel
theorem dL_costOf_3 : decode cL_costOf 3 = .ok (.iload_n 1, 1) := by decide +kernel
theorem dL_costOf_4 : decode cL_costOf 4 = .ok (.invokevirtual 113, 3) := by decide +kernel
theorem dL_costOf_7 : decode cL_costOf 7 = .ok (.i2l, 1) := by decide +kernel
theorem dL_costOf_8 : decode cL_costOf 8 = .ok (.lastore, 1) := by decide +kernel
theorem dL_costOf_9 : decode cL_costOf 9 = .ok (.goto 6, 3) := by decide +kernel
theorem dL_costOf_12 : decode cL_costOf 12 = .ok (.astore_n 3, 1) := by decide +kernel
theorem dL_costOf_13 : decode cL_costOf 13 = .ok (.iconst 1, 1) := by decide +kernel
theorem dL_costOf_14 : decode cL_costOf 14 = .ok (.ireturn, 1) := by decide +kernel
theorem dL_costOf_15 : decode cL_costOf 15 = .ok (.iconst 0, 1) := by decide +kernel
theorem dL_costOf_16 : decode cL_costOf 16 = .ok (.ireturn, 1) := by decide +kernel
set_option maxRecDepth 20000 in
theorem ggL_meanMoney_X10_meanMoney : GoodIn wsL_meanMoney wsX10_meanMoney := goodIn_ca (goodIn_ca (goodIn_r _ [6, 7, 8, 9, 10, 11, 12, 13, 14, 15, 16, 17, 18, 19, 20, 21, 22, 23, 24, 25, 26, 27, 28, 29, 30, 31, 32, 33, 34, 35, 36, 37, 38, 39, 40, 41, 42, 43, 44, 45] (by decide +kernel) (by decide +kernel)) (goodIn_sub (fun _ h => List.mem_cons_of_mem _ (List.mem_append_right _ h)) (by decide +kernel))) (goodIn_sub (fun _ h => List.mem_cons_of_mem _ (List.mem_append_left _ (List.mem_append_right _ h))) (by decide +kernel))
set_option maxRecDepth 20000 in
theorem gL_meanMoney_X10_meanMoney : GoodIn wsL_meanMoney (wsV RL 116 RX10 yX10_meanMoney wsX10_meanMoney) := goodIn_app (goodIn_of _ (by decide +kernel)) ggL_meanMoney_X10_meanMoney
theorem dL_meanMoney_0 : decode cL_meanMoney 0 = .ok (.aload_n 1, 1) := by decide +kernel
theorem dL_meanMoney_1 : decode cL_meanMoney 1 = .ok (.iconst 0, 1) := by decide +kernel
theorem dL_meanMoney_2 : decode cL_meanMoney 2 = .ok (.aload_n 0, 1) := by decide +kernel
theorem dL_meanMoney_3 : decode cL_meanMoney 3 = .ok (.invokevirtual 116, 3) := by decide +kernel
theorem dL_meanMoney_6 : decode cL_meanMoney 6 = .ok (.dastore, 1) := by decide +kernel
theorem dL_meanMoney_7 : decode cL_meanMoney 7 = .ok (.goto 6, 3) := by decide +kernel
theorem dL_meanMoney_10 : decode cL_meanMoney 10 = .ok (.astore_n 2, 1) := by decide +kernel
theorem dL_meanMoney_11 : decode cL_meanMoney 11 = .ok (.iconst 1, 1) := by decide +kernel
theorem dL_meanMoney_12 : decode cL_meanMoney 12 = .ok (.ireturn, 1) := by decide +kernel
theorem dL_meanMoney_13 : decode cL_meanMoney 13 = .ok (.iconst 0, 1) := by decide +kernel
theorem dL_meanMoney_14 : decode cL_meanMoney 14 = .ok (.ireturn, 1) := by decide +kernel
set_option maxRecDepth 20000 in
theorem ggL_litShare_X10_litShare : GoodIn wsL_litShare wsX10_litShare := goodIn_ca (goodIn_ca (goodIn_r _ [6, 7, 8, 9, 10, 11, 12, 13, 14, 15, 16, 17, 18, 19, 20, 21, 22, 23, 24, 25, 26, 27, 28, 29, 30, 31, 32, 33, 34, 35, 36, 37, 38, 39, 40, 41, 42, 43, 44, 45, 46, 47, 48, 49] (by decide +kernel) (by decide +kernel)) (goodIn_sub (fun _ h => List.mem_cons_of_mem _ (List.mem_append_right _ h)) (by decide +kernel))) (goodIn_sub (fun _ h => List.mem_cons_of_mem _ (List.mem_append_left _ (List.mem_append_right _ h))) (by decide +kernel))
set_option maxRecDepth 20000 in
theorem gL_litShare_X10_litShare : GoodIn wsL_litShare (wsV RL 122 RX10 yX10_litShare wsX10_litShare) := goodIn_app (goodIn_of _ (by decide +kernel)) ggL_litShare_X10_litShare
theorem dL_litShare_0 : decode cL_litShare 0 = .ok (.aload_n 1, 1) := by decide +kernel
theorem dL_litShare_1 : decode cL_litShare 1 = .ok (.iconst 0, 1) := by decide +kernel
theorem dL_litShare_2 : decode cL_litShare 2 = .ok (.aload_n 0, 1) := by decide +kernel
theorem dL_litShare_3 : decode cL_litShare 3 = .ok (.invokevirtual 122, 3) := by decide +kernel
theorem dL_litShare_6 : decode cL_litShare 6 = .ok (.f2d, 1) := by decide +kernel
theorem dL_litShare_7 : decode cL_litShare 7 = .ok (.dastore, 1) := by decide +kernel
theorem dL_litShare_8 : decode cL_litShare 8 = .ok (.goto 6, 3) := by decide +kernel
theorem dL_litShare_11 : decode cL_litShare 11 = .ok (.astore_n 2, 1) := by decide +kernel
theorem dL_litShare_12 : decode cL_litShare 12 = .ok (.iconst 1, 1) := by decide +kernel
theorem dL_litShare_13 : decode cL_litShare 13 = .ok (.ireturn, 1) := by decide +kernel
theorem dL_litShare_14 : decode cL_litShare 14 = .ok (.iconst 0, 1) := by decide +kernel
theorem dL_litShare_15 : decode cL_litShare 15 = .ok (.ireturn, 1) := by decide +kernel
set_option maxRecDepth 20000 in
theorem ggL_writeSubscriber_X10_writeSubscriber : GoodIn wsL_writeSubscriber wsX10_writeSubscriber := goodIn_ca (goodIn_ca (goodIn_r _ [6, 7, 8, 9, 10, 11, 12, 13, 14, 15, 16, 5, 17, 18, 19, 20, 21, 22, 23, 24, 25, 26, 27, 28, 29, 30, 31, 32, 33, 34, 35, 36, 37, 38, 39, 40, 41, 42, 43, 44, 45, 46, 47, 48, 49, 50, 51, 52, 53, 54, 55, 56, 57, 58, 59, 60, 61, 62, 63, 64, 65, 66, 67, 68, 69, 70, 71, 72, 73, 74, 75, 76, 77, 78, 79, 80, 81, 82, 83, 84, 85, 86, 87, 88, 89, 90, 91, 92, 93, 94, 95, 96, 97, 98, 99, 100, 101, 102, 103, 104, 105, 106, 107, 108, 109, 110, 111, 112, 113, 114, 115, 116, 117, 118, 119, 120, 121, 122, 123, 124, 125, 126, 127, 128, 129, 130, 131, 132, 133, 134, 135, 136, 137, 138, 139, 140, 141, 142, 143, 144, 145, 146, 147, 148, 149, 150, 151, 152, 153, 154, 155, 156, 157, 158, 159, 160, 161, 162, 163, 164, 165, 166, 167, 168, 169, 170, 171, 172, 173, 174, 175, 176, 177, 178, 179, 180, 181, 182, 183, 184, 185, 186, 187, 188, 189, 190, 191, 192, 193, 194, 195, 196, 197, 198, 199, 200, 201, 202, 203, 204, 205, 206, 207, 208, 209, 210, 211, 212, 213, 214, 215, 216, 217, 218, 219, 220, 221, 222, 223, 224, 225, 226, 227, 228, 229, 230, 231, 232, 233, 234, 235, 236, 237, 238, 239, 240, 241, 242, 243, 244, 245, 246, 247, 248, 249, 250, 251, 252, 253, 254, 255, 256, 257, 258, 259, 260, 261, 262, 263, 264, 265, 266, 267, 268, 269, 270, 271, 272, 273, 274, 275, 276, 277, 278, 279, 280, 281, 282, 283, 284, 285, 286, 287, 288, 289, 290, 291, 292, 293, 294, 295] (by decide +kernel) (by decide +kernel)) (goodIn_sub (fun _ h => List.mem_cons_of_mem _ (List.mem_append_left _ (List.mem_append_right _ h))) (by decide +kernel))) (goodIn_sub (fun _ h => List.mem_cons_of_mem _ (List.mem_append_right _ h)) (by decide +kernel))
set_option maxRecDepth 20000 in
theorem gL_writeSubscriber_X10_writeSubscriber : GoodIn wsL_writeSubscriber (wsV RL 126 RX10 yX10_writeSubscriber wsX10_writeSubscriber) := goodIn_app (goodIn_of _ (by decide +kernel)) ggL_writeSubscriber_X10_writeSubscriber
theorem dL_writeSubscriber_0 : decode cL_writeSubscriber 0 = .ok (.aload_n 2, 1) := by decide +kernel
theorem dL_writeSubscriber_1 : decode cL_writeSubscriber 1 = .ok (.iconst 0, 1) := by decide +kernel
theorem dL_writeSubscriber_2 : decode cL_writeSubscriber 2 = .ok (.aload_n 0, 1) := by decide +kernel
theorem dL_writeSubscriber_3 : decode cL_writeSubscriber 3 = .ok (.iload_n 1, 1) := by decide +kernel
theorem dL_writeSubscriber_4 : decode cL_writeSubscriber 4 = .ok (.invokevirtual 126, 3) := by decide +kernel
theorem dL_writeSubscriber_7 : decode cL_writeSubscriber 7 = .ok (.i2l, 1) := by decide +kernel
theorem dL_writeSubscriber_8 : decode cL_writeSubscriber 8 = .ok (.lastore, 1) := by decide +kernel
theorem dL_writeSubscriber_9 : decode cL_writeSubscriber 9 = .ok (.goto 6, 3) := by decide +kernel
theorem dL_writeSubscriber_12 : decode cL_writeSubscriber 12 = .ok (.astore_n 3, 1) := by decide +kernel
theorem dL_writeSubscriber_13 : decode cL_writeSubscriber 13 = .ok (.iconst 1, 1) := by decide +kernel
theorem dL_writeSubscriber_14 : decode cL_writeSubscriber 14 = .ok (.ireturn, 1) := by decide +kernel
theorem dL_writeSubscriber_15 : decode cL_writeSubscriber 15 = .ok (.iconst 0, 1) := by decide +kernel
theorem dL_writeSubscriber_16 : decode cL_writeSubscriber 16 = .ok (.ireturn, 1) := by decide +kernel
set_option maxRecDepth 20000 in
theorem ggL_writeLeg_X10_writeLeg : GoodIn wsL_writeLeg wsX10_writeLeg := goodIn_ca (goodIn_ca (goodIn_r _ [6, 7, 8, 9, 10, 11, 12, 13, 14, 15, 16, 17, 18, 5, 19, 20, 21, 22, 23, 24, 25, 26, 27, 28, 29, 30, 31, 32, 33, 34, 35, 36, 37, 38, 39, 40, 41, 42, 43, 44, 45, 46, 47, 48, 49, 50, 51, 52, 53, 54, 55, 56, 57, 58, 59, 60, 61, 62, 63, 64, 65, 66, 67, 68, 69, 70, 71, 72, 73, 74, 75, 76, 77, 78, 79, 80, 81, 82, 83, 84, 85, 86, 87, 88, 89, 90, 91, 92, 93, 94, 95, 96, 97, 98, 99, 100, 101, 102, 103, 104, 105, 106, 107, 108, 109, 110, 111, 112, 113, 114, 115, 116, 117, 118, 119, 120, 121, 122, 123, 124, 125, 126, 127, 128, 129, 130, 131, 132, 133, 134, 135, 136, 137, 138, 139, 140, 141, 142, 143, 144, 145, 146, 147, 148, 149, 150, 151, 152, 153, 154, 155, 156, 157, 158, 159, 160, 161, 162, 163, 164, 165, 166, 167, 168, 169, 170, 171, 172, 173, 174, 175, 176, 177, 178, 179, 180, 181, 182, 183, 184, 185, 186, 187, 188, 189, 190, 191, 192, 193, 194, 195, 196, 197, 198, 199, 200, 201, 202, 203, 204, 205, 206, 207, 208, 209, 210, 211, 212, 213, 214, 215, 216, 217, 218, 219, 220, 221, 222, 223, 224, 225, 226, 227, 228, 229, 230, 231, 232, 233, 234, 235, 236, 237, 238, 239, 240, 241, 242, 243, 244, 245, 246, 247, 248, 249, 250, 251, 252, 253, 254] (by decide +kernel) (by decide +kernel)) (goodIn_sub (fun _ h => List.mem_cons_of_mem _ (List.mem_append_left _ (List.mem_append_right _ h))) (by decide +kernel))) (goodIn_sub (fun _ h => List.mem_cons_of_mem _ (List.mem_append_right _ h)) (by decide +kernel))
set_option maxRecDepth 20000 in
theorem gL_writeLeg_X10_writeLeg : GoodIn wsL_writeLeg (wsV RL 129 RX10 yX10_writeLeg wsX10_writeLeg) := goodIn_app (goodIn_of _ (by decide +kernel)) ggL_writeLeg_X10_writeLeg
theorem dL_writeLeg_0 : decode cL_writeLeg 0 = .ok (.aload_n 2, 1) := by decide +kernel
theorem dL_writeLeg_1 : decode cL_writeLeg 1 = .ok (.iconst 0, 1) := by decide +kernel
theorem dL_writeLeg_2 : decode cL_writeLeg 2 = .ok (.aload_n 0, 1) := by decide +kernel
theorem dL_writeLeg_3 : decode cL_writeLeg 3 = .ok (.iload_n 1, 1) := by decide +kernel
theorem dL_writeLeg_4 : decode cL_writeLeg 4 = .ok (.invokevirtual 129, 3) := by decide +kernel
theorem dL_writeLeg_7 : decode cL_writeLeg 7 = .ok (.i2l, 1) := by decide +kernel
theorem dL_writeLeg_8 : decode cL_writeLeg 8 = .ok (.lastore, 1) := by decide +kernel
theorem dL_writeLeg_9 : decode cL_writeLeg 9 = .ok (.goto 6, 3) := by decide +kernel
theorem dL_writeLeg_12 : decode cL_writeLeg 12 = .ok (.astore_n 3, 1) := by decide +kernel
theorem dL_writeLeg_13 : decode cL_writeLeg 13 = .ok (.iconst 1, 1) := by decide +kernel
theorem dL_writeLeg_14 : decode cL_writeLeg 14 = .ok (.ireturn, 1) := by decide +kernel
theorem dL_writeLeg_15 : decode cL_writeLeg 15 = .ok (.iconst 0, 1) := by decide +kernel
theorem dL_writeLeg_16 : decode cL_writeLeg 16 = .ok (.ireturn, 1) := by decide +kernel
set_option maxRecDepth 20000 in
theorem ggL_lineAt_X10_lineAt : GoodIn wsL_lineAt wsX10_lineAt := goodIn_ca (goodIn_r _ [6, 7, 8, 9, 10, 11, 12, 13, 14, 15, 16, 17, 18, 19, 20, 21, 22, 23, 24, 25, 26, 27, 28, 29, 30, 31, 32, 33, 34, 35, 36, 37, 38, 39, 40, 41, 42, 43, 44, 45, 46, 47, 48, 49, 50, 51, 52, 53, 54, 55, 56, 57, 58, 59, 60, 61, 62, 63, 64, 65, 66, 67] (by decide +kernel) (by decide +kernel)) (goodIn_sub (fun _ h => List.mem_cons_of_mem _ (List.mem_append_right _ h)) (by decide +kernel))
set_option maxRecDepth 20000 in
theorem gL_lineAt_X10_lineAt : GoodIn wsL_lineAt (wsV RL 132 RX10 yX10_lineAt wsX10_lineAt) := goodIn_app (goodIn_of _ (by decide +kernel)) ggL_lineAt_X10_lineAt
theorem dL_lineAt_0 : decode cL_lineAt 0 = .ok (.aload_n 2, 1) := by decide +kernel
theorem dL_lineAt_1 : decode cL_lineAt 1 = .ok (.iconst 0, 1) := by decide +kernel
theorem dL_lineAt_2 : decode cL_lineAt 2 = .ok (.aload_n 0, 1) := by decide +kernel
theorem dL_lineAt_3 : decode cL_lineAt 3 = .ok (.iload_n 1, 1) := by decide +kernel
theorem dL_lineAt_4 : decode cL_lineAt 4 = .ok (.invokevirtual 132, 3) := by decide +kernel
theorem dL_lineAt_7 : decode cL_lineAt 7 = .ok (.i2l, 1) := by decide +kernel
theorem dL_lineAt_8 : decode cL_lineAt 8 = .ok (.lastore, 1) := by decide +kernel
theorem dL_lineAt_9 : decode cL_lineAt 9 = .ok (.goto 6, 3) := by decide +kernel
theorem dL_lineAt_12 : decode cL_lineAt 12 = .ok (.astore_n 3, 1) := by decide +kernel
theorem dL_lineAt_13 : decode cL_lineAt 13 = .ok (.iconst 1, 1) := by decide +kernel
theorem dL_lineAt_14 : decode cL_lineAt 14 = .ok (.ireturn, 1) := by decide +kernel
theorem dL_lineAt_15 : decode cL_lineAt 15 = .ok (.iconst 0, 1) := by decide +kernel
theorem dL_lineAt_16 : decode cL_lineAt 16 = .ok (.ireturn, 1) := by decide +kernel
set_option maxRecDepth 20000 in
theorem ggL_type_X10_type : GoodIn wsL_type wsX10_type := goodIn_ca (goodIn_ca (goodIn_ca (goodIn_r _ [6, 7, 8, 9, 10, 11, 12, 13, 14, 15, 16, 17, 18, 19, 20, 21, 22, 23, 24, 25, 26, 27, 28, 29, 30, 31, 32, 33, 34, 35, 36, 37] (by decide +kernel) (by decide +kernel)) (goodIn_sub (fun _ h => List.mem_cons_of_mem _ (List.mem_append_left _ (List.mem_append_right _ h))) (by decide +kernel))) (goodIn_sub (fun _ h => List.mem_cons_of_mem _ (List.mem_append_right _ h)) (by decide +kernel))) (goodIn_sub (fun _ h => List.mem_cons_of_mem _ (List.mem_append_left _ (List.mem_append_left _ (List.mem_append_right _ h)))) (by decide +kernel))
set_option maxRecDepth 20000 in
theorem gL_type_X10_type : GoodIn wsL_type (wsV RL 136 RX10 yX10_type wsX10_type) := goodIn_app (goodIn_of _ (by decide +kernel)) ggL_type_X10_type
theorem dL_type_0 : decode cL_type 0 = .ok (.aload_n 2, 1) := by decide +kernel
theorem dL_type_1 : decode cL_type 1 = .ok (.iconst 0, 1) := by decide +kernel
theorem dL_type_2 : decode cL_type 2 = .ok (.aload_n 0, 1) := by decide +kernel
theorem dL_type_3 : decode cL_type 3 = .ok (.iload_n 1, 1) := by decide +kernel
theorem dL_type_4 : decode cL_type 4 = .ok (.invokevirtual 136, 3) := by decide +kernel
theorem dL_type_7 : decode cL_type 7 = .ok (.i2l, 1) := by decide +kernel
theorem dL_type_8 : decode cL_type 8 = .ok (.lastore, 1) := by decide +kernel
theorem dL_type_9 : decode cL_type 9 = .ok (.goto 9, 3) := by decide +kernel
theorem dL_type_12 : decode cL_type 12 = .ok (.astore_n 3, 1) := by decide +kernel
theorem dL_type_13 : decode cL_type 13 = .ok (.iconst 1, 1) := by decide +kernel
theorem dL_type_14 : decode cL_type 14 = .ok (.ireturn, 1) := by decide +kernel
theorem dL_type_15 : decode cL_type 15 = .ok (.astore_n 3, 1) := by decide +kernel
theorem dL_type_16 : decode cL_type 16 = .ok (.iconst 2, 1) := by decide +kernel
theorem dL_type_17 : decode cL_type 17 = .ok (.ireturn, 1) := by decide +kernel
theorem dL_type_18 : decode cL_type 18 = .ok (.iconst 0, 1) := by decide +kernel
theorem dL_type_19 : decode cL_type 19 = .ok (.ireturn, 1) := by decide +kernel
set_option maxRecDepth 20000 in
theorem ggL_execute_X10_execute : GoodIn wsL_execute wsX10_execute := goodIn_ca (goodIn_ca (goodIn_ca (goodIn_ca (goodIn_r _ [6, 7, 8, 9, 10, 11, 12, 13, 14, 15, 16, 17, 18, 19, 20, 21, 22, 23, 24, 25, 26, 27, 28, 29, 30, 31, 32, 33, 34, 35, 36, 37, 38, 39, 40, 41, 42, 43, 44, 45, 46, 47, 48, 49, 50, 51, 52, 53, 54, 55, 56, 57, 58, 59, 60, 61, 62, 63, 64, 65, 66, 67, 68, 69, 70, 71, 72, 73, 74, 75, 76, 77, 78, 79, 80, 81, 82, 83, 84, 85, 86, 87, 88, 89, 90, 91, 92, 93, 94, 95, 96, 97, 98, 99, 100, 101, 102, 103, 104, 105, 106, 107, 108, 109, 110, 111, 112, 113, 114, 115, 116, 117, 118, 119, 120, 121, 122, 123, 124, 125, 126, 127, 128, 129, 130, 131, 132, 133, 134, 135, 136, 137, 138, 139, 140, 141, 142, 143, 144, 145, 146, 147, 148, 149, 150, 151, 152, 153, 154, 155, 156, 157, 158, 159, 160, 161, 162, 163, 164, 165, 166, 167, 168, 169, 170, 171, 172, 173, 174, 175, 176, 177, 178, 179, 180, 181, 182, 183, 184, 185, 186, 187, 188, 189, 190, 191, 192, 193, 194, 195, 196, 197, 198, 199, 200, 201, 202, 203, 204, 205, 206, 207, 208, 209, 210, 211, 212, 213, 214, 215, 216, 217, 218, 219, 220, 221, 222, 223, 224, 225, 226, 227, 228, 229, 230, 231, 232, 233, 234, 235, 236, 237, 238, 239, 240, 241, 242, 243, 244, 245, 246, 247, 248, 249, 250, 251, 252, 253, 254, 255, 256, 257, 258, 259, 260, 261, 262, 263, 264, 265, 266, 267, 268, 269, 270, 271, 272, 273, 274, 275, 276, 277, 278, 279, 280, 281, 282, 283, 284, 285, 286, 287, 288, 289, 290, 291, 292, 293, 294, 295, 296, 297, 298, 299, 300, 301, 302, 303, 304, 305, 306, 307, 308, 309, 310, 311, 312, 313, 314, 315, 316, 317, 318, 319, 320, 321, 322, 323, 324, 325, 326, 327, 328, 329, 330, 331, 332, 333, 334, 335, 336, 337, 338, 339, 340, 341, 342, 343, 344, 345, 346, 347, 348, 349, 350, 351, 352, 353, 354, 355, 356, 357, 358, 359, 360, 361, 362, 363, 364, 365, 366, 367, 368, 369, 370, 371, 372, 373, 374, 375, 376, 377, 378, 379, 380, 381, 382, 383, 384, 385, 386, 387, 388, 389, 390, 391, 392, 393, 394, 395, 396, 397, 398, 399, 400, 401, 402, 403, 404, 405, 406, 407, 408, 409, 410, 411, 412, 413, 414, 415, 416, 417, 418, 419, 420, 421, 422, 423, 424, 425, 426, 427, 428, 429, 430, 431, 432, 433, 434, 435, 436, 437, 438, 439, 440, 441, 442, 443, 444, 445, 446, 447] (by decide +kernel) (by decide +kernel)) (goodIn_sub (fun _ h => List.mem_cons_of_mem _ (List.mem_append_left _ (List.mem_append_left _ (List.mem_append_right _ h)))) (by decide +kernel))) (goodIn_sub (fun _ h => List.mem_cons_of_mem _ (List.mem_append_left _ (List.mem_append_right _ h))) (by decide +kernel))) (goodIn_sub (fun _ h => List.mem_cons_of_mem _ (List.mem_append_left _ (List.mem_append_left _ (List.mem_append_left _ (List.mem_append_right _ h))))) (by decide +kernel))) (goodIn_sub (fun _ h => List.mem_cons_of_mem _ (List.mem_append_right _ h)) (by decide +kernel))
set_option maxRecDepth 20000 in
theorem gL_execute_X10_execute : GoodIn wsL_execute (wsV RL 140 RX10 yX10_execute wsX10_execute) := goodIn_app (goodIn_of _ (by decide +kernel)) ggL_execute_X10_execute
theorem dL_execute_0 : decode cL_execute 0 = .ok (.aload_n 1, 1) := by decide +kernel
theorem dL_execute_1 : decode cL_execute 1 = .ok (.iconst 0, 1) := by decide +kernel
theorem dL_execute_2 : decode cL_execute 2 = .ok (.aload_n 0, 1) := by decide +kernel
theorem dL_execute_3 : decode cL_execute 3 = .ok (.invokevirtual 140, 3) := by decide +kernel
theorem dL_execute_6 : decode cL_execute 6 = .ok (.i2l, 1) := by decide +kernel
theorem dL_execute_7 : decode cL_execute 7 = .ok (.lastore, 1) := by decide +kernel
theorem dL_execute_8 : decode cL_execute 8 = .ok (.goto 9, 3) := by decide +kernel
theorem dL_execute_11 : decode cL_execute 11 = .ok (.astore_n 2, 1) := by decide +kernel
theorem dL_execute_12 : decode cL_execute 12 = .ok (.iconst 1, 1) := by decide +kernel
theorem dL_execute_13 : decode cL_execute 13 = .ok (.ireturn, 1) := by decide +kernel
theorem dL_execute_14 : decode cL_execute 14 = .ok (.astore_n 2, 1) := by decide +kernel
theorem dL_execute_15 : decode cL_execute 15 = .ok (.iconst 2, 1) := by decide +kernel
theorem dL_execute_16 : decode cL_execute 16 = .ok (.ireturn, 1) := by decide +kernel
theorem dL_execute_17 : decode cL_execute 17 = .ok (.iconst 0, 1) := by decide +kernel
theorem dL_execute_18 : decode cL_execute 18 = .ok (.ireturn, 1) := by decide +kernel
set_option maxRecDepth 20000 in
theorem ggL_errorPosition_X10_errorPosition : GoodIn wsL_errorPosition wsX10_errorPosition := goodIn_ca (goodIn_r _ [6, 7, 8, 9, 5, 10, 11, 12, 13, 14, 15, 16, 17, 18, 19, 20, 21] (by decide +kernel) (by decide +kernel)) (goodIn_sub (fun _ h => List.mem_cons_of_mem _ (List.mem_append_right _ h)) (by decide +kernel))
set_option maxRecDepth 20000 in
theorem gL_errorPosition_X10_errorPosition : GoodIn wsL_errorPosition (wsV RL 143 RX10 yX10_errorPosition wsX10_errorPosition) := goodIn_app (goodIn_of _ (by decide +kernel)) ggL_errorPosition_X10_errorPosition
theorem dL_errorPosition_0 : decode cL_errorPosition 0 = .ok (.aload_n 1, 1) := by decide +kernel
theorem dL_errorPosition_1 : decode cL_errorPosition 1 = .ok (.iconst 0, 1) := by decide +kernel
theorem dL_errorPosition_2 : decode cL_errorPosition 2 = .ok (.aload_n 0, 1) := by decide +kernel
theorem dL_errorPosition_3 : decode cL_errorPosition 3 = .ok (.invokevirtual 143, 3) := by decide +kernel
theorem dL_errorPosition_6 : decode cL_errorPosition 6 = .ok (.i2l, 1) := by decide +kernel
theorem dL_errorPosition_7 : decode cL_errorPosition 7 = .ok (.lastore, 1) := by decide +kernel
theorem dL_errorPosition_8 : decode cL_errorPosition 8 = .ok (.goto 6, 3) := by decide +kernel
theorem dL_errorPosition_11 : decode cL_errorPosition 11 = .ok (.astore_n 2, 1) := by decide +kernel
theorem dL_errorPosition_12 : decode cL_errorPosition 12 = .ok (.iconst 1, 1) := by decide +kernel
theorem dL_errorPosition_13 : decode cL_errorPosition 13 = .ok (.ireturn, 1) := by decide +kernel
theorem dL_errorPosition_14 : decode cL_errorPosition 14 = .ok (.iconst 0, 1) := by decide +kernel
theorem dL_errorPosition_15 : decode cL_errorPosition 15 = .ok (.ireturn, 1) := by decide +kernel
set_option maxRecDepth 20000 in
theorem ggL_failedCommand_X10_failedCommand : GoodIn wsL_failedCommand wsX10_failedCommand := goodIn_ca (goodIn_r _ [6, 7, 8, 9, 5, 10, 11, 12, 13, 14, 15, 16, 17, 18, 19, 20, 21] (by decide +kernel) (by decide +kernel)) (goodIn_sub (fun _ h => List.mem_cons_of_mem _ (List.mem_append_right _ h)) (by decide +kernel))
set_option maxRecDepth 20000 in
theorem gL_failedCommand_X10_failedCommand : GoodIn wsL_failedCommand (wsV RL 146 RX10 yX10_failedCommand wsX10_failedCommand) := goodIn_app (goodIn_of _ (by decide +kernel)) ggL_failedCommand_X10_failedCommand
theorem dL_failedCommand_0 : decode cL_failedCommand 0 = .ok (.aload_n 1, 1) := by decide +kernel
theorem dL_failedCommand_1 : decode cL_failedCommand 1 = .ok (.iconst 0, 1) := by decide +kernel
theorem dL_failedCommand_2 : decode cL_failedCommand 2 = .ok (.aload_n 0, 1) := by decide +kernel
theorem dL_failedCommand_3 : decode cL_failedCommand 3 = .ok (.invokevirtual 146, 3) := by decide +kernel
theorem dL_failedCommand_6 : decode cL_failedCommand 6 = .ok (.i2l, 1) := by decide +kernel
theorem dL_failedCommand_7 : decode cL_failedCommand 7 = .ok (.lastore, 1) := by decide +kernel
theorem dL_failedCommand_8 : decode cL_failedCommand 8 = .ok (.goto 6, 3) := by decide +kernel
theorem dL_failedCommand_11 : decode cL_failedCommand 11 = .ok (.astore_n 2, 1) := by decide +kernel
theorem dL_failedCommand_12 : decode cL_failedCommand 12 = .ok (.iconst 1, 1) := by decide +kernel
theorem dL_failedCommand_13 : decode cL_failedCommand 13 = .ok (.ireturn, 1) := by decide +kernel
theorem dL_failedCommand_14 : decode cL_failedCommand 14 = .ok (.iconst 0, 1) := by decide +kernel
theorem dL_failedCommand_15 : decode cL_failedCommand 15 = .ok (.ireturn, 1) := by decide +kernel
set_option maxRecDepth 20000 in
theorem ggL_undo_X10_undo : GoodIn wsL_undo wsX10_undo := goodIn_ca (goodIn_r _ [6, 7, 8, 9, 10, 11, 12, 13, 14, 15, 16, 17, 18, 19, 20, 21, 22, 23, 24, 25, 26, 27, 28, 29, 30, 31, 32, 33, 34, 35, 36, 37, 38, 39, 40, 41, 42, 43, 44, 45, 46, 47, 48, 49, 50, 51, 52, 53, 54, 55, 56, 57, 58, 59, 60, 61, 62, 63, 64, 65, 66, 67, 68, 69, 70, 71, 72, 73, 74, 75, 76, 77, 78, 79, 80, 81, 82, 83, 84, 85, 86, 87, 88, 89, 90, 91, 92, 93, 94, 95, 96, 97] (by decide +kernel) (by decide +kernel)) (goodIn_sub (fun _ h => List.mem_cons_of_mem _ (List.mem_append_right _ h)) (by decide +kernel))
set_option maxRecDepth 20000 in
theorem gL_undo_X10_undo : GoodIn wsL_undo (wsV RL 149 RX10 yX10_undo wsX10_undo) := goodIn_app (goodIn_of _ (by decide +kernel)) ggL_undo_X10_undo
theorem dL_undo_0 : decode cL_undo 0 = .ok (.aload_n 1, 1) := by decide +kernel
theorem dL_undo_1 : decode cL_undo 1 = .ok (.iconst 0, 1) := by decide +kernel
theorem dL_undo_2 : decode cL_undo 2 = .ok (.aload_n 0, 1) := by decide +kernel
theorem dL_undo_3 : decode cL_undo 3 = .ok (.invokevirtual 149, 3) := by decide +kernel
theorem dL_undo_6 : decode cL_undo 6 = .ok (.i2l, 1) := by decide +kernel
theorem dL_undo_7 : decode cL_undo 7 = .ok (.lastore, 1) := by decide +kernel
theorem dL_undo_8 : decode cL_undo 8 = .ok (.goto 6, 3) := by decide +kernel
theorem dL_undo_11 : decode cL_undo 11 = .ok (.astore_n 2, 1) := by decide +kernel
theorem dL_undo_12 : decode cL_undo 12 = .ok (.iconst 1, 1) := by decide +kernel
theorem dL_undo_13 : decode cL_undo 13 = .ok (.ireturn, 1) := by decide +kernel
theorem dL_undo_14 : decode cL_undo 14 = .ok (.iconst 0, 1) := by decide +kernel
theorem dL_undo_15 : decode cL_undo 15 = .ok (.ireturn, 1) := by decide +kernel
set_option maxRecDepth 20000 in
theorem ggL_restore_X10_restore : GoodIn wsL_restore wsX10_restore := goodIn_ca (goodIn_r _ [6, 7, 8, 9, 10, 11, 12, 13, 14, 15, 16, 17, 18, 19, 20, 21, 22, 23, 24, 25, 26, 27, 28, 29, 30, 31, 32, 33, 34, 35, 36, 37, 38, 39, 40, 41, 42, 43, 44, 45, 46, 47, 48, 49, 50, 51, 52, 53, 54, 55, 56, 57, 58, 59, 60, 61, 62, 63, 64, 65, 66, 67, 68, 69, 70, 71, 72, 73, 74, 75, 76, 77, 78, 79, 80, 81, 82, 83, 84, 85, 86, 87, 88, 89, 90, 91, 92, 93, 94, 95, 96, 97, 98] (by decide +kernel) (by decide +kernel)) (goodIn_sub (fun _ h => List.mem_cons_of_mem _ (List.mem_append_right _ h)) (by decide +kernel))
