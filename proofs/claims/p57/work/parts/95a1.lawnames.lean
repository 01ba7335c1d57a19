/-! ===== the law's names, decode 1 ===== -/
theorem dL_cell_0 : decode cL_cell 0 = .ok (.iload_n 1, 1) := by decide +kernel
theorem dL_cell_1 : decode cL_cell 1 = .ok (.aload_n 0, 1) := by decide +kernel
theorem dL_cell_2 : decode cL_cell 2 = .ok (.arraylength, 1) := by decide +kernel
theorem dL_cell_3 : decode cL_cell 3 = .ok (.if_icmp .ge 9, 3) := by decide +kernel
theorem dL_cell_6 : decode cL_cell 6 = .ok (.aload_n 0, 1) := by decide +kernel
theorem dL_cell_7 : decode cL_cell 7 = .ok (.iload_n 1, 1) := by decide +kernel
theorem dL_cell_8 : decode cL_cell 8 = .ok (.iaload, 1) := by decide +kernel
theorem dL_cell_9 : decode cL_cell 9 = .ok (.goto 7, 3) := by decide +kernel
theorem dL_cell_12 : decode cL_cell 12 = .ok (.ldc 7, 2) := by decide +kernel
theorem dL_cell_14 : decode cL_cell 14 = .ok (.iload_n 1, 1) := by decide +kernel
theorem dL_cell_15 : decode cL_cell 15 = .ok (.imul, 1) := by decide +kernel
theorem dL_cell_16 : decode cL_cell 16 = .ok (.ireturn, 1) := by decide +kernel
theorem dL_addPort_0 : decode cL_addPort 0 = .ok (.aload_n 0, 1) := by decide +kernel
theorem dL_addPort_1 : decode cL_addPort 1 = .ok (.invokevirtual 8, 3) := by decide +kernel
theorem dL_addPort_4 : decode cL_addPort 4 = .ok (.ireturn, 1) := by decide +kernel
theorem dL_addPort_5 : decode cL_addPort 5 = .ok (.astore_n 1, 1) := by decide +kernel
theorem dL_addPort_6 : decode cL_addPort 6 = .ok (.iconst (-1), 1) := by decide +kernel
theorem dL_addPort_7 : decode cL_addPort 7 = .ok (.ireturn, 1) := by decide +kernel
theorem dL_addLeg_0 : decode cL_addLeg 0 = .ok (.aload_n 0, 1) := by decide +kernel
theorem dL_addLeg_1 : decode cL_addLeg 1 = .ok (.iload_n 1, 1) := by decide +kernel
theorem dL_addLeg_2 : decode cL_addLeg 2 = .ok (.iload_n 2, 1) := by decide +kernel
theorem dL_addLeg_3 : decode cL_addLeg 3 = .ok (.iload_n 3, 1) := by decide +kernel
theorem dL_addLeg_4 : decode cL_addLeg 4 = .ok (.iload 4, 2) := by decide +kernel
theorem dL_addLeg_6 : decode cL_addLeg 6 = .ok (.invokevirtual 16, 3) := by decide +kernel
theorem dL_addLeg_9 : decode cL_addLeg 9 = .ok (.ireturn, 1) := by decide +kernel
theorem dL_addLeg_10 : decode cL_addLeg 10 = .ok (.astore 5, 2) := by decide +kernel
theorem dL_addLeg_12 : decode cL_addLeg 12 = .ok (.iconst (-1), 1) := by decide +kernel
theorem dL_addLeg_13 : decode cL_addLeg 13 = .ok (.ireturn, 1) := by decide +kernel
theorem dL_addLeg_14 : decode cL_addLeg 14 = .ok (.astore 5, 2) := by decide +kernel
theorem dL_addLeg_16 : decode cL_addLeg 16 = .ok (.bipush (-2), 2) := by decide +kernel
theorem dL_addLeg_18 : decode cL_addLeg 18 = .ok (.ireturn, 1) := by decide +kernel
theorem dL_addLeg_19 : decode cL_addLeg 19 = .ok (.astore 5, 2) := by decide +kernel
theorem dL_addLeg_21 : decode cL_addLeg 21 = .ok (.bipush (-3), 2) := by decide +kernel
theorem dL_addLeg_23 : decode cL_addLeg 23 = .ok (.ireturn, 1) := by decide +kernel
theorem dL_removeLeg_0 : decode cL_removeLeg 0 = .ok (.aload_n 0, 1) := by decide +kernel
theorem dL_removeLeg_1 : decode cL_removeLeg 1 = .ok (.iload_n 1, 1) := by decide +kernel
theorem dL_removeLeg_2 : decode cL_removeLeg 2 = .ok (.iload_n 2, 1) := by decide +kernel
theorem dL_removeLeg_3 : decode cL_removeLeg 3 = .ok (.invokevirtual 24, 3) := by decide +kernel
theorem dL_removeLeg_6 : decode cL_removeLeg 6 = .ok (.ireturn, 1) := by decide +kernel
theorem dL_removeLeg_7 : decode cL_removeLeg 7 = .ok (.astore_n 3, 1) := by decide +kernel
theorem dL_removeLeg_8 : decode cL_removeLeg 8 = .ok (.iconst (-1), 1) := by decide +kernel
theorem dL_removeLeg_9 : decode cL_removeLeg 9 = .ok (.ireturn, 1) := by decide +kernel
theorem dL_removeLeg_10 : decode cL_removeLeg 10 = .ok (.astore_n 3, 1) := by decide +kernel
theorem dL_removeLeg_11 : decode cL_removeLeg 11 = .ok (.bipush (-2), 2) := by decide +kernel
theorem dL_removeLeg_13 : decode cL_removeLeg 13 = .ok (.ireturn, 1) := by decide +kernel
theorem dL_hasLeg_0 : decode cL_hasLeg 0 = .ok (.aload_n 0, 1) := by decide +kernel
theorem dL_hasLeg_1 : decode cL_hasLeg 1 = .ok (.iload_n 1, 1) := by decide +kernel
theorem dL_hasLeg_2 : decode cL_hasLeg 2 = .ok (.iload_n 2, 1) := by decide +kernel
theorem dL_hasLeg_3 : decode cL_hasLeg 3 = .ok (.invokevirtual 30, 3) := by decide +kernel
theorem dL_hasLeg_6 : decode cL_hasLeg 6 = .ok (.ifCond .eq 7, 3) := by decide +kernel
theorem dL_hasLeg_9 : decode cL_hasLeg 9 = .ok (.iconst 1, 1) := by decide +kernel
theorem dL_hasLeg_10 : decode cL_hasLeg 10 = .ok (.goto 4, 3) := by decide +kernel
theorem dL_hasLeg_13 : decode cL_hasLeg 13 = .ok (.iconst 0, 1) := by decide +kernel
theorem dL_hasLeg_14 : decode cL_hasLeg 14 = .ok (.ireturn, 1) := by decide +kernel
theorem dL_hasLeg_15 : decode cL_hasLeg 15 = .ok (.astore_n 3, 1) := by decide +kernel
theorem dL_hasLeg_16 : decode cL_hasLeg 16 = .ok (.bipush (-11), 2) := by decide +kernel
theorem dL_hasLeg_18 : decode cL_hasLeg 18 = .ok (.ireturn, 1) := by decide +kernel
theorem dL_lengthOf_0 : decode cL_lengthOf 0 = .ok (.aload_n 0, 1) := by decide +kernel
theorem dL_lengthOf_1 : decode cL_lengthOf 1 = .ok (.iload_n 1, 1) := by decide +kernel
theorem dL_lengthOf_2 : decode cL_lengthOf 2 = .ok (.iload_n 2, 1) := by decide +kernel
theorem dL_lengthOf_3 : decode cL_lengthOf 3 = .ok (.invokevirtual 34, 3) := by decide +kernel
theorem dL_lengthOf_6 : decode cL_lengthOf 6 = .ok (.ireturn, 1) := by decide +kernel
theorem dL_lengthOf_7 : decode cL_lengthOf 7 = .ok (.astore_n 3, 1) := by decide +kernel
theorem dL_lengthOf_8 : decode cL_lengthOf 8 = .ok (.bipush (-11), 2) := by decide +kernel
theorem dL_lengthOf_10 : decode cL_lengthOf 10 = .ok (.ireturn, 1) := by decide +kernel
theorem dL_lengthOf_11 : decode cL_lengthOf 11 = .ok (.astore_n 3, 1) := by decide +kernel
theorem dL_lengthOf_12 : decode cL_lengthOf 12 = .ok (.bipush (-13), 2) := by decide +kernel
theorem dL_lengthOf_14 : decode cL_lengthOf 14 = .ok (.ireturn, 1) := by decide +kernel
theorem dL_reachOf_0 : decode cL_reachOf 0 = .ok (.aload_n 0, 1) := by decide +kernel
theorem dL_reachOf_1 : decode cL_reachOf 1 = .ok (.iload_n 1, 1) := by decide +kernel
theorem dL_reachOf_2 : decode cL_reachOf 2 = .ok (.iload_n 2, 1) := by decide +kernel
theorem dL_reachOf_3 : decode cL_reachOf 3 = .ok (.invokevirtual 37, 3) := by decide +kernel
theorem dL_reachOf_6 : decode cL_reachOf 6 = .ok (.ireturn, 1) := by decide +kernel
theorem dL_reachOf_7 : decode cL_reachOf 7 = .ok (.astore_n 3, 1) := by decide +kernel
theorem dL_reachOf_8 : decode cL_reachOf 8 = .ok (.bipush (-11), 2) := by decide +kernel
theorem dL_reachOf_10 : decode cL_reachOf 10 = .ok (.ireturn, 1) := by decide +kernel
theorem dL_reachOf_11 : decode cL_reachOf 11 = .ok (.astore_n 3, 1) := by decide +kernel
theorem dL_reachOf_12 : decode cL_reachOf 12 = .ok (.bipush (-13), 2) := by decide +kernel
theorem dL_reachOf_14 : decode cL_reachOf 14 = .ok (.ireturn, 1) := by decide +kernel
theorem dL_meterOf_0 : decode cL_meterOf 0 = .ok (.aload_n 0, 1) := by decide +kernel
theorem dL_meterOf_1 : decode cL_meterOf 1 = .ok (.iload_n 1, 1) := by decide +kernel
theorem dL_meterOf_2 : decode cL_meterOf 2 = .ok (.iload_n 2, 1) := by decide +kernel
theorem dL_meterOf_3 : decode cL_meterOf 3 = .ok (.invokevirtual 40, 3) := by decide +kernel
theorem dL_meterOf_6 : decode cL_meterOf 6 = .ok (.ireturn, 1) := by decide +kernel
theorem dL_meterOf_7 : decode cL_meterOf 7 = .ok (.astore_n 3, 1) := by decide +kernel
theorem dL_meterOf_8 : decode cL_meterOf 8 = .ok (.bipush (-11), 2) := by decide +kernel
theorem dL_meterOf_10 : decode cL_meterOf 10 = .ok (.ireturn, 1) := by decide +kernel
theorem dL_meterOf_11 : decode cL_meterOf 11 = .ok (.astore_n 3, 1) := by decide +kernel
theorem dL_meterOf_12 : decode cL_meterOf 12 = .ok (.bipush (-13), 2) := by decide +kernel
theorem dL_meterOf_14 : decode cL_meterOf 14 = .ok (.ireturn, 1) := by decide +kernel
theorem dL_isLit_0 : decode cL_isLit 0 = .ok (.aload_n 0, 1) := by decide +kernel
theorem dL_isLit_1 : decode cL_isLit 1 = .ok (.iload_n 1, 1) := by decide +kernel
theorem dL_isLit_2 : decode cL_isLit 2 = .ok (.iload_n 2, 1) := by decide +kernel
theorem dL_isLit_3 : decode cL_isLit 3 = .ok (.invokevirtual 43, 3) := by decide +kernel
theorem dL_isLit_6 : decode cL_isLit 6 = .ok (.ifCond .eq 7, 3) := by decide +kernel
theorem dL_isLit_9 : decode cL_isLit 9 = .ok (.iconst 1, 1) := by decide +kernel
theorem dL_isLit_10 : decode cL_isLit 10 = .ok (.goto 4, 3) := by decide +kernel
theorem dL_isLit_13 : decode cL_isLit 13 = .ok (.iconst 0, 1) := by decide +kernel
theorem dL_isLit_14 : decode cL_isLit 14 = .ok (.ireturn, 1) := by decide +kernel
theorem dL_isLit_15 : decode cL_isLit 15 = .ok (.astore_n 3, 1) := by decide +kernel
theorem dL_isLit_16 : decode cL_isLit 16 = .ok (.bipush (-11), 2) := by decide +kernel
theorem dL_isLit_18 : decode cL_isLit 18 = .ok (.ireturn, 1) := by decide +kernel
theorem dL_isLit_19 : decode cL_isLit 19 = .ok (.astore_n 3, 1) := by decide +kernel
theorem dL_isLit_20 : decode cL_isLit 20 = .ok (.bipush (-13), 2) := by decide +kernel
theorem dL_isLit_22 : decode cL_isLit 22 = .ok (.ireturn, 1) := by decide +kernel
theorem dL_lower_0 : decode cL_lower 0 = .ok (.aload_n 0, 1) := by decide +kernel
theorem dL_lower_1 : decode cL_lower 1 = .ok (.iload_n 1, 1) := by decide +kernel
theorem dL_lower_2 : decode cL_lower 2 = .ok (.invokevirtual 46, 3) := by decide +kernel
theorem dL_lower_5 : decode cL_lower 5 = .ok (.ireturn, 1) := by decide +kernel
theorem dL_lower_6 : decode cL_lower 6 = .ok (.astore_n 2, 1) := by decide +kernel
theorem dL_lower_7 : decode cL_lower 7 = .ok (.bipush (-11), 2) := by decide +kernel
theorem dL_lower_9 : decode cL_lower 9 = .ok (.ireturn, 1) := by decide +kernel
theorem dL_upper_0 : decode cL_upper 0 = .ok (.aload_n 0, 1) := by decide +kernel
theorem dL_upper_1 : decode cL_upper 1 = .ok (.iload_n 1, 1) := by decide +kernel
theorem dL_upper_2 : decode cL_upper 2 = .ok (.invokevirtual 50, 3) := by decide +kernel
theorem dL_upper_5 : decode cL_upper 5 = .ok (.ireturn, 1) := by decide +kernel
theorem dL_upper_6 : decode cL_upper 6 = .ok (.astore_n 2, 1) := by decide +kernel
theorem dL_upper_7 : decode cL_upper 7 = .ok (.bipush (-11), 2) := by decide +kernel
theorem dL_upper_9 : decode cL_upper 9 = .ok (.ireturn, 1) := by decide +kernel
theorem dL_distance_0 : decode cL_distance 0 = .ok (.aload_n 0, 1) := by decide +kernel
theorem dL_distance_1 : decode cL_distance 1 = .ok (.iload_n 1, 1) := by decide +kernel
theorem dL_distance_2 : decode cL_distance 2 = .ok (.iload_n 2, 1) := by decide +kernel
theorem dL_distance_3 : decode cL_distance 3 = .ok (.invokevirtual 53, 3) := by decide +kernel
theorem dL_distance_6 : decode cL_distance 6 = .ok (.ireturn, 1) := by decide +kernel
theorem dL_distance_7 : decode cL_distance 7 = .ok (.astore_n 3, 1) := by decide +kernel
theorem dL_distance_8 : decode cL_distance 8 = .ok (.bipush (-11), 2) := by decide +kernel
theorem dL_distance_10 : decode cL_distance 10 = .ok (.ireturn, 1) := by decide +kernel
theorem dL_distance_11 : decode cL_distance 11 = .ok (.astore_n 3, 1) := by decide +kernel
theorem dL_distance_12 : decode cL_distance 12 = .ok (.bipush (-13), 2) := by decide +kernel
theorem dL_distance_14 : decode cL_distance 14 = .ok (.ireturn, 1) := by decide +kernel
theorem dL_byRounds_0 : decode cL_byRounds 0 = .ok (.aload_n 0, 1) := by decide +kernel
theorem dL_byRounds_1 : decode cL_byRounds 1 = .ok (.iload_n 1, 1) := by decide +kernel
theorem dL_byRounds_2 : decode cL_byRounds 2 = .ok (.iload_n 2, 1) := by decide +kernel
theorem dL_byRounds_3 : decode cL_byRounds 3 = .ok (.invokevirtual 56, 3) := by decide +kernel
theorem dL_byRounds_6 : decode cL_byRounds 6 = .ok (.ireturn, 1) := by decide +kernel
theorem dL_byRounds_7 : decode cL_byRounds 7 = .ok (.astore_n 3, 1) := by decide +kernel
theorem dL_byRounds_8 : decode cL_byRounds 8 = .ok (.bipush (-11), 2) := by decide +kernel
theorem dL_byRounds_10 : decode cL_byRounds 10 = .ok (.ireturn, 1) := by decide +kernel
theorem dL_byRounds_11 : decode cL_byRounds 11 = .ok (.astore_n 3, 1) := by decide +kernel
theorem dL_byRounds_12 : decode cL_byRounds 12 = .ok (.bipush (-13), 2) := by decide +kernel
theorem dL_byRounds_14 : decode cL_byRounds 14 = .ok (.ireturn, 1) := by decide +kernel
theorem dL_litDistance_0 : decode cL_litDistance 0 = .ok (.aload_n 0, 1) := by decide +kernel
theorem dL_litDistance_1 : decode cL_litDistance 1 = .ok (.iload_n 1, 1) := by decide +kernel
theorem dL_litDistance_2 : decode cL_litDistance 2 = .ok (.iload_n 2, 1) := by decide +kernel
theorem dL_litDistance_3 : decode cL_litDistance 3 = .ok (.invokevirtual 59, 3) := by decide +kernel
theorem dL_litDistance_6 : decode cL_litDistance 6 = .ok (.ireturn, 1) := by decide +kernel
theorem dL_litDistance_7 : decode cL_litDistance 7 = .ok (.astore_n 3, 1) := by decide +kernel
theorem dL_litDistance_8 : decode cL_litDistance 8 = .ok (.bipush (-11), 2) := by decide +kernel
theorem dL_litDistance_10 : decode cL_litDistance 10 = .ok (.ireturn, 1) := by decide +kernel
theorem dL_litDistance_11 : decode cL_litDistance 11 = .ok (.astore_n 3, 1) := by decide +kernel
theorem dL_litDistance_12 : decode cL_litDistance 12 = .ok (.bipush (-13), 2) := by decide +kernel
theorem dL_litDistance_14 : decode cL_litDistance 14 = .ok (.ireturn, 1) := by decide +kernel
theorem dL_needed_0 : decode cL_needed 0 = .ok (.aload_n 0, 1) := by decide +kernel
theorem dL_needed_1 : decode cL_needed 1 = .ok (.iload_n 1, 1) := by decide +kernel
theorem dL_needed_2 : decode cL_needed 2 = .ok (.iload_n 2, 1) := by decide +kernel
theorem dL_needed_3 : decode cL_needed 3 = .ok (.invokevirtual 62, 3) := by decide +kernel
theorem dL_needed_6 : decode cL_needed 6 = .ok (.ireturn, 1) := by decide +kernel
theorem dL_needed_7 : decode cL_needed 7 = .ok (.astore_n 3, 1) := by decide +kernel
theorem dL_needed_8 : decode cL_needed 8 = .ok (.bipush (-11), 2) := by decide +kernel
theorem dL_needed_10 : decode cL_needed 10 = .ok (.ireturn, 1) := by decide +kernel
theorem dL_needed_11 : decode cL_needed 11 = .ok (.astore_n 3, 1) := by decide +kernel
theorem dL_needed_12 : decode cL_needed 12 = .ok (.bipush (-12), 2) := by decide +kernel
theorem dL_needed_14 : decode cL_needed 14 = .ok (.ireturn, 1) := by decide +kernel
theorem dL_needed_15 : decode cL_needed 15 = .ok (.astore_n 3, 1) := by decide +kernel
theorem dL_needed_16 : decode cL_needed 16 = .ok (.bipush (-13), 2) := by decide +kernel
theorem dL_needed_18 : decode cL_needed 18 = .ok (.ireturn, 1) := by decide +kernel
theorem dL_byTrial_0 : decode cL_byTrial 0 = .ok (.aload_n 0, 1) := by decide +kernel
theorem dL_byTrial_1 : decode cL_byTrial 1 = .ok (.iload_n 1, 1) := by decide +kernel
theorem dL_byTrial_2 : decode cL_byTrial 2 = .ok (.iload_n 2, 1) := by decide +kernel
theorem dL_byTrial_3 : decode cL_byTrial 3 = .ok (.invokevirtual 65, 3) := by decide +kernel
theorem dL_byTrial_6 : decode cL_byTrial 6 = .ok (.ireturn, 1) := by decide +kernel
theorem dL_byTrial_7 : decode cL_byTrial 7 = .ok (.astore_n 3, 1) := by decide +kernel
theorem dL_byTrial_8 : decode cL_byTrial 8 = .ok (.bipush (-11), 2) := by decide +kernel
theorem dL_byTrial_10 : decode cL_byTrial 10 = .ok (.ireturn, 1) := by decide +kernel
theorem dL_byTrial_11 : decode cL_byTrial 11 = .ok (.astore_n 3, 1) := by decide +kernel
theorem dL_byTrial_12 : decode cL_byTrial 12 = .ok (.bipush (-12), 2) := by decide +kernel
theorem dL_byTrial_14 : decode cL_byTrial 14 = .ok (.ireturn, 1) := by decide +kernel
theorem dL_byTrial_15 : decode cL_byTrial 15 = .ok (.astore_n 3, 1) := by decide +kernel
theorem dL_byTrial_16 : decode cL_byTrial 16 = .ok (.bipush (-13), 2) := by decide +kernel
theorem dL_byTrial_18 : decode cL_byTrial 18 = .ok (.ireturn, 1) := by decide +kernel
theorem dL_subscribe_0 : decode cL_subscribe 0 = .ok (.aload_n 0, 1) := by decide +kernel
theorem dL_subscribe_1 : decode cL_subscribe 1 = .ok (.iload_n 1, 1) := by decide +kernel
theorem dL_subscribe_2 : decode cL_subscribe 2 = .ok (.iload_n 2, 1) := by decide +kernel
theorem dL_subscribe_3 : decode cL_subscribe 3 = .ok (.iload_n 3, 1) := by decide +kernel
theorem dL_subscribe_4 : decode cL_subscribe 4 = .ok (.invokevirtual 68, 3) := by decide +kernel
theorem dL_subscribe_7 : decode cL_subscribe 7 = .ok (.ireturn, 1) := by decide +kernel
theorem dL_subscribe_8 : decode cL_subscribe 8 = .ok (.astore 4, 2) := by decide +kernel
theorem dL_subscribe_10 : decode cL_subscribe 10 = .ok (.iconst (-1), 1) := by decide +kernel
theorem dL_subscribe_11 : decode cL_subscribe 11 = .ok (.ireturn, 1) := by decide +kernel
theorem dL_subscribe_12 : decode cL_subscribe 12 = .ok (.astore 4, 2) := by decide +kernel
theorem dL_subscribe_14 : decode cL_subscribe 14 = .ok (.bipush (-2), 2) := by decide +kernel
theorem dL_subscribe_16 : decode cL_subscribe 16 = .ok (.ireturn, 1) := by decide +kernel
theorem dL_subscribe_17 : decode cL_subscribe 17 = .ok (.astore 4, 2) := by decide +kernel
theorem dL_subscribe_19 : decode cL_subscribe 19 = .ok (.bipush (-3), 2) := by decide +kernel
theorem dL_subscribe_21 : decode cL_subscribe 21 = .ok (.ireturn, 1) := by decide +kernel
theorem dL_subscribe_22 : decode cL_subscribe 22 = .ok (.astore 4, 2) := by decide +kernel
theorem dL_subscribe_24 : decode cL_subscribe 24 = .ok (.bipush (-4), 2) := by decide +kernel
theorem dL_subscribe_26 : decode cL_subscribe 26 = .ok (.ireturn, 1) := by decide +kernel
theorem dL_leaves_0 : decode cL_leaves 0 = .ok (.aload_n 0, 1) := by decide +kernel
theorem dL_leaves_1 : decode cL_leaves 1 = .ok (.iload_n 1, 1) := by decide +kernel
theorem dL_leaves_2 : decode cL_leaves 2 = .ok (.invokevirtual 74, 3) := by decide +kernel
theorem dL_leaves_5 : decode cL_leaves 5 = .ok (.ireturn, 1) := by decide +kernel
theorem dL_leaves_6 : decode cL_leaves 6 = .ok (.astore_n 2, 1) := by decide +kernel
theorem dL_leaves_7 : decode cL_leaves 7 = .ok (.iconst (-1), 1) := by decide +kernel
theorem dL_leaves_8 : decode cL_leaves 8 = .ok (.ireturn, 1) := by decide +kernel
theorem dL_deposit_0 : decode cL_deposit 0 = .ok (.aload_n 0, 1) := by decide +kernel
theorem dL_deposit_1 : decode cL_deposit 1 = .ok (.iload_n 1, 1) := by decide +kernel
theorem dL_deposit_2 : decode cL_deposit 2 = .ok (.iload_n 2, 1) := by decide +kernel
theorem dL_deposit_3 : decode cL_deposit 3 = .ok (.invokevirtual 77, 3) := by decide +kernel
theorem dL_deposit_6 : decode cL_deposit 6 = .ok (.ireturn, 1) := by decide +kernel
theorem dL_deposit_7 : decode cL_deposit 7 = .ok (.astore_n 3, 1) := by decide +kernel
theorem dL_deposit_8 : decode cL_deposit 8 = .ok (.iconst (-1), 1) := by decide +kernel
theorem dL_deposit_9 : decode cL_deposit 9 = .ok (.ireturn, 1) := by decide +kernel
theorem dL_deposit_10 : decode cL_deposit 10 = .ok (.astore_n 3, 1) := by decide +kernel
theorem dL_deposit_11 : decode cL_deposit 11 = .ok (.bipush (-2), 2) := by decide +kernel
theorem dL_deposit_13 : decode cL_deposit 13 = .ok (.ireturn, 1) := by decide +kernel
theorem dL_startOf_0 : decode cL_startOf 0 = .ok (.aload_n 0, 1) := by decide +kernel
theorem dL_startOf_1 : decode cL_startOf 1 = .ok (.iload_n 1, 1) := by decide +kernel
theorem dL_startOf_2 : decode cL_startOf 2 = .ok (.invokevirtual 80, 3) := by decide +kernel
theorem dL_startOf_5 : decode cL_startOf 5 = .ok (.ireturn, 1) := by decide +kernel
theorem dL_startOf_6 : decode cL_startOf 6 = .ok (.astore_n 2, 1) := by decide +kernel
theorem dL_startOf_7 : decode cL_startOf 7 = .ok (.bipush (-11), 2) := by decide +kernel
theorem dL_startOf_9 : decode cL_startOf 9 = .ok (.ireturn, 1) := by decide +kernel
theorem dL_goalOf_0 : decode cL_goalOf 0 = .ok (.aload_n 0, 1) := by decide +kernel
theorem dL_goalOf_1 : decode cL_goalOf 1 = .ok (.iload_n 1, 1) := by decide +kernel
theorem dL_goalOf_2 : decode cL_goalOf 2 = .ok (.invokevirtual 83, 3) := by decide +kernel
theorem dL_goalOf_5 : decode cL_goalOf 5 = .ok (.ireturn, 1) := by decide +kernel
theorem dL_goalOf_6 : decode cL_goalOf 6 = .ok (.astore_n 2, 1) := by decide +kernel
theorem dL_goalOf_7 : decode cL_goalOf 7 = .ok (.bipush (-11), 2) := by decide +kernel
theorem dL_goalOf_9 : decode cL_goalOf 9 = .ok (.ireturn, 1) := by decide +kernel
theorem dL_moneyOf_0 : decode cL_moneyOf 0 = .ok (.aload_n 0, 1) := by decide +kernel
theorem dL_moneyOf_1 : decode cL_moneyOf 1 = .ok (.iload_n 1, 1) := by decide +kernel
theorem dL_moneyOf_2 : decode cL_moneyOf 2 = .ok (.invokevirtual 86, 3) := by decide +kernel
theorem dL_moneyOf_5 : decode cL_moneyOf 5 = .ok (.ireturn, 1) := by decide +kernel
theorem dL_moneyOf_6 : decode cL_moneyOf 6 = .ok (.astore_n 2, 1) := by decide +kernel
theorem dL_moneyOf_7 : decode cL_moneyOf 7 = .ok (.bipush (-11), 2) := by decide +kernel
theorem dL_moneyOf_9 : decode cL_moneyOf 9 = .ok (.ireturn, 1) := by decide +kernel
theorem dL_needOf_0 : decode cL_needOf 0 = .ok (.aload_n 0, 1) := by decide +kernel
theorem dL_needOf_1 : decode cL_needOf 1 = .ok (.iload_n 1, 1) := by decide +kernel
theorem dL_needOf_2 : decode cL_needOf 2 = .ok (.invokevirtual 89, 3) := by decide +kernel
theorem dL_needOf_5 : decode cL_needOf 5 = .ok (.ireturn, 1) := by decide +kernel
theorem dL_needOf_6 : decode cL_needOf 6 = .ok (.astore_n 2, 1) := by decide +kernel
theorem dL_needOf_7 : decode cL_needOf 7 = .ok (.bipush (-11), 2) := by decide +kernel
theorem dL_needOf_9 : decode cL_needOf 9 = .ok (.ireturn, 1) := by decide +kernel
theorem dL_needOf_10 : decode cL_needOf 10 = .ok (.astore_n 2, 1) := by decide +kernel
theorem dL_needOf_11 : decode cL_needOf 11 = .ok (.bipush (-13), 2) := by decide +kernel
theorem dL_needOf_13 : decode cL_needOf 13 = .ok (.ireturn, 1) := by decide +kernel
theorem dL_litNights_0 : decode cL_litNights 0 = .ok (.aload_n 0, 1) := by decide +kernel
theorem dL_litNights_1 : decode cL_litNights 1 = .ok (.iload_n 1, 1) := by decide +kernel
theorem dL_litNights_2 : decode cL_litNights 2 = .ok (.invokevirtual 92, 3) := by decide +kernel
theorem dL_litNights_5 : decode cL_litNights 5 = .ok (.ireturn, 1) := by decide +kernel
theorem dL_litNights_6 : decode cL_litNights 6 = .ok (.astore_n 2, 1) := by decide +kernel
theorem dL_litNights_7 : decode cL_litNights 7 = .ok (.bipush (-11), 2) := by decide +kernel
theorem dL_litNights_9 : decode cL_litNights 9 = .ok (.ireturn, 1) := by decide +kernel
theorem dL_darkNights_0 : decode cL_darkNights 0 = .ok (.aload_n 0, 1) := by decide +kernel
theorem dL_darkNights_1 : decode cL_darkNights 1 = .ok (.iload_n 1, 1) := by decide +kernel
theorem dL_darkNights_2 : decode cL_darkNights 2 = .ok (.invokevirtual 95, 3) := by decide +kernel
theorem dL_darkNights_5 : decode cL_darkNights 5 = .ok (.ireturn, 1) := by decide +kernel
theorem dL_darkNights_6 : decode cL_darkNights 6 = .ok (.astore_n 2, 1) := by decide +kernel
theorem dL_darkNights_7 : decode cL_darkNights 7 = .ok (.bipush (-11), 2) := by decide +kernel
theorem dL_darkNights_9 : decode cL_darkNights 9 = .ok (.ireturn, 1) := by decide +kernel
theorem dL_shareOf_0 : decode cL_shareOf 0 = .ok (.aload_n 0, 1) := by decide +kernel
theorem dL_shareOf_1 : decode cL_shareOf 1 = .ok (.iload_n 1, 1) := by decide +kernel
theorem dL_shareOf_2 : decode cL_shareOf 2 = .ok (.invokevirtual 98, 3) := by decide +kernel
theorem dL_shareOf_5 : decode cL_shareOf 5 = .ok (.ireturn, 1) := by decide +kernel
theorem dL_shareOf_6 : decode cL_shareOf 6 = .ok (.astore_n 2, 1) := by decide +kernel
theorem dL_shareOf_7 : decode cL_shareOf 7 = .ok (.bipush (-11), 2) := by decide +kernel
theorem dL_shareOf_9 : decode cL_shareOf 9 = .ok (.ireturn, 1) := by decide +kernel
theorem dL_shareOf_10 : decode cL_shareOf 10 = .ok (.astore_n 2, 1) := by decide +kernel
theorem dL_shareOf_11 : decode cL_shareOf 11 = .ok (.bipush (-13), 2) := by decide +kernel
theorem dL_shareOf_13 : decode cL_shareOf 13 = .ok (.ireturn, 1) := by decide +kernel
theorem dL_byOrders_0 : decode cL_byOrders 0 = .ok (.aload_n 0, 1) := by decide +kernel
theorem dL_byOrders_1 : decode cL_byOrders 1 = .ok (.iload_n 1, 1) := by decide +kernel
theorem dL_byOrders_2 : decode cL_byOrders 2 = .ok (.invokevirtual 101, 3) := by decide +kernel
theorem dL_byOrders_5 : decode cL_byOrders 5 = .ok (.ireturn, 1) := by decide +kernel
theorem dL_byOrders_6 : decode cL_byOrders 6 = .ok (.astore_n 2, 1) := by decide +kernel
theorem dL_byOrders_7 : decode cL_byOrders 7 = .ok (.bipush (-11), 2) := by decide +kernel
theorem dL_byOrders_9 : decode cL_byOrders 9 = .ok (.ireturn, 1) := by decide +kernel
theorem dL_byOrders_10 : decode cL_byOrders 10 = .ok (.astore_n 2, 1) := by decide +kernel
theorem dL_byOrders_11 : decode cL_byOrders 11 = .ok (.bipush (-13), 2) := by decide +kernel
theorem dL_byOrders_13 : decode cL_byOrders 13 = .ok (.ireturn, 1) := by decide +kernel
theorem dL_byDark_0 : decode cL_byDark 0 = .ok (.aload_n 0, 1) := by decide +kernel
theorem dL_byDark_1 : decode cL_byDark 1 = .ok (.iload_n 1, 1) := by decide +kernel
theorem dL_byDark_2 : decode cL_byDark 2 = .ok (.invokevirtual 104, 3) := by decide +kernel
theorem dL_byDark_5 : decode cL_byDark 5 = .ok (.ireturn, 1) := by decide +kernel
theorem dL_byDark_6 : decode cL_byDark 6 = .ok (.astore_n 2, 1) := by decide +kernel
theorem dL_byDark_7 : decode cL_byDark 7 = .ok (.bipush (-13), 2) := by decide +kernel
theorem dL_byDark_9 : decode cL_byDark 9 = .ok (.ireturn, 1) := by decide +kernel
theorem dL_setFog_0 : decode cL_setFog 0 = .ok (.aload_n 0, 1) := by decide +kernel
theorem dL_setFog_1 : decode cL_setFog 1 = .ok (.iload_n 1, 1) := by decide +kernel
theorem dL_setFog_2 : decode cL_setFog 2 = .ok (.invokevirtual 107, 3) := by decide +kernel
theorem dL_setFog_5 : decode cL_setFog 5 = .ok (.ireturn, 1) := by decide +kernel
theorem dL_setFog_6 : decode cL_setFog 6 = .ok (.astore_n 2, 1) := by decide +kernel
theorem dL_setFog_7 : decode cL_setFog 7 = .ok (.iconst (-1), 1) := by decide +kernel
theorem dL_setFog_8 : decode cL_setFog 8 = .ok (.ireturn, 1) := by decide +kernel
theorem dL_wouldBeLit_0 : decode cL_wouldBeLit 0 = .ok (.aload_n 0, 1) := by decide +kernel
theorem dL_wouldBeLit_1 : decode cL_wouldBeLit 1 = .ok (.iload_n 1, 1) := by decide +kernel
theorem dL_wouldBeLit_2 : decode cL_wouldBeLit 2 = .ok (.invokevirtual 110, 3) := by decide +kernel
theorem dL_wouldBeLit_5 : decode cL_wouldBeLit 5 = .ok (.ifCond .eq 7, 3) := by decide +kernel
theorem dL_wouldBeLit_8 : decode cL_wouldBeLit 8 = .ok (.iconst 1, 1) := by decide +kernel
theorem dL_wouldBeLit_9 : decode cL_wouldBeLit 9 = .ok (.goto 4, 3) := by decide +kernel
theorem dL_wouldBeLit_12 : decode cL_wouldBeLit 12 = .ok (.iconst 0, 1) := by decide +kernel
theorem dL_wouldBeLit_13 : decode cL_wouldBeLit 13 = .ok (.ireturn, 1) := by decide +kernel
theorem dL_wouldBeLit_14 : decode cL_wouldBeLit 14 = .ok (.astore_n 2, 1) := by decide +kernel
theorem dL_wouldBeLit_15 : decode cL_wouldBeLit 15 = .ok (.bipush (-11), 2) := by decide +kernel
theorem dL_wouldBeLit_17 : decode cL_wouldBeLit 17 = .ok (.ireturn, 1) := by decide +kernel
theorem dL_costOf_0 : decode cL_costOf 0 = .ok (.aload_n 0, 1) := by decide +kernel
theorem dL_costOf_1 : decode cL_costOf 1 = .ok (.iload_n 1, 1) := by decide +kernel
theorem dL_costOf_2 : decode cL_costOf 2 = .ok (.invokevirtual 114, 3) := by decide +kernel
theorem dL_costOf_5 : decode cL_costOf 5 = .ok (.ireturn, 1) := by decide +kernel
theorem dL_costOf_6 : decode cL_costOf 6 = .ok (.astore_n 2, 1) := by decide +kernel
theorem dL_costOf_7 : decode cL_costOf 7 = .ok (.bipush (-12), 2) := by decide +kernel
theorem dL_costOf_9 : decode cL_costOf 9 = .ok (.ireturn, 1) := by decide +kernel
theorem dL_writeSubscriber_0 : decode cL_writeSubscriber 0 = .ok (.aload_n 0, 1) := by decide +kernel
theorem dL_writeSubscriber_1 : decode cL_writeSubscriber 1 = .ok (.iload_n 1, 1) := by decide +kernel
theorem dL_writeSubscriber_2 : decode cL_writeSubscriber 2 = .ok (.invokevirtual 117, 3) := by decide +kernel
theorem dL_writeSubscriber_5 : decode cL_writeSubscriber 5 = .ok (.ireturn, 1) := by decide +kernel
theorem dL_writeSubscriber_6 : decode cL_writeSubscriber 6 = .ok (.astore_n 2, 1) := by decide +kernel
theorem dL_writeSubscriber_7 : decode cL_writeSubscriber 7 = .ok (.bipush (-11), 2) := by decide +kernel
theorem dL_writeSubscriber_9 : decode cL_writeSubscriber 9 = .ok (.ireturn, 1) := by decide +kernel
theorem dL_writeLeg_0 : decode cL_writeLeg 0 = .ok (.aload_n 0, 1) := by decide +kernel
theorem dL_writeLeg_1 : decode cL_writeLeg 1 = .ok (.iload_n 1, 1) := by decide +kernel
theorem dL_writeLeg_2 : decode cL_writeLeg 2 = .ok (.invokevirtual 120, 3) := by decide +kernel
theorem dL_writeLeg_5 : decode cL_writeLeg 5 = .ok (.ireturn, 1) := by decide +kernel
theorem dL_writeLeg_6 : decode cL_writeLeg 6 = .ok (.astore_n 2, 1) := by decide +kernel
theorem dL_writeLeg_7 : decode cL_writeLeg 7 = .ok (.bipush (-11), 2) := by decide +kernel
theorem dL_writeLeg_9 : decode cL_writeLeg 9 = .ok (.ireturn, 1) := by decide +kernel
theorem dL_lineAt_0 : decode cL_lineAt 0 = .ok (.aload_n 0, 1) := by decide +kernel
theorem dL_lineAt_1 : decode cL_lineAt 1 = .ok (.iload_n 1, 1) := by decide +kernel
theorem dL_lineAt_2 : decode cL_lineAt 2 = .ok (.invokevirtual 123, 3) := by decide +kernel
theorem dL_lineAt_5 : decode cL_lineAt 5 = .ok (.ireturn, 1) := by decide +kernel
theorem dL_lineAt_6 : decode cL_lineAt 6 = .ok (.astore_n 2, 1) := by decide +kernel
theorem dL_lineAt_7 : decode cL_lineAt 7 = .ok (.bipush (-11), 2) := by decide +kernel
theorem dL_lineAt_9 : decode cL_lineAt 9 = .ok (.ireturn, 1) := by decide +kernel
theorem dL_type_0 : decode cL_type 0 = .ok (.aload_n 0, 1) := by decide +kernel
theorem dL_type_1 : decode cL_type 1 = .ok (.iload_n 1, 1) := by decide +kernel
theorem dL_type_2 : decode cL_type 2 = .ok (.invokevirtual 127, 3) := by decide +kernel
theorem dL_type_5 : decode cL_type 5 = .ok (.ireturn, 1) := by decide +kernel
theorem dL_type_6 : decode cL_type 6 = .ok (.astore_n 2, 1) := by decide +kernel
theorem dL_type_7 : decode cL_type 7 = .ok (.bipush (-12), 2) := by decide +kernel
theorem dL_type_9 : decode cL_type 9 = .ok (.ireturn, 1) := by decide +kernel
theorem dL_type_10 : decode cL_type 10 = .ok (.astore_n 2, 1) := by decide +kernel
theorem dL_type_11 : decode cL_type 11 = .ok (.bipush (-14), 2) := by decide +kernel
theorem dL_type_13 : decode cL_type 13 = .ok (.ireturn, 1) := by decide +kernel
theorem dL_executes_0 : decode cL_executes 0 = .ok (.aload_n 0, 1) := by decide +kernel
theorem dL_executes_1 : decode cL_executes 1 = .ok (.invokevirtual 131, 3) := by decide +kernel
theorem dL_executes_4 : decode cL_executes 4 = .ok (.ireturn, 1) := by decide +kernel
theorem dL_executes_5 : decode cL_executes 5 = .ok (.astore_n 1, 1) := by decide +kernel
theorem dL_executes_6 : decode cL_executes 6 = .ok (.iconst (-1), 1) := by decide +kernel
theorem dL_executes_7 : decode cL_executes 7 = .ok (.ireturn, 1) := by decide +kernel
theorem dL_executes_8 : decode cL_executes 8 = .ok (.astore_n 1, 1) := by decide +kernel
theorem dL_executes_9 : decode cL_executes 9 = .ok (.bipush (-2), 2) := by decide +kernel
theorem dL_executes_11 : decode cL_executes 11 = .ok (.ireturn, 1) := by decide +kernel
theorem dL_undo_0 : decode cL_undo 0 = .ok (.aload_n 0, 1) := by decide +kernel
theorem dL_undo_1 : decode cL_undo 1 = .ok (.invokevirtual 140, 3) := by decide +kernel
theorem dL_undo_4 : decode cL_undo 4 = .ok (.ireturn, 1) := by decide +kernel
theorem dL_undo_5 : decode cL_undo 5 = .ok (.astore_n 1, 1) := by decide +kernel
theorem dL_undo_6 : decode cL_undo 6 = .ok (.iconst (-1), 1) := by decide +kernel
theorem dL_undo_7 : decode cL_undo 7 = .ok (.ireturn, 1) := by decide +kernel
theorem dL_execute_0 : decode cL_execute 0 = .ok (.iconst 0, 1) := by decide +kernel
theorem dL_execute_1 : decode cL_execute 1 = .ok (.istore_n 2, 1) := by decide +kernel
theorem dL_execute_2 : decode cL_execute 2 = .ok (.iload_n 2, 1) := by decide +kernel
theorem dL_execute_3 : decode cL_execute 3 = .ok (.aload_n 1, 1) := by decide +kernel
theorem dL_execute_4 : decode cL_execute 4 = .ok (.invokevirtual 143, 3) := by decide +kernel
theorem dL_execute_7 : decode cL_execute 7 = .ok (.if_icmp .ge 27, 3) := by decide +kernel
theorem dL_execute_10 : decode cL_execute 10 = .ok (.aload_n 0, 1) := by decide +kernel
theorem dL_execute_11 : decode cL_execute 11 = .ok (.aload_n 1, 1) := by decide +kernel
theorem dL_execute_12 : decode cL_execute 12 = .ok (.iload_n 2, 1) := by decide +kernel
theorem dL_execute_13 : decode cL_execute 13 = .ok (.invokevirtual 148, 3) := by decide +kernel
theorem dL_execute_16 : decode cL_execute 16 = .ok (.invokestatic 151, 3) := by decide +kernel
theorem dL_execute_19 : decode cL_execute 19 = .ok (.iload_n 2, 1) := by decide +kernel
theorem dL_execute_20 : decode cL_execute 20 = .ok (.iconst 1, 1) := by decide +kernel
theorem dL_execute_21 : decode cL_execute 21 = .ok (.iadd, 1) := by decide +kernel
theorem dL_execute_22 : decode cL_execute 22 = .ok (.if_icmp .eq 6, 3) := by decide +kernel
theorem dL_execute_25 : decode cL_execute 25 = .ok (.bipush (-9), 2) := by decide +kernel
theorem dL_execute_27 : decode cL_execute 27 = .ok (.ireturn, 1) := by decide +kernel
theorem dL_execute_28 : decode cL_execute 28 = .ok (.iinc 2 1, 3) := by decide +kernel
theorem dL_execute_31 : decode cL_execute 31 = .ok (.goto (-29), 3) := by decide +kernel
theorem dL_execute_34 : decode cL_execute 34 = .ok (.aload_n 0, 1) := by decide +kernel
theorem dL_execute_35 : decode cL_execute 35 = .ok (.invokestatic 156, 3) := by decide +kernel
theorem dL_execute_38 : decode cL_execute 38 = .ok (.ireturn, 1) := by decide +kernel
theorem dL_drawn_0 : decode cL_drawn 0 = .ok (.new 9, 3) := by decide +kernel
theorem dL_drawn_3 : decode cL_drawn 3 = .ok (.dup, 1) := by decide +kernel
theorem dL_drawn_4 : decode cL_drawn 4 = .ok (.invokespecial 160, 3) := by decide +kernel
theorem dL_drawn_7 : decode cL_drawn 7 = .ok (.astore_n 1, 1) := by decide +kernel
theorem dL_drawn_8 : decode cL_drawn 8 = .ok (.aload_n 0, 1) := by decide +kernel
theorem dL_drawn_9 : decode cL_drawn 9 = .ok (.iconst 0, 1) := by decide +kernel
theorem dL_drawn_10 : decode cL_drawn 10 = .ok (.invokestatic 161, 3) := by decide +kernel
theorem dL_drawn_13 : decode cL_drawn 13 = .ok (.iconst 1, 1) := by decide +kernel
theorem dL_drawn_14 : decode cL_drawn 14 = .ok (.iushr, 1) := by decide +kernel
theorem dL_drawn_15 : decode cL_drawn 15 = .ok (.istore_n 2, 1) := by decide +kernel
theorem dL_drawn_16 : decode cL_drawn 16 = .ok (.iconst 2, 1) := by decide +kernel
theorem dL_drawn_17 : decode cL_drawn 17 = .ok (.iload_n 2, 1) := by decide +kernel
theorem dL_drawn_18 : decode cL_drawn 18 = .ok (.bipush 7, 2) := by decide +kernel
theorem dL_drawn_20 : decode cL_drawn 20 = .ok (.irem, 1) := by decide +kernel
theorem dL_drawn_21 : decode cL_drawn 21 = .ok (.iadd, 1) := by decide +kernel
theorem dL_drawn_22 : decode cL_drawn 22 = .ok (.istore_n 3, 1) := by decide +kernel
theorem dL_drawn_23 : decode cL_drawn 23 = .ok (.iconst 0, 1) := by decide +kernel
theorem dL_drawn_24 : decode cL_drawn 24 = .ok (.istore 4, 2) := by decide +kernel
theorem dL_drawn_26 : decode cL_drawn 26 = .ok (.iload 4, 2) := by decide +kernel
theorem dL_drawn_28 : decode cL_drawn 28 = .ok (.iload_n 3, 1) := by decide +kernel
theorem dL_drawn_29 : decode cL_drawn 29 = .ok (.if_icmp .ge 20, 3) := by decide +kernel
theorem dL_drawn_32 : decode cL_drawn 32 = .ok (.aload_n 1, 1) := by decide +kernel
theorem dL_drawn_33 : decode cL_drawn 33 = .ok (.invokestatic 165, 3) := by decide +kernel
theorem dL_drawn_36 : decode cL_drawn 36 = .ok (.iload 4, 2) := by decide +kernel
theorem dL_drawn_38 : decode cL_drawn 38 = .ok (.if_icmp .eq 5, 3) := by decide +kernel
theorem dL_drawn_41 : decode cL_drawn 41 = .ok (.aconst_null, 1) := by decide +kernel
theorem dL_drawn_42 : decode cL_drawn 42 = .ok (.areturn, 1) := by decide +kernel
theorem dL_drawn_43 : decode cL_drawn 43 = .ok (.iinc 4 1, 3) := by decide +kernel
theorem dL_drawn_46 : decode cL_drawn 46 = .ok (.goto (-20), 3) := by decide +kernel
theorem dL_drawn_49 : decode cL_drawn 49 = .ok (.iconst 0, 1) := by decide +kernel
theorem dL_drawn_50 : decode cL_drawn 50 = .ok (.istore 4, 2) := by decide +kernel
theorem dL_drawn_52 : decode cL_drawn 52 = .ok (.iload 4, 2) := by decide +kernel
theorem dL_drawn_54 : decode cL_drawn 54 = .ok (.iconst 2, 1) := by decide +kernel
theorem dL_drawn_55 : decode cL_drawn 55 = .ok (.iload_n 2, 1) := by decide +kernel
theorem dL_drawn_56 : decode cL_drawn 56 = .ok (.iconst 3, 1) := by decide +kernel
theorem dL_drawn_57 : decode cL_drawn 57 = .ok (.iushr, 1) := by decide +kernel
theorem dL_drawn_58 : decode cL_drawn 58 = .ok (.bipush 9, 2) := by decide +kernel
theorem dL_drawn_60 : decode cL_drawn 60 = .ok (.irem, 1) := by decide +kernel
theorem dL_drawn_61 : decode cL_drawn 61 = .ok (.iadd, 1) := by decide +kernel
theorem dL_drawn_62 : decode cL_drawn 62 = .ok (.if_icmp .ge 82, 3) := by decide +kernel
theorem dL_drawn_65 : decode cL_drawn 65 = .ok (.aload_n 0, 1) := by decide +kernel
theorem dL_drawn_66 : decode cL_drawn 66 = .ok (.iconst 1, 1) := by decide +kernel
theorem dL_drawn_67 : decode cL_drawn 67 = .ok (.iload 4, 2) := by decide +kernel
theorem dL_drawn_69 : decode cL_drawn 69 = .ok (.iadd, 1) := by decide +kernel
theorem dL_drawn_70 : decode cL_drawn 70 = .ok (.invokestatic 161, 3) := by decide +kernel
theorem dL_drawn_73 : decode cL_drawn 73 = .ok (.iconst 1, 1) := by decide +kernel
theorem dL_drawn_74 : decode cL_drawn 74 = .ok (.iushr, 1) := by decide +kernel
theorem dL_drawn_75 : decode cL_drawn 75 = .ok (.istore 5, 2) := by decide +kernel
theorem dL_drawn_77 : decode cL_drawn 77 = .ok (.aload_n 1, 1) := by decide +kernel
theorem dL_drawn_78 : decode cL_drawn 78 = .ok (.iload 5, 2) := by decide +kernel
theorem dL_drawn_80 : decode cL_drawn 80 = .ok (.iload_n 3, 1) := by decide +kernel
theorem dL_drawn_81 : decode cL_drawn 81 = .ok (.irem, 1) := by decide +kernel
theorem dL_drawn_82 : decode cL_drawn 82 = .ok (.iload 5, 2) := by decide +kernel
theorem dL_drawn_84 : decode cL_drawn 84 = .ok (.iconst 4, 1) := by decide +kernel
theorem dL_drawn_85 : decode cL_drawn 85 = .ok (.iushr, 1) := by decide +kernel
theorem dL_drawn_86 : decode cL_drawn 86 = .ok (.iload_n 3, 1) := by decide +kernel
theorem dL_drawn_87 : decode cL_drawn 87 = .ok (.irem, 1) := by decide +kernel
theorem dL_drawn_88 : decode cL_drawn 88 = .ok (.iconst 1, 1) := by decide +kernel
theorem dL_drawn_89 : decode cL_drawn 89 = .ok (.iload 5, 2) := by decide +kernel
theorem dL_drawn_91 : decode cL_drawn 91 = .ok (.bipush 8, 2) := by decide +kernel
theorem dL_drawn_93 : decode cL_drawn 93 = .ok (.iushr, 1) := by decide +kernel
theorem dL_drawn_94 : decode cL_drawn 94 = .ok (.iload_n 2, 1) := by decide +kernel
theorem dL_drawn_95 : decode cL_drawn 95 = .ok (.iconst 3, 1) := by decide +kernel
theorem dL_drawn_96 : decode cL_drawn 96 = .ok (.irem, 1) := by decide +kernel
theorem dL_drawn_97 : decode cL_drawn 97 = .ok (.ifCond .ne 8, 3) := by decide +kernel
theorem dL_drawn_100 : decode cL_drawn 100 = .ok (.bipush 99, 2) := by decide +kernel
theorem dL_drawn_102 : decode cL_drawn 102 = .ok (.goto 5, 3) := by decide +kernel
theorem dL_drawn_105 : decode cL_drawn 105 = .ok (.bipush 6, 2) := by decide +kernel
theorem dL_drawn_107 : decode cL_drawn 107 = .ok (.irem, 1) := by decide +kernel
theorem dL_drawn_108 : decode cL_drawn 108 = .ok (.iadd, 1) := by decide +kernel
theorem dL_drawn_109 : decode cL_drawn 109 = .ok (.iconst 1, 1) := by decide +kernel
theorem dL_drawn_110 : decode cL_drawn 110 = .ok (.iload 5, 2) := by decide +kernel
theorem dL_drawn_112 : decode cL_drawn 112 = .ok (.bipush 15, 2) := by decide +kernel
theorem dL_drawn_114 : decode cL_drawn 114 = .ok (.iushr, 1) := by decide +kernel
theorem dL_drawn_115 : decode cL_drawn 115 = .ok (.iload_n 2, 1) := by decide +kernel
theorem dL_drawn_116 : decode cL_drawn 116 = .ok (.iconst 5, 1) := by decide +kernel
theorem dL_drawn_117 : decode cL_drawn 117 = .ok (.irem, 1) := by decide +kernel
theorem dL_drawn_118 : decode cL_drawn 118 = .ok (.ifCond .ne 8, 3) := by decide +kernel
theorem dL_drawn_121 : decode cL_drawn 121 = .ok (.bipush 20, 2) := by decide +kernel
theorem dL_drawn_123 : decode cL_drawn 123 = .ok (.goto 4, 3) := by decide +kernel
theorem dL_drawn_126 : decode cL_drawn 126 = .ok (.iconst 4, 1) := by decide +kernel
theorem dL_drawn_127 : decode cL_drawn 127 = .ok (.irem, 1) := by decide +kernel
theorem dL_drawn_128 : decode cL_drawn 128 = .ok (.iadd, 1) := by decide +kernel
theorem dL_drawn_129 : decode cL_drawn 129 = .ok (.invokestatic 167, 3) := by decide +kernel
theorem dL_drawn_132 : decode cL_drawn 132 = .ok (.iconst (-1), 1) := by decide +kernel
theorem dL_drawn_133 : decode cL_drawn 133 = .ok (.if_icmp .ne 5, 3) := by decide +kernel
theorem dL_drawn_136 : decode cL_drawn 136 = .ok (.aconst_null, 1) := by decide +kernel
theorem dL_drawn_137 : decode cL_drawn 137 = .ok (.areturn, 1) := by decide +kernel
theorem dL_drawn_138 : decode cL_drawn 138 = .ok (.iinc 4 1, 3) := by decide +kernel
theorem dL_drawn_141 : decode cL_drawn 141 = .ok (.goto (-89), 3) := by decide +kernel
theorem dL_drawn_144 : decode cL_drawn 144 = .ok (.iconst 0, 1) := by decide +kernel
theorem dL_drawn_145 : decode cL_drawn 145 = .ok (.istore 4, 2) := by decide +kernel
theorem dL_drawn_147 : decode cL_drawn 147 = .ok (.iload 4, 2) := by decide +kernel
theorem dL_drawn_149 : decode cL_drawn 149 = .ok (.bipush 7, 2) := by decide +kernel
theorem dL_drawn_151 : decode cL_drawn 151 = .ok (.if_icmp .ge 63, 3) := by decide +kernel
theorem dL_drawn_154 : decode cL_drawn 154 = .ok (.aload_n 0, 1) := by decide +kernel
theorem dL_drawn_155 : decode cL_drawn 155 = .ok (.bipush 12, 2) := by decide +kernel
theorem dL_drawn_157 : decode cL_drawn 157 = .ok (.iload 4, 2) := by decide +kernel
theorem dL_drawn_159 : decode cL_drawn 159 = .ok (.iadd, 1) := by decide +kernel
theorem dL_drawn_160 : decode cL_drawn 160 = .ok (.invokestatic 161, 3) := by decide +kernel
theorem dL_drawn_163 : decode cL_drawn 163 = .ok (.iconst 1, 1) := by decide +kernel
theorem dL_drawn_164 : decode cL_drawn 164 = .ok (.iushr, 1) := by decide +kernel
theorem dL_drawn_165 : decode cL_drawn 165 = .ok (.istore 5, 2) := by decide +kernel
theorem dL_drawn_167 : decode cL_drawn 167 = .ok (.aload_n 1, 1) := by decide +kernel
theorem dL_drawn_168 : decode cL_drawn 168 = .ok (.iload 5, 2) := by decide +kernel
theorem dL_drawn_170 : decode cL_drawn 170 = .ok (.iload_n 3, 1) := by decide +kernel
theorem dL_drawn_171 : decode cL_drawn 171 = .ok (.irem, 1) := by decide +kernel
theorem dL_drawn_172 : decode cL_drawn 172 = .ok (.iload 5, 2) := by decide +kernel
theorem dL_drawn_174 : decode cL_drawn 174 = .ok (.iconst 4, 1) := by decide +kernel
theorem dL_drawn_175 : decode cL_drawn 175 = .ok (.iushr, 1) := by decide +kernel
theorem dL_drawn_176 : decode cL_drawn 176 = .ok (.iload_n 3, 1) := by decide +kernel
theorem dL_drawn_177 : decode cL_drawn 177 = .ok (.irem, 1) := by decide +kernel
theorem dL_drawn_178 : decode cL_drawn 178 = .ok (.iload 5, 2) := by decide +kernel
theorem dL_drawn_180 : decode cL_drawn 180 = .ok (.bipush 8, 2) := by decide +kernel
theorem dL_drawn_182 : decode cL_drawn 182 = .ok (.iushr, 1) := by decide +kernel
theorem dL_drawn_183 : decode cL_drawn 183 = .ok (.iload_n 2, 1) := by decide +kernel
theorem dL_drawn_184 : decode cL_drawn 184 = .ok (.iconst 2, 1) := by decide +kernel
theorem dL_drawn_185 : decode cL_drawn 185 = .ok (.irem, 1) := by decide +kernel
theorem dL_drawn_186 : decode cL_drawn 186 = .ok (.ifCond .ne 9, 3) := by decide +kernel
theorem dL_drawn_189 : decode cL_drawn 189 = .ok (.sipush 9999, 3) := by decide +kernel
theorem dL_drawn_192 : decode cL_drawn 192 = .ok (.goto 6, 3) := by decide +kernel
theorem dL_drawn_195 : decode cL_drawn 195 = .ok (.sipush 900, 3) := by decide +kernel
theorem dL_drawn_198 : decode cL_drawn 198 = .ok (.irem, 1) := by decide +kernel
theorem dL_drawn_199 : decode cL_drawn 199 = .ok (.invokestatic 170, 3) := by decide +kernel
theorem dL_drawn_202 : decode cL_drawn 202 = .ok (.iconst (-1), 1) := by decide +kernel
theorem dL_drawn_203 : decode cL_drawn 203 = .ok (.if_icmp .ne 5, 3) := by decide +kernel
theorem dL_drawn_206 : decode cL_drawn 206 = .ok (.aconst_null, 1) := by decide +kernel
theorem dL_drawn_207 : decode cL_drawn 207 = .ok (.areturn, 1) := by decide +kernel
theorem dL_drawn_208 : decode cL_drawn 208 = .ok (.iinc 4 1, 3) := by decide +kernel
theorem dL_drawn_211 : decode cL_drawn 211 = .ok (.goto (-64), 3) := by decide +kernel
theorem dL_drawn_214 : decode cL_drawn 214 = .ok (.iconst 0, 1) := by decide +kernel
theorem dL_drawn_215 : decode cL_drawn 215 = .ok (.istore 4, 2) := by decide +kernel
theorem dL_drawn_217 : decode cL_drawn 217 = .ok (.iload 4, 2) := by decide +kernel
theorem dL_drawn_219 : decode cL_drawn 219 = .ok (.iconst 5, 1) := by decide +kernel
theorem dL_drawn_220 : decode cL_drawn 220 = .ok (.if_icmp .ge 162, 3) := by decide +kernel
theorem dL_drawn_223 : decode cL_drawn 223 = .ok (.aload_n 0, 1) := by decide +kernel
theorem dL_drawn_224 : decode cL_drawn 224 = .ok (.bipush 19, 2) := by decide +kernel
theorem dL_drawn_226 : decode cL_drawn 226 = .ok (.iload 4, 2) := by decide +kernel
theorem dL_drawn_228 : decode cL_drawn 228 = .ok (.iadd, 1) := by decide +kernel
theorem dL_drawn_229 : decode cL_drawn 229 = .ok (.invokestatic 161, 3) := by decide +kernel
theorem dL_drawn_232 : decode cL_drawn 232 = .ok (.iconst 1, 1) := by decide +kernel
theorem dL_drawn_233 : decode cL_drawn 233 = .ok (.iushr, 1) := by decide +kernel
theorem dL_drawn_234 : decode cL_drawn 234 = .ok (.istore 5, 2) := by decide +kernel
theorem dL_drawn_236 : decode cL_drawn 236 = .ok (.aload_n 1, 1) := by decide +kernel
theorem dL_drawn_237 : decode cL_drawn 237 = .ok (.invokevirtual 173, 3) := by decide +kernel
theorem dL_drawn_240 : decode cL_drawn 240 = .ok (.istore 6, 2) := by decide +kernel
theorem dL_drawn_242 : decode cL_drawn 242 = .ok (.iload 5, 2) := by decide +kernel
theorem dL_drawn_244 : decode cL_drawn 244 = .ok (.bipush 8, 2) := by decide +kernel
theorem dL_drawn_246 : decode cL_drawn 246 = .ok (.irem, 1) := by decide +kernel
theorem dL_drawn_247 : decode cL_drawn 247 = .ok (.iconst 4, 1) := by decide +kernel
theorem dL_drawn_248 : decode cL_drawn 248 = .ok (.if_icmp .ge 10, 3) := by decide +kernel
theorem dL_drawn_251 : decode cL_drawn 251 = .ok (.aload_n 1, 1) := by decide +kernel
theorem dL_drawn_252 : decode cL_drawn 252 = .ok (.invokevirtual 176, 3) := by decide +kernel
theorem dL_drawn_255 : decode cL_drawn 255 = .ok (.goto 111, 3) := by decide +kernel
theorem dL_drawn_258 : decode cL_drawn 258 = .ok (.iload 5, 2) := by decide +kernel
theorem dL_drawn_260 : decode cL_drawn 260 = .ok (.bipush 8, 2) := by decide +kernel
theorem dL_drawn_262 : decode cL_drawn 262 = .ok (.irem, 1) := by decide +kernel
theorem dL_drawn_263 : decode cL_drawn 263 = .ok (.iconst 4, 1) := by decide +kernel
theorem dL_drawn_264 : decode cL_drawn 264 = .ok (.if_icmp .ne 16, 3) := by decide +kernel
theorem dL_drawn_267 : decode cL_drawn 267 = .ok (.aload_n 1, 1) := by decide +kernel
theorem dL_drawn_268 : decode cL_drawn 268 = .ok (.iload 5, 2) := by decide +kernel
theorem dL_drawn_270 : decode cL_drawn 270 = .ok (.iconst 4, 1) := by decide +kernel
theorem dL_drawn_271 : decode cL_drawn 271 = .ok (.iushr, 1) := by decide +kernel
theorem dL_drawn_272 : decode cL_drawn 272 = .ok (.iconst 4, 1) := by decide +kernel
theorem dL_drawn_273 : decode cL_drawn 273 = .ok (.irem, 1) := by decide +kernel
theorem dL_drawn_274 : decode cL_drawn 274 = .ok (.invokestatic 179, 3) := by decide +kernel
theorem dL_drawn_277 : decode cL_drawn 277 = .ok (.goto 89, 3) := by decide +kernel
theorem dL_drawn_280 : decode cL_drawn 280 = .ok (.iload 5, 2) := by decide +kernel
theorem dL_drawn_282 : decode cL_drawn 282 = .ok (.bipush 8, 2) := by decide +kernel
theorem dL_drawn_284 : decode cL_drawn 284 = .ok (.irem, 1) := by decide +kernel
theorem dL_drawn_285 : decode cL_drawn 285 = .ok (.iconst 5, 1) := by decide +kernel
theorem dL_drawn_286 : decode cL_drawn 286 = .ok (.if_icmp .ne 33, 3) := by decide +kernel
theorem dL_drawn_289 : decode cL_drawn 289 = .ok (.iload 6, 2) := by decide +kernel
theorem dL_drawn_291 : decode cL_drawn 291 = .ok (.ifCond .le 28, 3) := by decide +kernel
theorem dL_drawn_294 : decode cL_drawn 294 = .ok (.aload_n 1, 1) := by decide +kernel
theorem dL_drawn_295 : decode cL_drawn 295 = .ok (.iload 5, 2) := by decide +kernel
theorem dL_drawn_297 : decode cL_drawn 297 = .ok (.iconst 4, 1) := by decide +kernel
theorem dL_drawn_298 : decode cL_drawn 298 = .ok (.iushr, 1) := by decide +kernel
theorem dL_drawn_299 : decode cL_drawn 299 = .ok (.iload 6, 2) := by decide +kernel
theorem dL_drawn_301 : decode cL_drawn 301 = .ok (.irem, 1) := by decide +kernel
theorem dL_drawn_302 : decode cL_drawn 302 = .ok (.iconst 1, 1) := by decide +kernel
theorem dL_drawn_303 : decode cL_drawn 303 = .ok (.iload 5, 2) := by decide +kernel
theorem dL_drawn_305 : decode cL_drawn 305 = .ok (.bipush 8, 2) := by decide +kernel
theorem dL_drawn_307 : decode cL_drawn 307 = .ok (.iushr, 1) := by decide +kernel
theorem dL_drawn_308 : decode cL_drawn 308 = .ok (.sipush 400, 3) := by decide +kernel
theorem dL_drawn_311 : decode cL_drawn 311 = .ok (.irem, 1) := by decide +kernel
theorem dL_drawn_312 : decode cL_drawn 312 = .ok (.iadd, 1) := by decide +kernel
theorem dL_drawn_313 : decode cL_drawn 313 = .ok (.invokestatic 182, 3) := by decide +kernel
theorem dL_drawn_316 : decode cL_drawn 316 = .ok (.goto 50, 3) := by decide +kernel
theorem dL_drawn_319 : decode cL_drawn 319 = .ok (.iload 5, 2) := by decide +kernel
theorem dL_drawn_321 : decode cL_drawn 321 = .ok (.bipush 8, 2) := by decide +kernel
theorem dL_drawn_323 : decode cL_drawn 323 = .ok (.irem, 1) := by decide +kernel
theorem dL_drawn_324 : decode cL_drawn 324 = .ok (.bipush 6, 2) := by decide +kernel
theorem dL_drawn_326 : decode cL_drawn 326 = .ok (.if_icmp .ne 23, 3) := by decide +kernel
theorem dL_drawn_329 : decode cL_drawn 329 = .ok (.iload 6, 2) := by decide +kernel
theorem dL_drawn_331 : decode cL_drawn 331 = .ok (.iconst 1, 1) := by decide +kernel
theorem dL_drawn_332 : decode cL_drawn 332 = .ok (.if_icmp .le 17, 3) := by decide +kernel
theorem dL_drawn_335 : decode cL_drawn 335 = .ok (.aload_n 1, 1) := by decide +kernel
theorem dL_drawn_336 : decode cL_drawn 336 = .ok (.iload 5, 2) := by decide +kernel
theorem dL_drawn_338 : decode cL_drawn 338 = .ok (.iconst 4, 1) := by decide +kernel
theorem dL_drawn_339 : decode cL_drawn 339 = .ok (.iushr, 1) := by decide +kernel
theorem dL_drawn_340 : decode cL_drawn 340 = .ok (.iload 6, 2) := by decide +kernel
theorem dL_drawn_342 : decode cL_drawn 342 = .ok (.irem, 1) := by decide +kernel
theorem dL_drawn_343 : decode cL_drawn 343 = .ok (.invokestatic 185, 3) := by decide +kernel
theorem dL_drawn_346 : decode cL_drawn 346 = .ok (.goto 20, 3) := by decide +kernel
theorem dL_drawn_349 : decode cL_drawn 349 = .ok (.aload_n 1, 1) := by decide +kernel
theorem dL_drawn_350 : decode cL_drawn 350 = .ok (.iload 5, 2) := by decide +kernel
theorem dL_drawn_352 : decode cL_drawn 352 = .ok (.iconst 4, 1) := by decide +kernel
theorem dL_drawn_353 : decode cL_drawn 353 = .ok (.iushr, 1) := by decide +kernel
theorem dL_drawn_354 : decode cL_drawn 354 = .ok (.iload_n 3, 1) := by decide +kernel
theorem dL_drawn_355 : decode cL_drawn 355 = .ok (.irem, 1) := by decide +kernel
theorem dL_drawn_356 : decode cL_drawn 356 = .ok (.iload 5, 2) := by decide +kernel
theorem dL_drawn_358 : decode cL_drawn 358 = .ok (.bipush 8, 2) := by decide +kernel
theorem dL_drawn_360 : decode cL_drawn 360 = .ok (.iushr, 1) := by decide +kernel
theorem dL_drawn_361 : decode cL_drawn 361 = .ok (.iload_n 3, 1) := by decide +kernel
theorem dL_drawn_362 : decode cL_drawn 362 = .ok (.irem, 1) := by decide +kernel
theorem dL_drawn_363 : decode cL_drawn 363 = .ok (.invokestatic 188, 3) := by decide +kernel
theorem dL_drawn_366 : decode cL_drawn 366 = .ok (.istore 7, 2) := by decide +kernel
theorem dL_drawn_368 : decode cL_drawn 368 = .ok (.iload 7, 2) := by decide +kernel
theorem dL_drawn_370 : decode cL_drawn 370 = .ok (.iconst (-1), 1) := by decide +kernel
theorem dL_drawn_371 : decode cL_drawn 371 = .ok (.if_icmp .ne 5, 3) := by decide +kernel
theorem dL_drawn_374 : decode cL_drawn 374 = .ok (.aconst_null, 1) := by decide +kernel
theorem dL_drawn_375 : decode cL_drawn 375 = .ok (.areturn, 1) := by decide +kernel
theorem dL_drawn_376 : decode cL_drawn 376 = .ok (.iinc 4 1, 3) := by decide +kernel
theorem dL_drawn_379 : decode cL_drawn 379 = .ok (.goto (-162), 3) := by decide +kernel
theorem dL_drawn_382 : decode cL_drawn 382 = .ok (.aload_n 1, 1) := by decide +kernel
theorem dL_drawn_383 : decode cL_drawn 383 = .ok (.areturn, 1) := by decide +kernel
theorem dL_law_0 : decode cL_law 0 = .ok (.aload_n 0, 1) := by decide +kernel
theorem dL_law_1 : decode cL_law 1 = .ok (.invokestatic 190, 3) := by decide +kernel
theorem dL_law_4 : decode cL_law 4 = .ok (.astore_n 1, 1) := by decide +kernel
theorem dL_law_5 : decode cL_law 5 = .ok (.aload_n 1, 1) := by decide +kernel
theorem dL_law_6 : decode cL_law 6 = .ok (.ifnull 43, 3) := by decide +kernel
theorem dL_law_9 : decode cL_law 9 = .ok (.aload_n 1, 1) := by decide +kernel
theorem dL_law_10 : decode cL_law 10 = .ok (.invokestatic 194, 3) := by decide +kernel
theorem dL_law_13 : decode cL_law 13 = .ok (.ifCond .eq 36, 3) := by decide +kernel
theorem dL_law_16 : decode cL_law 16 = .ok (.aload_n 1, 1) := by decide +kernel
theorem dL_law_17 : decode cL_law 17 = .ok (.invokestatic 198, 3) := by decide +kernel
theorem dL_law_20 : decode cL_law 20 = .ok (.ifCond .eq 29, 3) := by decide +kernel
theorem dL_law_23 : decode cL_law 23 = .ok (.aload_n 1, 1) := by decide +kernel
theorem dL_law_24 : decode cL_law 24 = .ok (.invokestatic 201, 3) := by decide +kernel
theorem dL_law_27 : decode cL_law 27 = .ok (.ifCond .eq 22, 3) := by decide +kernel
theorem dL_law_30 : decode cL_law 30 = .ok (.aload_n 1, 1) := by decide +kernel
theorem dL_law_31 : decode cL_law 31 = .ok (.invokestatic 204, 3) := by decide +kernel
theorem dL_law_34 : decode cL_law 34 = .ok (.ifCond .eq 15, 3) := by decide +kernel
theorem dL_law_37 : decode cL_law 37 = .ok (.aload_n 0, 1) := by decide +kernel
theorem dL_law_38 : decode cL_law 38 = .ok (.aload_n 1, 1) := by decide +kernel
theorem dL_law_39 : decode cL_law 39 = .ok (.invokestatic 207, 3) := by decide +kernel
theorem dL_law_42 : decode cL_law 42 = .ok (.ifCond .eq 7, 3) := by decide +kernel
theorem dL_law_45 : decode cL_law 45 = .ok (.iconst 1, 1) := by decide +kernel
theorem dL_law_46 : decode cL_law 46 = .ok (.goto 4, 3) := by decide +kernel
theorem dL_law_49 : decode cL_law 49 = .ok (.iconst 0, 1) := by decide +kernel
theorem dL_law_50 : decode cL_law 50 = .ok (.ireturn, 1) := by decide +kernel
theorem dL_legs_0 : decode cL_legs 0 = .ok (.aload_n 0, 1) := by decide +kernel
theorem dL_legs_1 : decode cL_legs 1 = .ok (.invokevirtual 211, 3) := by decide +kernel
theorem dL_legs_4 : decode cL_legs 4 = .ok (.istore_n 1, 1) := by decide +kernel
theorem dL_legs_5 : decode cL_legs 5 = .ok (.iconst 0, 1) := by decide +kernel
theorem dL_legs_6 : decode cL_legs 6 = .ok (.istore_n 2, 1) := by decide +kernel
theorem dL_legs_7 : decode cL_legs 7 = .ok (.iconst 0, 1) := by decide +kernel
theorem dL_legs_8 : decode cL_legs 8 = .ok (.istore_n 3, 1) := by decide +kernel
theorem dL_legs_9 : decode cL_legs 9 = .ok (.iload_n 3, 1) := by decide +kernel
theorem dL_legs_10 : decode cL_legs 10 = .ok (.iload_n 1, 1) := by decide +kernel
theorem dL_legs_11 : decode cL_legs 11 = .ok (.if_icmp .ge 198, 3) := by decide +kernel
theorem dL_legs_14 : decode cL_legs 14 = .ok (.iconst 0, 1) := by decide +kernel
theorem dL_legs_15 : decode cL_legs 15 = .ok (.istore 4, 2) := by decide +kernel
theorem dL_legs_17 : decode cL_legs 17 = .ok (.iload 4, 2) := by decide +kernel
theorem dL_legs_19 : decode cL_legs 19 = .ok (.iload_n 1, 1) := by decide +kernel
theorem dL_legs_20 : decode cL_legs 20 = .ok (.if_icmp .ge 183, 3) := by decide +kernel
theorem dL_legs_23 : decode cL_legs 23 = .ok (.aload_n 0, 1) := by decide +kernel
theorem dL_legs_24 : decode cL_legs 24 = .ok (.iload_n 3, 1) := by decide +kernel
theorem dL_legs_25 : decode cL_legs 25 = .ok (.iload 4, 2) := by decide +kernel
theorem dL_legs_27 : decode cL_legs 27 = .ok (.invokestatic 214, 3) := by decide +kernel
theorem dL_legs_30 : decode cL_legs 30 = .ok (.iconst 1, 1) := by decide +kernel
theorem dL_legs_31 : decode cL_legs 31 = .ok (.if_icmp .ne 7, 3) := by decide +kernel
theorem dL_legs_34 : decode cL_legs 34 = .ok (.iconst 1, 1) := by decide +kernel
theorem dL_legs_35 : decode cL_legs 35 = .ok (.goto 4, 3) := by decide +kernel
theorem dL_legs_38 : decode cL_legs 38 = .ok (.iconst 0, 1) := by decide +kernel
theorem dL_legs_39 : decode cL_legs 39 = .ok (.istore 5, 2) := by decide +kernel
theorem dL_legs_41 : decode cL_legs 41 = .ok (.iload_n 2, 1) := by decide +kernel
theorem dL_legs_42 : decode cL_legs 42 = .ok (.iload 5, 2) := by decide +kernel
theorem dL_legs_44 : decode cL_legs 44 = .ok (.ifCond .eq 13, 3) := by decide +kernel
theorem dL_legs_47 : decode cL_legs 47 = .ok (.iload_n 3, 1) := by decide +kernel
theorem dL_legs_48 : decode cL_legs 48 = .ok (.iload 4, 2) := by decide +kernel
theorem dL_legs_50 : decode cL_legs 50 = .ok (.if_icmp .ge 7, 3) := by decide +kernel
theorem dL_legs_53 : decode cL_legs 53 = .ok (.iconst 1, 1) := by decide +kernel
theorem dL_legs_54 : decode cL_legs 54 = .ok (.goto 4, 3) := by decide +kernel
theorem dL_legs_57 : decode cL_legs 57 = .ok (.iconst 0, 1) := by decide +kernel
theorem dL_legs_58 : decode cL_legs 58 = .ok (.iadd, 1) := by decide +kernel
theorem dL_legs_59 : decode cL_legs 59 = .ok (.istore_n 2, 1) := by decide +kernel
theorem dL_legs_60 : decode cL_legs 60 = .ok (.iload 5, 2) := by decide +kernel
theorem dL_legs_62 : decode cL_legs 62 = .ok (.ifCond .eq 21, 3) := by decide +kernel
theorem dL_legs_65 : decode cL_legs 65 = .ok (.aload_n 0, 1) := by decide +kernel
theorem dL_legs_66 : decode cL_legs 66 = .ok (.iload_n 3, 1) := by decide +kernel
theorem dL_legs_67 : decode cL_legs 67 = .ok (.iload 4, 2) := by decide +kernel
theorem dL_legs_69 : decode cL_legs 69 = .ok (.invokestatic 216, 3) := by decide +kernel
theorem dL_legs_72 : decode cL_legs 72 = .ok (.aload_n 0, 1) := by decide +kernel
theorem dL_legs_73 : decode cL_legs 73 = .ok (.invokevirtual 218, 3) := by decide +kernel
theorem dL_legs_76 : decode cL_legs 76 = .ok (.if_icmp .gt 7, 3) := by decide +kernel
theorem dL_legs_79 : decode cL_legs 79 = .ok (.iconst 1, 1) := by decide +kernel
theorem dL_legs_80 : decode cL_legs 80 = .ok (.goto 4, 3) := by decide +kernel
