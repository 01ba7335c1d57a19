theorem inX0 : ∀ w ∈ wsX00, w ∈ lw_tbl := by decide +kernel
theorem inlX1 : ∀ w ∈ wsX10, w ∈ wsL_law := fun _ h => List.mem_append_left _ (List.mem_append_left _ (List.mem_append_left _ (List.mem_append_left _ (List.mem_append_left _ (List.mem_append_left _ (List.mem_append_left _ (List.mem_append_left _ (List.mem_append_left _ (List.mem_append_left _ (List.mem_append_left _ (List.mem_append_left _ (List.mem_append_left _ (List.mem_append_right _ h)))))))))))))
theorem inX2 : ∀ w ∈ wsX20, w ∈ lw_tbl := by decide +kernel
theorem inlX3 : ∀ w ∈ wsX30, w ∈ wsL_law := fun _ h => List.mem_append_left _ (List.mem_append_left _ (List.mem_append_left _ (List.mem_append_left _ (List.mem_append_left _ (List.mem_append_left _ (List.mem_append_left _ (List.mem_append_left _ (List.mem_append_left _ (List.mem_append_left _ (List.mem_append_left _ (List.mem_append_left _ (List.mem_append_left _ (List.mem_append_left _ (List.mem_append_left _ (List.mem_append_left _ (List.mem_append_left _ (List.mem_append_left _ (List.mem_append_right _ h))))))))))))))))))
theorem inlX4 : ∀ w ∈ wsX40, w ∈ wsL_law := fun _ h => List.mem_append_left _ (List.mem_append_left _ (List.mem_append_left _ (List.mem_append_left _ (List.mem_append_left _ (List.mem_append_left _ (List.mem_append_left _ (List.mem_append_left _ (List.mem_append_left _ (List.mem_append_left _ (List.mem_append_left _ (List.mem_append_left _ (List.mem_append_left _ (List.mem_append_left _ (List.mem_append_left _ (List.mem_append_left _ (List.mem_append_left _ (List.mem_append_left _ (List.mem_append_left _ (List.mem_append_left _ (List.mem_append_right _ h))))))))))))))))))))
theorem inlX5 : ∀ w ∈ wsX50, w ∈ wsL_law := fun _ h => List.mem_append_left _ (List.mem_append_left _ (List.mem_append_left _ (List.mem_append_left _ (List.mem_append_left _ (List.mem_append_left _ (List.mem_append_left _ (List.mem_append_left _ (List.mem_append_left _ (List.mem_append_left _ (List.mem_append_left _ (List.mem_append_left _ (List.mem_append_left _ (List.mem_append_left _ (List.mem_append_left _ (List.mem_append_right _ h)))))))))))))))
theorem inlX6 : ∀ w ∈ wsX60, w ∈ wsL_law := fun _ h => List.mem_append_left _ (List.mem_append_left _ (List.mem_append_left _ (List.mem_append_left _ (List.mem_append_left _ (List.mem_append_left _ (List.mem_append_left _ (List.mem_append_left _ (List.mem_append_left _ (List.mem_append_left _ (List.mem_append_left _ (List.mem_append_left _ (List.mem_append_left _ (List.mem_append_left _ (List.mem_append_left _ (List.mem_append_left _ (List.mem_append_left _ (List.mem_append_left _ (List.mem_append_left _ (List.mem_append_right _ h)))))))))))))))))))
theorem inlX7 : ∀ w ∈ wsX70, w ∈ wsL_law := fun _ h => List.mem_append_left _ (List.mem_append_left _ (List.mem_append_left _ (List.mem_append_left _ (List.mem_append_left _ (List.mem_append_left _ (List.mem_append_left _ (List.mem_append_left _ (List.mem_append_left _ (List.mem_append_left _ (List.mem_append_left _ (List.mem_append_left _ (List.mem_append_left _ (List.mem_append_left _ (List.mem_append_right _ h))))))))))))))
theorem inlX8 : ∀ w ∈ wsX80, w ∈ wsL_law := fun _ h => List.mem_append_left _ (List.mem_append_left _ (List.mem_append_left _ (List.mem_append_left _ (List.mem_append_left _ (List.mem_append_left _ (List.mem_append_left _ (List.mem_append_left _ (List.mem_append_left _ (List.mem_append_left _ (List.mem_append_left _ (List.mem_append_left _ (List.mem_append_right _ h))))))))))))
theorem inlX9 : ∀ w ∈ wsX90, w ∈ wsL_law := fun _ h => List.mem_append_left _ (List.mem_append_left _ (List.mem_append_left _ (List.mem_append_left _ (List.mem_append_left _ (List.mem_append_left _ (List.mem_append_left _ (List.mem_append_left _ (List.mem_append_left _ (List.mem_append_left _ (List.mem_append_left _ (List.mem_append_left _ (List.mem_append_left _ (List.mem_append_left _ (List.mem_append_left _ (List.mem_append_left _ (List.mem_append_left _ (List.mem_append_right _ h)))))))))))))))))
theorem inlX10 : ∀ w ∈ wsX100, w ∈ wsL_law := fun _ h => List.mem_append_left _ (List.mem_append_left _ (List.mem_append_left _ (List.mem_append_left _ (List.mem_append_left _ (List.mem_append_left _ (List.mem_append_left _ (List.mem_append_left _ (List.mem_append_left _ (List.mem_append_left _ (List.mem_append_left _ (List.mem_append_left _ (List.mem_append_left _ (List.mem_append_left _ (List.mem_append_left _ (List.mem_append_left _ (List.mem_append_left _ (List.mem_append_left _ (List.mem_append_left _ (List.mem_append_left _ (List.mem_append_left _ (List.mem_append_right _ h)))))))))))))))))))))
theorem inX11 : ∀ w ∈ wsX110, w ∈ lw_tbl := by decide +kernel
theorem inJx145de : ∀ w ∈ wsJx145de0, w ∈ lw_tbl := by decide +kernel
theorem inJ5 : ∀ w ∈ wsJ50, w ∈ lw_tbl := by decide +kernel
theorem inJx2cfe8 : ∀ w ∈ wsJx2cfe80, w ∈ lw_tbl := by decide +kernel
theorem inlJx00060 : ∀ w ∈ wsJx000600, w ∈ wsL_law := fun _ h => List.mem_append_left _ (List.mem_append_left _ (List.mem_append_left _ (List.mem_append_left _ (List.mem_append_left _ (List.mem_append_left _ (List.mem_append_left _ (List.mem_append_left _ (List.mem_append_left _ (List.mem_append_right _ h)))))))))
theorem inJx9f9b0 : ∀ w ∈ wsJx9f9b00, w ∈ lw_tbl := by decide +kernel
theorem inJx8e188 : ∀ w ∈ wsJx8e1880, w ∈ lw_tbl := by decide +kernel
theorem inJxb160c : ∀ w ∈ wsJxb160c0, w ∈ lw_tbl := by decide +kernel
theorem inJx29ce0 : ∀ w ∈ wsJx29ce00, w ∈ lw_tbl := by decide +kernel
theorem inJ6 : ∀ w ∈ wsJ60, w ∈ lw_tbl := by decide +kernel
theorem inJ9 : ∀ w ∈ wsJ90, w ∈ lw_tbl := by decide +kernel
theorem inJxd2413 : ∀ w ∈ wsJxd24130, w ∈ lw_tbl := by decide +kernel
theorem inlJ0 : ∀ w ∈ wsJ00, w ∈ wsL_law := fun _ h => List.mem_append_left _ (List.mem_append_left _ (List.mem_append_left _ (List.mem_append_left _ (List.mem_append_left _ (List.mem_append_left _ (List.mem_append_left _ (List.mem_append_left _ (List.mem_append_left _ (List.mem_append_left _ (List.mem_append_left _ (List.mem_append_right _ h)))))))))))
theorem inlJ4 : ∀ w ∈ wsJ40, w ∈ wsL_law := fun _ h => List.mem_append_left _ (List.mem_append_left _ (List.mem_append_left _ (List.mem_append_left _ (List.mem_append_left _ (List.mem_append_left _ (List.mem_append_left _ (List.mem_append_left _ (List.mem_append_left _ (List.mem_append_left _ (List.mem_append_left _ (List.mem_append_left _ (List.mem_append_left _ (List.mem_append_left _ (List.mem_append_left _ (List.mem_append_left _ (List.mem_append_right _ h))))))))))))))))
theorem inlJx7c733 : ∀ w ∈ wsJx7c7330, w ∈ wsL_law := fun _ h => List.mem_append_left _ (List.mem_append_left _ (List.mem_append_left _ (List.mem_append_left _ (List.mem_append_left _ (List.mem_append_left _ (List.mem_append_left _ (List.mem_append_left _ (List.mem_append_left _ (List.mem_append_left _ (List.mem_append_right _ h))))))))))
theorem inJ1 : ∀ w ∈ wsJ10, w ∈ lw_tbl := by decide +kernel
theorem inJ2 : ∀ w ∈ wsJ20, w ∈ lw_tbl := by decide +kernel
theorem inJ10 : ∀ w ∈ wsJ100, w ∈ lw_tbl := by decide +kernel
theorem inJxfd54e : ∀ w ∈ wsJxfd54e0, w ∈ lw_tbl := by decide +kernel
theorem inJx3cf43 : ∀ w ∈ wsJx3cf430, w ∈ lw_tbl := by decide +kernel
theorem inJ7 : ∀ w ∈ wsJ70, w ∈ lw_tbl := by decide +kernel
theorem inJ8 : ∀ w ∈ wsJ80, w ∈ lw_tbl := by decide +kernel
theorem inJ3 : ∀ w ∈ wsJ30, w ∈ lw_tbl := by decide +kernel
theorem dX1_init_0 : decode cX1_init 0 = .ok (.aload_n 0, 1) := by decide +kernel
theorem dX1_init_1 : decode cX1_init 1 = .ok (.invokespecial 3, 3) := by decide +kernel
theorem dX1_init_4 : decode cX1_init 4 = .ok (.aload_n 0, 1) := by decide +kernel
theorem dX1_init_5 : decode cX1_init 5 = .ok (.bipush 20, 2) := by decide +kernel
theorem dX1_init_7 : decode cX1_init 7 = .ok (.newarray .int, 2) := by decide +kernel
theorem dX1_init_9 : decode cX1_init 9 = .ok (.putfield 9, 3) := by decide +kernel
theorem dX1_init_12 : decode cX1_init 12 = .ok (.aload_n 0, 1) := by decide +kernel
theorem dX1_init_13 : decode cX1_init 13 = .ok (.bipush 20, 2) := by decide +kernel
theorem dX1_init_15 : decode cX1_init 15 = .ok (.newarray .int, 2) := by decide +kernel
theorem dX1_init_17 : decode cX1_init 17 = .ok (.putfield 15, 3) := by decide +kernel
theorem dX1_init_20 : decode cX1_init 20 = .ok (.aload_n 0, 1) := by decide +kernel
theorem dX1_init_21 : decode cX1_init 21 = .ok (.bipush 20, 2) := by decide +kernel
theorem dX1_init_23 : decode cX1_init 23 = .ok (.newarray .int, 2) := by decide +kernel
theorem dX1_init_25 : decode cX1_init 25 = .ok (.putfield 18, 3) := by decide +kernel
theorem dX1_init_28 : decode cX1_init 28 = .ok (.aload_n 0, 1) := by decide +kernel
theorem dX1_init_29 : decode cX1_init 29 = .ok (.bipush 20, 2) := by decide +kernel
theorem dX1_init_31 : decode cX1_init 31 = .ok (.newarray .int, 2) := by decide +kernel
theorem dX1_init_33 : decode cX1_init 33 = .ok (.putfield 21, 3) := by decide +kernel
theorem dX1_init_36 : decode cX1_init 36 = .ok (.aload_n 0, 1) := by decide +kernel
theorem dX1_init_37 : decode cX1_init 37 = .ok (.bipush 20, 2) := by decide +kernel
theorem dX1_init_39 : decode cX1_init 39 = .ok (.newarray .int, 2) := by decide +kernel
theorem dX1_init_41 : decode cX1_init 41 = .ok (.putfield 24, 3) := by decide +kernel
theorem dX1_init_44 : decode cX1_init 44 = .ok (.return_, 1) := by decide +kernel
theorem dX1_hasPorts_0 : decode cX1_hasPorts 0 = .ok (.iload_n 1, 1) := by decide +kernel
theorem dX1_hasPorts_1 : decode cX1_hasPorts 1 = .ok (.ifCond .lt 27, 3) := by decide +kernel
theorem dX1_hasPorts_4 : decode cX1_hasPorts 4 = .ok (.iload_n 1, 1) := by decide +kernel
theorem dX1_hasPorts_5 : decode cX1_hasPorts 5 = .ok (.aload_n 0, 1) := by decide +kernel
theorem dX1_hasPorts_6 : decode cX1_hasPorts 6 = .ok (.getfield 27, 3) := by decide +kernel
theorem dX1_hasPorts_9 : decode cX1_hasPorts 9 = .ok (.if_icmp .ge 19, 3) := by decide +kernel
theorem dX1_hasPorts_12 : decode cX1_hasPorts 12 = .ok (.iload_n 2, 1) := by decide +kernel
theorem dX1_hasPorts_13 : decode cX1_hasPorts 13 = .ok (.ifCond .lt 15, 3) := by decide +kernel
theorem dX1_hasPorts_16 : decode cX1_hasPorts 16 = .ok (.iload_n 2, 1) := by decide +kernel
theorem dX1_hasPorts_17 : decode cX1_hasPorts 17 = .ok (.aload_n 0, 1) := by decide +kernel
theorem dX1_hasPorts_18 : decode cX1_hasPorts 18 = .ok (.getfield 27, 3) := by decide +kernel
theorem dX1_hasPorts_21 : decode cX1_hasPorts 21 = .ok (.if_icmp .ge 7, 3) := by decide +kernel
theorem dX1_hasPorts_24 : decode cX1_hasPorts 24 = .ok (.iconst 1, 1) := by decide +kernel
theorem dX1_hasPorts_25 : decode cX1_hasPorts 25 = .ok (.goto 4, 3) := by decide +kernel
theorem dX1_hasPorts_28 : decode cX1_hasPorts 28 = .ok (.iconst 0, 1) := by decide +kernel
theorem dX1_hasPorts_29 : decode cX1_hasPorts 29 = .ok (.ireturn, 1) := by decide +kernel
theorem dX1_find_0 : decode cX1_find 0 = .ok (.iload_n 1, 1) := by decide +kernel
theorem dX1_find_1 : decode cX1_find 1 = .ok (.iload_n 2, 1) := by decide +kernel
theorem dX1_find_2 : decode cX1_find 2 = .ok (.invokestatic 31, 3) := by decide +kernel
theorem dX1_find_5 : decode cX1_find 5 = .ok (.istore_n 3, 1) := by decide +kernel
theorem dX1_find_6 : decode cX1_find 6 = .ok (.iload_n 1, 1) := by decide +kernel
theorem dX1_find_7 : decode cX1_find 7 = .ok (.iload_n 2, 1) := by decide +kernel
theorem dX1_find_8 : decode cX1_find 8 = .ok (.invokestatic 37, 3) := by decide +kernel
theorem dX1_find_11 : decode cX1_find 11 = .ok (.istore 4, 2) := by decide +kernel
theorem dX1_find_13 : decode cX1_find 13 = .ok (.iconst 0, 1) := by decide +kernel
theorem dX1_find_14 : decode cX1_find 14 = .ok (.istore 5, 2) := by decide +kernel
theorem dX1_find_16 : decode cX1_find 16 = .ok (.iload 5, 2) := by decide +kernel
theorem dX1_find_18 : decode cX1_find 18 = .ok (.aload_n 0, 1) := by decide +kernel
theorem dX1_find_19 : decode cX1_find 19 = .ok (.getfield 40, 3) := by decide +kernel
theorem dX1_find_22 : decode cX1_find 22 = .ok (.if_icmp .ge 35, 3) := by decide +kernel
theorem dX1_find_25 : decode cX1_find 25 = .ok (.aload_n 0, 1) := by decide +kernel
theorem dX1_find_26 : decode cX1_find 26 = .ok (.getfield 9, 3) := by decide +kernel
theorem dX1_find_29 : decode cX1_find 29 = .ok (.iload 5, 2) := by decide +kernel
theorem dX1_find_31 : decode cX1_find 31 = .ok (.iaload, 1) := by decide +kernel
theorem dX1_find_32 : decode cX1_find 32 = .ok (.iload_n 3, 1) := by decide +kernel
theorem dX1_find_33 : decode cX1_find 33 = .ok (.if_icmp .ne 18, 3) := by decide +kernel
theorem dX1_find_36 : decode cX1_find 36 = .ok (.aload_n 0, 1) := by decide +kernel
theorem dX1_find_37 : decode cX1_find 37 = .ok (.getfield 15, 3) := by decide +kernel
theorem dX1_find_40 : decode cX1_find 40 = .ok (.iload 5, 2) := by decide +kernel
theorem dX1_find_42 : decode cX1_find 42 = .ok (.iaload, 1) := by decide +kernel
theorem dX1_find_43 : decode cX1_find 43 = .ok (.iload 4, 2) := by decide +kernel
theorem dX1_find_45 : decode cX1_find 45 = .ok (.if_icmp .ne 6, 3) := by decide +kernel
theorem dX1_find_48 : decode cX1_find 48 = .ok (.iload 5, 2) := by decide +kernel
theorem dX1_find_50 : decode cX1_find 50 = .ok (.ireturn, 1) := by decide +kernel
theorem dX1_find_51 : decode cX1_find 51 = .ok (.iinc 5 1, 3) := by decide +kernel
theorem dX1_find_54 : decode cX1_find 54 = .ok (.goto (-38), 3) := by decide +kernel
theorem dX1_find_57 : decode cX1_find 57 = .ok (.iconst (-1), 1) := by decide +kernel
theorem dX1_find_58 : decode cX1_find 58 = .ok (.ireturn, 1) := by decide +kernel
set_option maxRecDepth 20000 in
theorem ggX1_insert_X1_comesBefore : GoodIn wsX1_insert wsX1_comesBefore := goodIn_ca (goodIn_r _ [18, 12, 11, 9, 10, 23, 24, 25, 26, 27, 28, 29] (by decide +kernel) (by decide +kernel)) (goodIn_sub (fun _ h => List.mem_cons_of_mem _ (List.mem_append_right _ h)) (by decide +kernel))
set_option maxRecDepth 20000 in
theorem gX1_insert_X1_comesBefore : GoodIn wsX1_insert (wsV RX1 43 RX1 yX1_comesBefore wsX1_comesBefore) := goodIn_app (goodIn_of _ (by decide +kernel)) ggX1_insert_X1_comesBefore
set_option maxRecDepth 20000 in
theorem ggX1_insert_X1_move : GoodIn wsX1_insert wsX1_move := goodIn_ca (goodIn_r _ [22, 9, 10, 11, 12, 13, 23, 24, 25, 26, 27, 28, 29] (by decide +kernel) (by decide +kernel)) (goodIn_sub (fun _ h => List.mem_cons_of_mem _ (List.mem_append_right _ h)) (by decide +kernel))
set_option maxRecDepth 20000 in
theorem gX1_insert_X1_move : GoodIn wsX1_insert (wsV RX1 47 RX1 yX1_move wsX1_move) := goodIn_app (goodIn_of _ (by decide +kernel)) ggX1_insert_X1_move
theorem dX1_insert_0 : decode cX1_insert 0 = .ok (.aload_n 0, 1) := by decide +kernel
theorem dX1_insert_1 : decode cX1_insert 1 = .ok (.getfield 40, 3) := by decide +kernel
theorem dX1_insert_4 : decode cX1_insert 4 = .ok (.bipush 20, 2) := by decide +kernel
theorem dX1_insert_6 : decode cX1_insert 6 = .ok (.if_icmp .lt 4, 3) := by decide +kernel
theorem dX1_insert_9 : decode cX1_insert 9 = .ok (.return_, 1) := by decide +kernel
theorem dX1_insert_10 : decode cX1_insert 10 = .ok (.iload_n 1, 1) := by decide +kernel
theorem dX1_insert_11 : decode cX1_insert 11 = .ok (.iload_n 2, 1) := by decide +kernel
theorem dX1_insert_12 : decode cX1_insert 12 = .ok (.invokestatic 31, 3) := by decide +kernel
theorem dX1_insert_15 : decode cX1_insert 15 = .ok (.istore 5, 2) := by decide +kernel
theorem dX1_insert_17 : decode cX1_insert 17 = .ok (.iload_n 1, 1) := by decide +kernel
theorem dX1_insert_18 : decode cX1_insert 18 = .ok (.iload_n 2, 1) := by decide +kernel
theorem dX1_insert_19 : decode cX1_insert 19 = .ok (.invokestatic 37, 3) := by decide +kernel
theorem dX1_insert_22 : decode cX1_insert 22 = .ok (.istore 6, 2) := by decide +kernel
theorem dX1_insert_24 : decode cX1_insert 24 = .ok (.iconst 0, 1) := by decide +kernel
theorem dX1_insert_25 : decode cX1_insert 25 = .ok (.istore 7, 2) := by decide +kernel
theorem dX1_insert_27 : decode cX1_insert 27 = .ok (.iload 7, 2) := by decide +kernel
theorem dX1_insert_29 : decode cX1_insert 29 = .ok (.aload_n 0, 1) := by decide +kernel
theorem dX1_insert_30 : decode cX1_insert 30 = .ok (.getfield 40, 3) := by decide +kernel
theorem dX1_insert_33 : decode cX1_insert 33 = .ok (.if_icmp .ge 25, 3) := by decide +kernel
theorem dX1_insert_36 : decode cX1_insert 36 = .ok (.aload_n 0, 1) := by decide +kernel
theorem dX1_insert_37 : decode cX1_insert 37 = .ok (.iload 7, 2) := by decide +kernel
theorem dX1_insert_39 : decode cX1_insert 39 = .ok (.iload 4, 2) := by decide +kernel
theorem dX1_insert_41 : decode cX1_insert 41 = .ok (.iload_n 3, 1) := by decide +kernel
theorem dX1_insert_42 : decode cX1_insert 42 = .ok (.iload 5, 2) := by decide +kernel
theorem dX1_insert_44 : decode cX1_insert 44 = .ok (.iload 6, 2) := by decide +kernel
theorem dX1_insert_46 : decode cX1_insert 46 = .ok (.invokevirtual 43, 3) := by decide +kernel
theorem dX1_insert_49 : decode cX1_insert 49 = .ok (.ifCond .eq 9, 3) := by decide +kernel
theorem dX1_insert_52 : decode cX1_insert 52 = .ok (.iinc 7 1, 3) := by decide +kernel
theorem dX1_insert_55 : decode cX1_insert 55 = .ok (.goto (-28), 3) := by decide +kernel
theorem dX1_insert_58 : decode cX1_insert 58 = .ok (.aload_n 0, 1) := by decide +kernel
theorem dX1_insert_59 : decode cX1_insert 59 = .ok (.getfield 40, 3) := by decide +kernel
theorem dX1_insert_62 : decode cX1_insert 62 = .ok (.istore 8, 2) := by decide +kernel
theorem dX1_insert_64 : decode cX1_insert 64 = .ok (.iload 8, 2) := by decide +kernel
theorem dX1_insert_66 : decode cX1_insert 66 = .ok (.iload 7, 2) := by decide +kernel
theorem dX1_insert_68 : decode cX1_insert 68 = .ok (.if_icmp .le 19, 3) := by decide +kernel
theorem dX1_insert_71 : decode cX1_insert 71 = .ok (.aload_n 0, 1) := by decide +kernel
theorem dX1_insert_72 : decode cX1_insert 72 = .ok (.iload 8, 2) := by decide +kernel
theorem dX1_insert_74 : decode cX1_insert 74 = .ok (.iconst 1, 1) := by decide +kernel
theorem dX1_insert_75 : decode cX1_insert 75 = .ok (.isub, 1) := by decide +kernel
theorem dX1_insert_76 : decode cX1_insert 76 = .ok (.iload 8, 2) := by decide +kernel
theorem dX1_insert_78 : decode cX1_insert 78 = .ok (.invokevirtual 47, 3) := by decide +kernel
theorem dX1_insert_81 : decode cX1_insert 81 = .ok (.iinc 8 (-1), 3) := by decide +kernel
theorem dX1_insert_84 : decode cX1_insert 84 = .ok (.goto (-20), 3) := by decide +kernel
theorem dX1_insert_87 : decode cX1_insert 87 = .ok (.aload_n 0, 1) := by decide +kernel
theorem dX1_insert_88 : decode cX1_insert 88 = .ok (.getfield 9, 3) := by decide +kernel
theorem dX1_insert_91 : decode cX1_insert 91 = .ok (.iload 7, 2) := by decide +kernel
theorem dX1_insert_93 : decode cX1_insert 93 = .ok (.iload 5, 2) := by decide +kernel
theorem dX1_insert_95 : decode cX1_insert 95 = .ok (.iastore, 1) := by decide +kernel
theorem dX1_insert_96 : decode cX1_insert 96 = .ok (.aload_n 0, 1) := by decide +kernel
theorem dX1_insert_97 : decode cX1_insert 97 = .ok (.getfield 15, 3) := by decide +kernel
theorem dX1_insert_100 : decode cX1_insert 100 = .ok (.iload 7, 2) := by decide +kernel
theorem dX1_insert_102 : decode cX1_insert 102 = .ok (.iload 6, 2) := by decide +kernel
theorem dX1_insert_104 : decode cX1_insert 104 = .ok (.iastore, 1) := by decide +kernel
theorem dX1_insert_105 : decode cX1_insert 105 = .ok (.aload_n 0, 1) := by decide +kernel
theorem dX1_insert_106 : decode cX1_insert 106 = .ok (.getfield 18, 3) := by decide +kernel
theorem dX1_insert_109 : decode cX1_insert 109 = .ok (.iload 7, 2) := by decide +kernel
theorem dX1_insert_111 : decode cX1_insert 111 = .ok (.iload_n 3, 1) := by decide +kernel
theorem dX1_insert_112 : decode cX1_insert 112 = .ok (.iastore, 1) := by decide +kernel
theorem dX1_insert_113 : decode cX1_insert 113 = .ok (.aload_n 0, 1) := by decide +kernel
theorem dX1_insert_114 : decode cX1_insert 114 = .ok (.getfield 21, 3) := by decide +kernel
theorem dX1_insert_117 : decode cX1_insert 117 = .ok (.iload 7, 2) := by decide +kernel
theorem dX1_insert_119 : decode cX1_insert 119 = .ok (.iload 4, 2) := by decide +kernel
theorem dX1_insert_121 : decode cX1_insert 121 = .ok (.iastore, 1) := by decide +kernel
theorem dX1_insert_122 : decode cX1_insert 122 = .ok (.aload_n 0, 1) := by decide +kernel
theorem dX1_insert_123 : decode cX1_insert 123 = .ok (.getfield 24, 3) := by decide +kernel
theorem dX1_insert_126 : decode cX1_insert 126 = .ok (.iload 7, 2) := by decide +kernel
theorem dX1_insert_128 : decode cX1_insert 128 = .ok (.iconst 0, 1) := by decide +kernel
theorem dX1_insert_129 : decode cX1_insert 129 = .ok (.iastore, 1) := by decide +kernel
theorem dX1_insert_130 : decode cX1_insert 130 = .ok (.aload_n 0, 1) := by decide +kernel
theorem dX1_insert_131 : decode cX1_insert 131 = .ok (.dup, 1) := by decide +kernel
theorem dX1_insert_132 : decode cX1_insert 132 = .ok (.getfield 40, 3) := by decide +kernel
theorem dX1_insert_135 : decode cX1_insert 135 = .ok (.iconst 1, 1) := by decide +kernel
theorem dX1_insert_136 : decode cX1_insert 136 = .ok (.iadd, 1) := by decide +kernel
theorem dX1_insert_137 : decode cX1_insert 137 = .ok (.putfield 40, 3) := by decide +kernel
theorem dX1_insert_140 : decode cX1_insert 140 = .ok (.return_, 1) := by decide +kernel
set_option maxRecDepth 20000 in
theorem ggX1_delete_X1_move : GoodIn wsX1_delete wsX1_move := goodIn_ca (goodIn_r _ [6, 7, 8, 9, 10, 11, 12, 13, 14, 15, 16, 17, 18] (by decide +kernel) (by decide +kernel)) (goodIn_sub (fun _ h => List.mem_cons_of_mem _ (List.mem_append_right _ h)) (by decide +kernel))
set_option maxRecDepth 20000 in
theorem gX1_delete_X1_move : GoodIn wsX1_delete (wsV RX1 47 RX1 yX1_move wsX1_move) := goodIn_app (goodIn_of _ (by decide +kernel)) ggX1_delete_X1_move
theorem dX1_delete_0 : decode cX1_delete 0 = .ok (.iload_n 1, 1) := by decide +kernel
theorem dX1_delete_1 : decode cX1_delete 1 = .ok (.ifCond .lt 11, 3) := by decide +kernel
theorem dX1_delete_4 : decode cX1_delete 4 = .ok (.iload_n 1, 1) := by decide +kernel
theorem dX1_delete_5 : decode cX1_delete 5 = .ok (.aload_n 0, 1) := by decide +kernel
theorem dX1_delete_6 : decode cX1_delete 6 = .ok (.getfield 40, 3) := by decide +kernel
theorem dX1_delete_9 : decode cX1_delete 9 = .ok (.if_icmp .lt 4, 3) := by decide +kernel
theorem dX1_delete_12 : decode cX1_delete 12 = .ok (.return_, 1) := by decide +kernel
theorem dX1_delete_13 : decode cX1_delete 13 = .ok (.iload_n 1, 1) := by decide +kernel
theorem dX1_delete_14 : decode cX1_delete 14 = .ok (.iconst 1, 1) := by decide +kernel
theorem dX1_delete_15 : decode cX1_delete 15 = .ok (.iadd, 1) := by decide +kernel
theorem dX1_delete_16 : decode cX1_delete 16 = .ok (.istore_n 2, 1) := by decide +kernel
theorem dX1_delete_17 : decode cX1_delete 17 = .ok (.iload_n 2, 1) := by decide +kernel
theorem dX1_delete_18 : decode cX1_delete 18 = .ok (.aload_n 0, 1) := by decide +kernel
theorem dX1_delete_19 : decode cX1_delete 19 = .ok (.getfield 40, 3) := by decide +kernel
theorem dX1_delete_22 : decode cX1_delete 22 = .ok (.if_icmp .ge 17, 3) := by decide +kernel
theorem dX1_delete_25 : decode cX1_delete 25 = .ok (.aload_n 0, 1) := by decide +kernel
theorem dX1_delete_26 : decode cX1_delete 26 = .ok (.iload_n 2, 1) := by decide +kernel
theorem dX1_delete_27 : decode cX1_delete 27 = .ok (.iload_n 2, 1) := by decide +kernel
theorem dX1_delete_28 : decode cX1_delete 28 = .ok (.iconst 1, 1) := by decide +kernel
theorem dX1_delete_29 : decode cX1_delete 29 = .ok (.isub, 1) := by decide +kernel
theorem dX1_delete_30 : decode cX1_delete 30 = .ok (.invokevirtual 47, 3) := by decide +kernel
theorem dX1_delete_33 : decode cX1_delete 33 = .ok (.iinc 2 1, 3) := by decide +kernel
theorem dX1_delete_36 : decode cX1_delete 36 = .ok (.goto (-19), 3) := by decide +kernel
theorem dX1_delete_39 : decode cX1_delete 39 = .ok (.aload_n 0, 1) := by decide +kernel
theorem dX1_delete_40 : decode cX1_delete 40 = .ok (.dup, 1) := by decide +kernel
theorem dX1_delete_41 : decode cX1_delete 41 = .ok (.getfield 40, 3) := by decide +kernel
theorem dX1_delete_44 : decode cX1_delete 44 = .ok (.iconst 1, 1) := by decide +kernel
theorem dX1_delete_45 : decode cX1_delete 45 = .ok (.isub, 1) := by decide +kernel
theorem dX1_delete_46 : decode cX1_delete 46 = .ok (.putfield 40, 3) := by decide +kernel
theorem dX1_delete_49 : decode cX1_delete 49 = .ok (.return_, 1) := by decide +kernel
theorem dX1_countLight_0 : decode cX1_countLight 0 = .ok (.iconst 0, 1) := by decide +kernel
theorem dX1_countLight_1 : decode cX1_countLight 1 = .ok (.istore_n 2, 1) := by decide +kernel
theorem dX1_countLight_2 : decode cX1_countLight 2 = .ok (.iload_n 2, 1) := by decide +kernel
theorem dX1_countLight_3 : decode cX1_countLight 3 = .ok (.aload_n 0, 1) := by decide +kernel
theorem dX1_countLight_4 : decode cX1_countLight 4 = .ok (.getfield 40, 3) := by decide +kernel
theorem dX1_countLight_7 : decode cX1_countLight 7 = .ok (.if_icmp .ge 29, 3) := by decide +kernel
theorem dX1_countLight_10 : decode cX1_countLight 10 = .ok (.aload_n 0, 1) := by decide +kernel
theorem dX1_countLight_11 : decode cX1_countLight 11 = .ok (.getfield 21, 3) := by decide +kernel
theorem dX1_countLight_14 : decode cX1_countLight 14 = .ok (.iload_n 2, 1) := by decide +kernel
theorem dX1_countLight_15 : decode cX1_countLight 15 = .ok (.iaload, 1) := by decide +kernel
theorem dX1_countLight_16 : decode cX1_countLight 16 = .ok (.iload_n 1, 1) := by decide +kernel
theorem dX1_countLight_17 : decode cX1_countLight 17 = .ok (.if_icmp .gt 13, 3) := by decide +kernel
theorem dX1_countLight_20 : decode cX1_countLight 20 = .ok (.aload_n 0, 1) := by decide +kernel
theorem dX1_countLight_21 : decode cX1_countLight 21 = .ok (.getfield 24, 3) := by decide +kernel
theorem dX1_countLight_24 : decode cX1_countLight 24 = .ok (.iload_n 2, 1) := by decide +kernel
theorem dX1_countLight_25 : decode cX1_countLight 25 = .ok (.dup2, 1) := by decide +kernel
theorem dX1_countLight_26 : decode cX1_countLight 26 = .ok (.iaload, 1) := by decide +kernel
theorem dX1_countLight_27 : decode cX1_countLight 27 = .ok (.iconst 1, 1) := by decide +kernel
theorem dX1_countLight_28 : decode cX1_countLight 28 = .ok (.iadd, 1) := by decide +kernel
theorem dX1_countLight_29 : decode cX1_countLight 29 = .ok (.iastore, 1) := by decide +kernel
theorem dX1_countLight_30 : decode cX1_countLight 30 = .ok (.iinc 2 1, 3) := by decide +kernel
theorem dX1_countLight_33 : decode cX1_countLight 33 = .ok (.goto (-31), 3) := by decide +kernel
theorem dX1_countLight_36 : decode cX1_countLight 36 = .ok (.return_, 1) := by decide +kernel
theorem dX1_copyFrom_0 : decode cX1_copyFrom 0 = .ok (.aload_n 0, 1) := by decide +kernel
theorem dX1_copyFrom_1 : decode cX1_copyFrom 1 = .ok (.aload_n 1, 1) := by decide +kernel
theorem dX1_copyFrom_2 : decode cX1_copyFrom 2 = .ok (.getfield 27, 3) := by decide +kernel
theorem dX1_copyFrom_5 : decode cX1_copyFrom 5 = .ok (.putfield 27, 3) := by decide +kernel
theorem dX1_copyFrom_8 : decode cX1_copyFrom 8 = .ok (.aload_n 0, 1) := by decide +kernel
theorem dX1_copyFrom_9 : decode cX1_copyFrom 9 = .ok (.aload_n 1, 1) := by decide +kernel
theorem dX1_copyFrom_10 : decode cX1_copyFrom 10 = .ok (.getfield 40, 3) := by decide +kernel
theorem dX1_copyFrom_13 : decode cX1_copyFrom 13 = .ok (.putfield 40, 3) := by decide +kernel
theorem dX1_copyFrom_16 : decode cX1_copyFrom 16 = .ok (.aload_n 1, 1) := by decide +kernel
theorem dX1_copyFrom_17 : decode cX1_copyFrom 17 = .ok (.getfield 9, 3) := by decide +kernel
theorem dX1_copyFrom_20 : decode cX1_copyFrom 20 = .ok (.iconst 0, 1) := by decide +kernel
theorem dX1_copyFrom_21 : decode cX1_copyFrom 21 = .ok (.aload_n 0, 1) := by decide +kernel
theorem dX1_copyFrom_22 : decode cX1_copyFrom 22 = .ok (.getfield 9, 3) := by decide +kernel
theorem dX1_copyFrom_25 : decode cX1_copyFrom 25 = .ok (.iconst 0, 1) := by decide +kernel
theorem dX1_copyFrom_26 : decode cX1_copyFrom 26 = .ok (.bipush 20, 2) := by decide +kernel
theorem dX1_copyFrom_28 : decode cX1_copyFrom 28 = .ok (.invokestatic 51, 3) := by decide +kernel
theorem dX1_copyFrom_31 : decode cX1_copyFrom 31 = .ok (.aload_n 1, 1) := by decide +kernel
theorem dX1_copyFrom_32 : decode cX1_copyFrom 32 = .ok (.getfield 15, 3) := by decide +kernel
theorem dX1_copyFrom_35 : decode cX1_copyFrom 35 = .ok (.iconst 0, 1) := by decide +kernel
theorem dX1_copyFrom_36 : decode cX1_copyFrom 36 = .ok (.aload_n 0, 1) := by decide +kernel
theorem dX1_copyFrom_37 : decode cX1_copyFrom 37 = .ok (.getfield 15, 3) := by decide +kernel
theorem dX1_copyFrom_40 : decode cX1_copyFrom 40 = .ok (.iconst 0, 1) := by decide +kernel
theorem dX1_copyFrom_41 : decode cX1_copyFrom 41 = .ok (.bipush 20, 2) := by decide +kernel
theorem dX1_copyFrom_43 : decode cX1_copyFrom 43 = .ok (.invokestatic 51, 3) := by decide +kernel
theorem dX1_copyFrom_46 : decode cX1_copyFrom 46 = .ok (.aload_n 1, 1) := by decide +kernel
theorem dX1_copyFrom_47 : decode cX1_copyFrom 47 = .ok (.getfield 18, 3) := by decide +kernel
theorem dX1_copyFrom_50 : decode cX1_copyFrom 50 = .ok (.iconst 0, 1) := by decide +kernel
theorem dX1_copyFrom_51 : decode cX1_copyFrom 51 = .ok (.aload_n 0, 1) := by decide +kernel
theorem dX1_copyFrom_52 : decode cX1_copyFrom 52 = .ok (.getfield 18, 3) := by decide +kernel
theorem dX1_copyFrom_55 : decode cX1_copyFrom 55 = .ok (.iconst 0, 1) := by decide +kernel
theorem dX1_copyFrom_56 : decode cX1_copyFrom 56 = .ok (.bipush 20, 2) := by decide +kernel
theorem dX1_copyFrom_58 : decode cX1_copyFrom 58 = .ok (.invokestatic 51, 3) := by decide +kernel
theorem dX1_copyFrom_61 : decode cX1_copyFrom 61 = .ok (.aload_n 1, 1) := by decide +kernel
theorem dX1_copyFrom_62 : decode cX1_copyFrom 62 = .ok (.getfield 21, 3) := by decide +kernel
theorem dX1_copyFrom_65 : decode cX1_copyFrom 65 = .ok (.iconst 0, 1) := by decide +kernel
theorem dX1_copyFrom_66 : decode cX1_copyFrom 66 = .ok (.aload_n 0, 1) := by decide +kernel
theorem dX1_copyFrom_67 : decode cX1_copyFrom 67 = .ok (.getfield 21, 3) := by decide +kernel
theorem dX1_copyFrom_70 : decode cX1_copyFrom 70 = .ok (.iconst 0, 1) := by decide +kernel
theorem dX1_copyFrom_71 : decode cX1_copyFrom 71 = .ok (.bipush 20, 2) := by decide +kernel
theorem dX1_copyFrom_73 : decode cX1_copyFrom 73 = .ok (.invokestatic 51, 3) := by decide +kernel
theorem dX1_copyFrom_76 : decode cX1_copyFrom 76 = .ok (.aload_n 1, 1) := by decide +kernel
theorem dX1_copyFrom_77 : decode cX1_copyFrom 77 = .ok (.getfield 24, 3) := by decide +kernel
theorem dX1_copyFrom_80 : decode cX1_copyFrom 80 = .ok (.iconst 0, 1) := by decide +kernel
theorem dX1_copyFrom_81 : decode cX1_copyFrom 81 = .ok (.aload_n 0, 1) := by decide +kernel
theorem dX1_copyFrom_82 : decode cX1_copyFrom 82 = .ok (.getfield 24, 3) := by decide +kernel
theorem dX1_copyFrom_85 : decode cX1_copyFrom 85 = .ok (.iconst 0, 1) := by decide +kernel
theorem dX1_copyFrom_86 : decode cX1_copyFrom 86 = .ok (.bipush 20, 2) := by decide +kernel
theorem dX1_copyFrom_88 : decode cX1_copyFrom 88 = .ok (.invokestatic 51, 3) := by decide +kernel
theorem dX1_copyFrom_91 : decode cX1_copyFrom 91 = .ok (.return_, 1) := by decide +kernel
theorem dX1_comesBefore_0 : decode cX1_comesBefore 0 = .ok (.aload_n 0, 1) := by decide +kernel
theorem dX1_comesBefore_1 : decode cX1_comesBefore 1 = .ok (.getfield 21, 3) := by decide +kernel
theorem dX1_comesBefore_4 : decode cX1_comesBefore 4 = .ok (.iload_n 1, 1) := by decide +kernel
theorem dX1_comesBefore_5 : decode cX1_comesBefore 5 = .ok (.iaload, 1) := by decide +kernel
theorem dX1_comesBefore_6 : decode cX1_comesBefore 6 = .ok (.iload_n 2, 1) := by decide +kernel
theorem dX1_comesBefore_7 : decode cX1_comesBefore 7 = .ok (.if_icmp .eq 19, 3) := by decide +kernel
theorem dX1_comesBefore_10 : decode cX1_comesBefore 10 = .ok (.aload_n 0, 1) := by decide +kernel
theorem dX1_comesBefore_11 : decode cX1_comesBefore 11 = .ok (.getfield 21, 3) := by decide +kernel
theorem dX1_comesBefore_14 : decode cX1_comesBefore 14 = .ok (.iload_n 1, 1) := by decide +kernel
theorem dX1_comesBefore_15 : decode cX1_comesBefore 15 = .ok (.iaload, 1) := by decide +kernel
theorem dX1_comesBefore_16 : decode cX1_comesBefore 16 = .ok (.iload_n 2, 1) := by decide +kernel
theorem dX1_comesBefore_17 : decode cX1_comesBefore 17 = .ok (.if_icmp .ge 7, 3) := by decide +kernel
theorem dX1_comesBefore_20 : decode cX1_comesBefore 20 = .ok (.iconst 1, 1) := by decide +kernel
theorem dX1_comesBefore_21 : decode cX1_comesBefore 21 = .ok (.goto 4, 3) := by decide +kernel
theorem dX1_comesBefore_24 : decode cX1_comesBefore 24 = .ok (.iconst 0, 1) := by decide +kernel
theorem dX1_comesBefore_25 : decode cX1_comesBefore 25 = .ok (.ireturn, 1) := by decide +kernel
theorem dX1_comesBefore_26 : decode cX1_comesBefore 26 = .ok (.aload_n 0, 1) := by decide +kernel
theorem dX1_comesBefore_27 : decode cX1_comesBefore 27 = .ok (.getfield 18, 3) := by decide +kernel
theorem dX1_comesBefore_30 : decode cX1_comesBefore 30 = .ok (.iload_n 1, 1) := by decide +kernel
theorem dX1_comesBefore_31 : decode cX1_comesBefore 31 = .ok (.iaload, 1) := by decide +kernel
theorem dX1_comesBefore_32 : decode cX1_comesBefore 32 = .ok (.iload_n 3, 1) := by decide +kernel
theorem dX1_comesBefore_33 : decode cX1_comesBefore 33 = .ok (.if_icmp .eq 19, 3) := by decide +kernel
theorem dX1_comesBefore_36 : decode cX1_comesBefore 36 = .ok (.aload_n 0, 1) := by decide +kernel
theorem dX1_comesBefore_37 : decode cX1_comesBefore 37 = .ok (.getfield 18, 3) := by decide +kernel
theorem dX1_comesBefore_40 : decode cX1_comesBefore 40 = .ok (.iload_n 1, 1) := by decide +kernel
theorem dX1_comesBefore_41 : decode cX1_comesBefore 41 = .ok (.iaload, 1) := by decide +kernel
theorem dX1_comesBefore_42 : decode cX1_comesBefore 42 = .ok (.iload_n 3, 1) := by decide +kernel
theorem dX1_comesBefore_43 : decode cX1_comesBefore 43 = .ok (.if_icmp .ge 7, 3) := by decide +kernel
theorem dX1_comesBefore_46 : decode cX1_comesBefore 46 = .ok (.iconst 1, 1) := by decide +kernel
theorem dX1_comesBefore_47 : decode cX1_comesBefore 47 = .ok (.goto 4, 3) := by decide +kernel
theorem dX1_comesBefore_50 : decode cX1_comesBefore 50 = .ok (.iconst 0, 1) := by decide +kernel
theorem dX1_comesBefore_51 : decode cX1_comesBefore 51 = .ok (.ireturn, 1) := by decide +kernel
theorem dX1_comesBefore_52 : decode cX1_comesBefore 52 = .ok (.aload_n 0, 1) := by decide +kernel
theorem dX1_comesBefore_53 : decode cX1_comesBefore 53 = .ok (.getfield 9, 3) := by decide +kernel
theorem dX1_comesBefore_56 : decode cX1_comesBefore 56 = .ok (.iload_n 1, 1) := by decide +kernel
theorem dX1_comesBefore_57 : decode cX1_comesBefore 57 = .ok (.iaload, 1) := by decide +kernel
theorem dX1_comesBefore_58 : decode cX1_comesBefore 58 = .ok (.iload 4, 2) := by decide +kernel
theorem dX1_comesBefore_60 : decode cX1_comesBefore 60 = .ok (.if_icmp .eq 20, 3) := by decide +kernel
theorem dX1_comesBefore_63 : decode cX1_comesBefore 63 = .ok (.aload_n 0, 1) := by decide +kernel
theorem dX1_comesBefore_64 : decode cX1_comesBefore 64 = .ok (.getfield 9, 3) := by decide +kernel
theorem dX1_comesBefore_67 : decode cX1_comesBefore 67 = .ok (.iload_n 1, 1) := by decide +kernel
theorem dX1_comesBefore_68 : decode cX1_comesBefore 68 = .ok (.iaload, 1) := by decide +kernel
theorem dX1_comesBefore_69 : decode cX1_comesBefore 69 = .ok (.iload 4, 2) := by decide +kernel
theorem dX1_comesBefore_71 : decode cX1_comesBefore 71 = .ok (.if_icmp .ge 7, 3) := by decide +kernel
theorem dX1_comesBefore_74 : decode cX1_comesBefore 74 = .ok (.iconst 1, 1) := by decide +kernel
theorem dX1_comesBefore_75 : decode cX1_comesBefore 75 = .ok (.goto 4, 3) := by decide +kernel
theorem dX1_comesBefore_78 : decode cX1_comesBefore 78 = .ok (.iconst 0, 1) := by decide +kernel
theorem dX1_comesBefore_79 : decode cX1_comesBefore 79 = .ok (.ireturn, 1) := by decide +kernel
theorem dX1_comesBefore_80 : decode cX1_comesBefore 80 = .ok (.aload_n 0, 1) := by decide +kernel
theorem dX1_comesBefore_81 : decode cX1_comesBefore 81 = .ok (.getfield 15, 3) := by decide +kernel
theorem dX1_comesBefore_84 : decode cX1_comesBefore 84 = .ok (.iload_n 1, 1) := by decide +kernel
theorem dX1_comesBefore_85 : decode cX1_comesBefore 85 = .ok (.iaload, 1) := by decide +kernel
theorem dX1_comesBefore_86 : decode cX1_comesBefore 86 = .ok (.iload 5, 2) := by decide +kernel
theorem dX1_comesBefore_88 : decode cX1_comesBefore 88 = .ok (.if_icmp .ge 7, 3) := by decide +kernel
theorem dX1_comesBefore_91 : decode cX1_comesBefore 91 = .ok (.iconst 1, 1) := by decide +kernel
theorem dX1_comesBefore_92 : decode cX1_comesBefore 92 = .ok (.goto 4, 3) := by decide +kernel
theorem dX1_comesBefore_95 : decode cX1_comesBefore 95 = .ok (.iconst 0, 1) := by decide +kernel
theorem dX1_comesBefore_96 : decode cX1_comesBefore 96 = .ok (.ireturn, 1) := by decide +kernel
theorem dX1_move_0 : decode cX1_move 0 = .ok (.aload_n 0, 1) := by decide +kernel
theorem dX1_move_1 : decode cX1_move 1 = .ok (.getfield 9, 3) := by decide +kernel
theorem dX1_move_4 : decode cX1_move 4 = .ok (.iload_n 2, 1) := by decide +kernel
theorem dX1_move_5 : decode cX1_move 5 = .ok (.aload_n 0, 1) := by decide +kernel
theorem dX1_move_6 : decode cX1_move 6 = .ok (.getfield 9, 3) := by decide +kernel
theorem dX1_move_9 : decode cX1_move 9 = .ok (.iload_n 1, 1) := by decide +kernel
theorem dX1_move_10 : decode cX1_move 10 = .ok (.iaload, 1) := by decide +kernel
theorem dX1_move_11 : decode cX1_move 11 = .ok (.iastore, 1) := by decide +kernel
theorem dX1_move_12 : decode cX1_move 12 = .ok (.aload_n 0, 1) := by decide +kernel
theorem dX1_move_13 : decode cX1_move 13 = .ok (.getfield 15, 3) := by decide +kernel
theorem dX1_move_16 : decode cX1_move 16 = .ok (.iload_n 2, 1) := by decide +kernel
theorem dX1_move_17 : decode cX1_move 17 = .ok (.aload_n 0, 1) := by decide +kernel
theorem dX1_move_18 : decode cX1_move 18 = .ok (.getfield 15, 3) := by decide +kernel
theorem dX1_move_21 : decode cX1_move 21 = .ok (.iload_n 1, 1) := by decide +kernel
theorem dX1_move_22 : decode cX1_move 22 = .ok (.iaload, 1) := by decide +kernel
theorem dX1_move_23 : decode cX1_move 23 = .ok (.iastore, 1) := by decide +kernel
theorem dX1_move_24 : decode cX1_move 24 = .ok (.aload_n 0, 1) := by decide +kernel
theorem dX1_move_25 : decode cX1_move 25 = .ok (.getfield 18, 3) := by decide +kernel
theorem dX1_move_28 : decode cX1_move 28 = .ok (.iload_n 2, 1) := by decide +kernel
theorem dX1_move_29 : decode cX1_move 29 = .ok (.aload_n 0, 1) := by decide +kernel
theorem dX1_move_30 : decode cX1_move 30 = .ok (.getfield 18, 3) := by decide +kernel
theorem dX1_move_33 : decode cX1_move 33 = .ok (.iload_n 1, 1) := by decide +kernel
theorem dX1_move_34 : decode cX1_move 34 = .ok (.iaload, 1) := by decide +kernel
theorem dX1_move_35 : decode cX1_move 35 = .ok (.iastore, 1) := by decide +kernel
theorem dX1_move_36 : decode cX1_move 36 = .ok (.aload_n 0, 1) := by decide +kernel
theorem dX1_move_37 : decode cX1_move 37 = .ok (.getfield 21, 3) := by decide +kernel
theorem dX1_move_40 : decode cX1_move 40 = .ok (.iload_n 2, 1) := by decide +kernel
theorem dX1_move_41 : decode cX1_move 41 = .ok (.aload_n 0, 1) := by decide +kernel
theorem dX1_move_42 : decode cX1_move 42 = .ok (.getfield 21, 3) := by decide +kernel
theorem dX1_move_45 : decode cX1_move 45 = .ok (.iload_n 1, 1) := by decide +kernel
theorem dX1_move_46 : decode cX1_move 46 = .ok (.iaload, 1) := by decide +kernel
theorem dX1_move_47 : decode cX1_move 47 = .ok (.iastore, 1) := by decide +kernel
theorem dX1_move_48 : decode cX1_move 48 = .ok (.aload_n 0, 1) := by decide +kernel
theorem dX1_move_49 : decode cX1_move 49 = .ok (.getfield 24, 3) := by decide +kernel
theorem dX1_move_52 : decode cX1_move 52 = .ok (.iload_n 2, 1) := by decide +kernel
theorem dX1_move_53 : decode cX1_move 53 = .ok (.aload_n 0, 1) := by decide +kernel
theorem dX1_move_54 : decode cX1_move 54 = .ok (.getfield 24, 3) := by decide +kernel
theorem dX1_move_57 : decode cX1_move 57 = .ok (.iload_n 1, 1) := by decide +kernel
theorem dX1_move_58 : decode cX1_move 58 = .ok (.iaload, 1) := by decide +kernel
theorem dX1_move_59 : decode cX1_move 59 = .ok (.iastore, 1) := by decide +kernel
theorem dX1_move_60 : decode cX1_move 60 = .ok (.return_, 1) := by decide +kernel
set_option maxRecDepth 20000 in
theorem ggX3_init_X9_init : GoodIn wsX3_init wsX9_init := goodIn_r _ [9, 10, 2, 3, 11, 12, 13, 14, 15, 16, 17, 18, 19, 20, 21, 22, 23, 24, 25, 26, 27, 28, 29, 30, 31, 32, 33, 34, 35, 47, 48, 49, 50, 51, 52, 53, 39, 40, 41, 42, 43, 44, 45, 46, 54, 55, 56, 57, 58, 59] (by decide +kernel) (by decide +kernel)
set_option maxRecDepth 20000 in
theorem gX3_init_X9_init_n17 : GoodIn wsX3_init (wsX9_init) := ggX3_init_X9_init
theorem dX3_init_0 : decode cX3_init 0 = .ok (.aload_n 0, 1) := by decide +kernel
theorem dX3_init_1 : decode cX3_init 1 = .ok (.invokespecial 3, 3) := by decide +kernel
theorem dX3_init_4 : decode cX3_init 4 = .ok (.aload_n 0, 1) := by decide +kernel
theorem dX3_init_5 : decode cX3_init 5 = .ok (.bipush 8, 2) := by decide +kernel
theorem dX3_init_7 : decode cX3_init 7 = .ok (.anewarray 9, 3) := by decide +kernel
theorem dX3_init_10 : decode cX3_init 10 = .ok (.putfield 11, 3) := by decide +kernel
theorem dX3_init_13 : decode cX3_init 13 = .ok (.iconst 0, 1) := by decide +kernel
theorem dX3_init_14 : decode cX3_init 14 = .ok (.istore_n 1, 1) := by decide +kernel
theorem dX3_init_15 : decode cX3_init 15 = .ok (.iload_n 1, 1) := by decide +kernel
theorem dX3_init_16 : decode cX3_init 16 = .ok (.bipush 8, 2) := by decide +kernel
theorem dX3_init_18 : decode cX3_init 18 = .ok (.if_icmp .ge 22, 3) := by decide +kernel
theorem dX3_init_21 : decode cX3_init 21 = .ok (.aload_n 0, 1) := by decide +kernel
theorem dX3_init_22 : decode cX3_init 22 = .ok (.getfield 11, 3) := by decide +kernel
theorem dX3_init_25 : decode cX3_init 25 = .ok (.iload_n 1, 1) := by decide +kernel
theorem dX3_init_26 : decode cX3_init 26 = .ok (.new 9, 3) := by decide +kernel
theorem dX3_init_29 : decode cX3_init 29 = .ok (.dup, 1) := by decide +kernel
theorem dX3_init_30 : decode cX3_init 30 = .ok (.invokespecial 17, 3) := by decide +kernel
theorem dX3_init_33 : decode cX3_init 33 = .ok (.aastore, 1) := by decide +kernel
theorem dX3_init_34 : decode cX3_init 34 = .ok (.iinc 1 1, 3) := by decide +kernel
theorem dX3_init_37 : decode cX3_init 37 = .ok (.goto (-22), 3) := by decide +kernel
theorem dX3_init_40 : decode cX3_init 40 = .ok (.return_, 1) := by decide +kernel
set_option maxRecDepth 20000 in
theorem ggX3_keep_X9_copyFrom : GoodIn wsX3_keep wsX9_copyFrom := goodIn_r _ [12, 13, 14, 15, 16, 17, 18, 19, 20, 21, 22, 23, 24, 25, 26, 27, 28, 29, 30, 31, 32, 33, 34, 35, 36, 37, 38, 39, 40, 41, 42, 43, 44, 45, 46, 47, 48, 52, 53, 54, 55, 56, 57, 58, 59, 60, 61, 62, 63, 64, 65, 66, 67, 68, 69, 70, 71, 72] (by decide +kernel) (by decide +kernel)
set_option maxRecDepth 20000 in
theorem gX3_keep_X9_copyFrom : GoodIn wsX3_keep (wsV RX3 22 RX9 yX9_copyFrom wsX9_copyFrom) := goodIn_app (goodIn_of _ (by decide +kernel)) ggX3_keep_X9_copyFrom
theorem dX3_keep_0 : decode cX3_keep 0 = .ok (.aload_n 0, 1) := by decide +kernel
theorem dX3_keep_1 : decode cX3_keep 1 = .ok (.getfield 11, 3) := by decide +kernel
theorem dX3_keep_4 : decode cX3_keep 4 = .ok (.aload_n 0, 1) := by decide +kernel
theorem dX3_keep_5 : decode cX3_keep 5 = .ok (.getfield 18, 3) := by decide +kernel
theorem dX3_keep_8 : decode cX3_keep 8 = .ok (.aaload, 1) := by decide +kernel
theorem dX3_keep_9 : decode cX3_keep 9 = .ok (.astore_n 2, 1) := by decide +kernel
theorem dX3_keep_10 : decode cX3_keep 10 = .ok (.aload_n 2, 1) := by decide +kernel
theorem dX3_keep_11 : decode cX3_keep 11 = .ok (.ifnonnull 4, 3) := by decide +kernel
theorem dX3_keep_14 : decode cX3_keep 14 = .ok (.return_, 1) := by decide +kernel
theorem dX3_keep_15 : decode cX3_keep 15 = .ok (.aload_n 2, 1) := by decide +kernel
theorem dX3_keep_16 : decode cX3_keep 16 = .ok (.aload_n 1, 1) := by decide +kernel
theorem dX3_keep_17 : decode cX3_keep 17 = .ok (.invokevirtual 22, 3) := by decide +kernel
theorem dX3_keep_20 : decode cX3_keep 20 = .ok (.aload_n 0, 1) := by decide +kernel
theorem dX3_keep_21 : decode cX3_keep 21 = .ok (.aload_n 0, 1) := by decide +kernel
theorem dX3_keep_22 : decode cX3_keep 22 = .ok (.getfield 18, 3) := by decide +kernel
theorem dX3_keep_25 : decode cX3_keep 25 = .ok (.iconst 1, 1) := by decide +kernel
theorem dX3_keep_26 : decode cX3_keep 26 = .ok (.iadd, 1) := by decide +kernel
theorem dX3_keep_27 : decode cX3_keep 27 = .ok (.bipush 8, 2) := by decide +kernel
theorem dX3_keep_29 : decode cX3_keep 29 = .ok (.if_icmp .ge 12, 3) := by decide +kernel
theorem dX3_keep_32 : decode cX3_keep 32 = .ok (.aload_n 0, 1) := by decide +kernel
theorem dX3_keep_33 : decode cX3_keep 33 = .ok (.getfield 18, 3) := by decide +kernel
theorem dX3_keep_36 : decode cX3_keep 36 = .ok (.iconst 1, 1) := by decide +kernel
theorem dX3_keep_37 : decode cX3_keep 37 = .ok (.iadd, 1) := by decide +kernel
theorem dX3_keep_38 : decode cX3_keep 38 = .ok (.goto 4, 3) := by decide +kernel
theorem dX3_keep_41 : decode cX3_keep 41 = .ok (.iconst 0, 1) := by decide +kernel
theorem dX3_keep_42 : decode cX3_keep 42 = .ok (.putfield 18, 3) := by decide +kernel
theorem dX3_keep_45 : decode cX3_keep 45 = .ok (.aload_n 0, 1) := by decide +kernel
theorem dX3_keep_46 : decode cX3_keep 46 = .ok (.aload_n 0, 1) := by decide +kernel
theorem dX3_keep_47 : decode cX3_keep 47 = .ok (.getfield 26, 3) := by decide +kernel
theorem dX3_keep_50 : decode cX3_keep 50 = .ok (.iconst 1, 1) := by decide +kernel
theorem dX3_keep_51 : decode cX3_keep 51 = .ok (.iadd, 1) := by decide +kernel
theorem dX3_keep_52 : decode cX3_keep 52 = .ok (.bipush 8, 2) := by decide +kernel
theorem dX3_keep_54 : decode cX3_keep 54 = .ok (.invokestatic 29, 3) := by decide +kernel
theorem dX3_keep_57 : decode cX3_keep 57 = .ok (.putfield 26, 3) := by decide +kernel
theorem dX3_keep_60 : decode cX3_keep 60 = .ok (.return_, 1) := by decide +kernel
set_option maxRecDepth 20000 in
theorem ggX3_takeBack_X9_copyFrom : GoodIn wsX3_takeBack wsX9_copyFrom := goodIn_r _ [8, 9, 10, 11, 12, 13, 14, 15, 16, 17, 18, 19, 20, 21, 22, 23, 24, 25, 26, 27, 28, 29, 30, 31, 32, 33, 34, 35, 36, 37, 38, 39, 40, 41, 42, 43, 44, 48, 49, 50, 51, 52, 53, 54, 55, 56, 57, 58, 59, 60, 61, 62, 63, 64, 65, 66, 67, 68] (by decide +kernel) (by decide +kernel)
set_option maxRecDepth 20000 in
theorem gX3_takeBack_X9_copyFrom : GoodIn wsX3_takeBack (wsV RX3 22 RX9 yX9_copyFrom wsX9_copyFrom) := goodIn_app (goodIn_of _ (by decide +kernel)) ggX3_takeBack_X9_copyFrom
theorem dX3_takeBack_0 : decode cX3_takeBack 0 = .ok (.aload_n 0, 1) := by decide +kernel
theorem dX3_takeBack_1 : decode cX3_takeBack 1 = .ok (.getfield 18, 3) := by decide +kernel
theorem dX3_takeBack_4 : decode cX3_takeBack 4 = .ok (.ifCond .le 12, 3) := by decide +kernel
theorem dX3_takeBack_7 : decode cX3_takeBack 7 = .ok (.aload_n 0, 1) := by decide +kernel
theorem dX3_takeBack_8 : decode cX3_takeBack 8 = .ok (.getfield 18, 3) := by decide +kernel
theorem dX3_takeBack_11 : decode cX3_takeBack 11 = .ok (.iconst 1, 1) := by decide +kernel
theorem dX3_takeBack_12 : decode cX3_takeBack 12 = .ok (.isub, 1) := by decide +kernel
theorem dX3_takeBack_13 : decode cX3_takeBack 13 = .ok (.goto 5, 3) := by decide +kernel
theorem dX3_takeBack_16 : decode cX3_takeBack 16 = .ok (.bipush 7, 2) := by decide +kernel
theorem dX3_takeBack_18 : decode cX3_takeBack 18 = .ok (.istore_n 2, 1) := by decide +kernel
theorem dX3_takeBack_19 : decode cX3_takeBack 19 = .ok (.aload_n 0, 1) := by decide +kernel
theorem dX3_takeBack_20 : decode cX3_takeBack 20 = .ok (.getfield 11, 3) := by decide +kernel
theorem dX3_takeBack_23 : decode cX3_takeBack 23 = .ok (.iload_n 2, 1) := by decide +kernel
theorem dX3_takeBack_24 : decode cX3_takeBack 24 = .ok (.aaload, 1) := by decide +kernel
theorem dX3_takeBack_25 : decode cX3_takeBack 25 = .ok (.astore_n 3, 1) := by decide +kernel
theorem dX3_takeBack_26 : decode cX3_takeBack 26 = .ok (.aload_n 0, 1) := by decide +kernel
theorem dX3_takeBack_27 : decode cX3_takeBack 27 = .ok (.getfield 26, 3) := by decide +kernel
theorem dX3_takeBack_30 : decode cX3_takeBack 30 = .ok (.ifCond .eq 7, 3) := by decide +kernel
theorem dX3_takeBack_33 : decode cX3_takeBack 33 = .ok (.aload_n 3, 1) := by decide +kernel
theorem dX3_takeBack_34 : decode cX3_takeBack 34 = .ok (.ifnonnull 4, 3) := by decide +kernel
theorem dX3_takeBack_37 : decode cX3_takeBack 37 = .ok (.return_, 1) := by decide +kernel
theorem dX3_takeBack_38 : decode cX3_takeBack 38 = .ok (.aload_n 1, 1) := by decide +kernel
theorem dX3_takeBack_39 : decode cX3_takeBack 39 = .ok (.aload_n 3, 1) := by decide +kernel
theorem dX3_takeBack_40 : decode cX3_takeBack 40 = .ok (.invokevirtual 22, 3) := by decide +kernel
theorem dX3_takeBack_43 : decode cX3_takeBack 43 = .ok (.aload_n 0, 1) := by decide +kernel
theorem dX3_takeBack_44 : decode cX3_takeBack 44 = .ok (.iload_n 2, 1) := by decide +kernel
theorem dX3_takeBack_45 : decode cX3_takeBack 45 = .ok (.putfield 18, 3) := by decide +kernel
theorem dX3_takeBack_48 : decode cX3_takeBack 48 = .ok (.aload_n 0, 1) := by decide +kernel
theorem dX3_takeBack_49 : decode cX3_takeBack 49 = .ok (.dup, 1) := by decide +kernel
theorem dX3_takeBack_50 : decode cX3_takeBack 50 = .ok (.getfield 26, 3) := by decide +kernel
theorem dX3_takeBack_53 : decode cX3_takeBack 53 = .ok (.iconst 1, 1) := by decide +kernel
theorem dX3_takeBack_54 : decode cX3_takeBack 54 = .ok (.isub, 1) := by decide +kernel
theorem dX3_takeBack_55 : decode cX3_takeBack 55 = .ok (.putfield 26, 3) := by decide +kernel
theorem dX3_takeBack_58 : decode cX3_takeBack 58 = .ok (.return_, 1) := by decide +kernel
set_option maxRecDepth 20000 in
theorem ggX4_init_X9_init : GoodIn wsX4_init wsX9_init := goodIn_r _ [17, 18, 2, 3, 19, 20, 21, 22, 23, 24, 25, 26, 27, 28, 29, 30, 31, 32, 33, 34, 35, 36, 37, 38, 39, 40, 41, 42, 43, 77, 78, 79, 80, 81, 82, 83, 58, 59, 60, 61, 62, 63, 64, 65, 84, 85, 86, 87, 88, 89] (by decide +kernel) (by decide +kernel)
set_option maxRecDepth 20000 in
theorem gX4_init_X9_init_n11 : GoodIn wsX4_init (wsX9_init) := ggX4_init_X9_init
set_option maxRecDepth 20000 in
theorem ggX4_init_X5_init : GoodIn wsX4_init wsX5_init := goodIn_r _ [45, 46, 2, 3, 30, 47, 48, 49, 50, 69, 70, 71] (by decide +kernel) (by decide +kernel)
set_option maxRecDepth 20000 in
theorem gX4_init_X5_init_n20 : GoodIn wsX4_init (wsX5_init) := ggX4_init_X5_init
set_option maxRecDepth 20000 in
theorem ggX4_init_X7_init : GoodIn wsX4_init wsX7_init := goodIn_r _ [52, 53, 2, 3, 49, 54, 30, 55, 56, 57, 72, 73, 74, 75, 76] (by decide +kernel) (by decide +kernel)
set_option maxRecDepth 20000 in
theorem gX4_init_X7_init_n27 : GoodIn wsX4_init (wsX7_init) := ggX4_init_X7_init
theorem dX4_init_0 : decode cX4_init 0 = .ok (.aload_n 0, 1) := by decide +kernel
theorem dX4_init_1 : decode cX4_init 1 = .ok (.invokespecial 3, 3) := by decide +kernel
theorem dX4_init_4 : decode cX4_init 4 = .ok (.aload_n 0, 1) := by decide +kernel
theorem dX4_init_5 : decode cX4_init 5 = .ok (.new 9, 3) := by decide +kernel
theorem dX4_init_8 : decode cX4_init 8 = .ok (.dup, 1) := by decide +kernel
theorem dX4_init_9 : decode cX4_init 9 = .ok (.invokespecial 11, 3) := by decide +kernel
theorem dX4_init_12 : decode cX4_init 12 = .ok (.putfield 12, 3) := by decide +kernel
theorem dX4_init_15 : decode cX4_init 15 = .ok (.aload_n 0, 1) := by decide +kernel
theorem dX4_init_16 : decode cX4_init 16 = .ok (.new 18, 3) := by decide +kernel
theorem dX4_init_19 : decode cX4_init 19 = .ok (.dup, 1) := by decide +kernel
theorem dX4_init_20 : decode cX4_init 20 = .ok (.invokespecial 20, 3) := by decide +kernel
theorem dX4_init_23 : decode cX4_init 23 = .ok (.putfield 21, 3) := by decide +kernel
theorem dX4_init_26 : decode cX4_init 26 = .ok (.aload_n 0, 1) := by decide +kernel
theorem dX4_init_27 : decode cX4_init 27 = .ok (.new 25, 3) := by decide +kernel
theorem dX4_init_30 : decode cX4_init 30 = .ok (.dup, 1) := by decide +kernel
theorem dX4_init_31 : decode cX4_init 31 = .ok (.invokespecial 27, 3) := by decide +kernel
theorem dX4_init_34 : decode cX4_init 34 = .ok (.putfield 28, 3) := by decide +kernel
theorem dX4_init_37 : decode cX4_init 37 = .ok (.return_, 1) := by decide +kernel
theorem dX4_portFault_0 : decode cX4_portFault 0 = .ok (.aload_n 0, 1) := by decide +kernel
theorem dX4_portFault_1 : decode cX4_portFault 1 = .ok (.getfield 12, 3) := by decide +kernel
theorem dX4_portFault_4 : decode cX4_portFault 4 = .ok (.getfield 32, 3) := by decide +kernel
theorem dX4_portFault_7 : decode cX4_portFault 7 = .ok (.getfield 36, 3) := by decide +kernel
theorem dX4_portFault_10 : decode cX4_portFault 10 = .ok (.bipush 10, 2) := by decide +kernel
theorem dX4_portFault_12 : decode cX4_portFault 12 = .ok (.if_icmp .lt 7, 3) := by decide +kernel
theorem dX4_portFault_15 : decode cX4_portFault 15 = .ok (.iconst 3, 1) := by decide +kernel
theorem dX4_portFault_16 : decode cX4_portFault 16 = .ok (.goto 4, 3) := by decide +kernel
theorem dX4_portFault_19 : decode cX4_portFault 19 = .ok (.iconst 0, 1) := by decide +kernel
theorem dX4_portFault_20 : decode cX4_portFault 20 = .ok (.ireturn, 1) := by decide +kernel
theorem dX4_putPort_0 : decode cX4_putPort 0 = .ok (.aload_n 0, 1) := by decide +kernel
theorem dX4_putPort_1 : decode cX4_putPort 1 = .ok (.getfield 12, 3) := by decide +kernel
theorem dX4_putPort_4 : decode cX4_putPort 4 = .ok (.getfield 32, 3) := by decide +kernel
theorem dX4_putPort_7 : decode cX4_putPort 7 = .ok (.getfield 36, 3) := by decide +kernel
theorem dX4_putPort_10 : decode cX4_putPort 10 = .ok (.istore_n 1, 1) := by decide +kernel
theorem dX4_putPort_11 : decode cX4_putPort 11 = .ok (.aload_n 0, 1) := by decide +kernel
theorem dX4_putPort_12 : decode cX4_putPort 12 = .ok (.getfield 12, 3) := by decide +kernel
theorem dX4_putPort_15 : decode cX4_putPort 15 = .ok (.getfield 32, 3) := by decide +kernel
theorem dX4_putPort_18 : decode cX4_putPort 18 = .ok (.iload_n 1, 1) := by decide +kernel
theorem dX4_putPort_19 : decode cX4_putPort 19 = .ok (.iconst 1, 1) := by decide +kernel
theorem dX4_putPort_20 : decode cX4_putPort 20 = .ok (.iadd, 1) := by decide +kernel
theorem dX4_putPort_21 : decode cX4_putPort 21 = .ok (.putfield 36, 3) := by decide +kernel
theorem dX4_putPort_24 : decode cX4_putPort 24 = .ok (.iload_n 1, 1) := by decide +kernel
theorem dX4_putPort_25 : decode cX4_putPort 25 = .ok (.ireturn, 1) := by decide +kernel
set_option maxRecDepth 20000 in
theorem ggX4_legFault_X1_hasPorts : GoodIn wsX4_legFault wsX1_hasPorts := goodIn_r _ [8, 9, 35, 36, 37, 38, 39, 40, 41] (by decide +kernel) (by decide +kernel)
set_option maxRecDepth 20000 in
theorem gX4_legFault_X1_hasPorts : GoodIn wsX4_legFault (wsV RX4 42 RX1 yX1_hasPorts wsX1_hasPorts) := goodIn_app (goodIn_of _ (by decide +kernel)) ggX4_legFault_X1_hasPorts
set_option maxRecDepth 20000 in
theorem ggX4_legFault_X1_find : GoodIn wsX4_legFault wsX1_find := goodIn_ca (goodIn_r _ [13, 14, 15, 16, 17, 18, 19, 20, 21, 22, 23, 35, 36, 37, 38, 39, 40, 41] (by decide +kernel) (by decide +kernel)) (goodIn_sub (fun _ h => List.mem_cons_of_mem _ (List.mem_append_right _ h)) (by decide +kernel))
set_option maxRecDepth 20000 in
theorem gX4_legFault_X1_find : GoodIn wsX4_legFault (wsV RX4 49 RX1 yX1_find wsX1_find) := goodIn_app (goodIn_of _ (by decide +kernel)) ggX4_legFault_X1_find
theorem dX4_legFault_0 : decode cX4_legFault 0 = .ok (.aload_n 0, 1) := by decide +kernel
theorem dX4_legFault_1 : decode cX4_legFault 1 = .ok (.getfield 12, 3) := by decide +kernel
theorem dX4_legFault_4 : decode cX4_legFault 4 = .ok (.getfield 32, 3) := by decide +kernel
theorem dX4_legFault_7 : decode cX4_legFault 7 = .ok (.iload_n 1, 1) := by decide +kernel
theorem dX4_legFault_8 : decode cX4_legFault 8 = .ok (.iload_n 2, 1) := by decide +kernel
theorem dX4_legFault_9 : decode cX4_legFault 9 = .ok (.invokevirtual 42, 3) := by decide +kernel
theorem dX4_legFault_12 : decode cX4_legFault 12 = .ok (.ifCond .ne 5, 3) := by decide +kernel
theorem dX4_legFault_15 : decode cX4_legFault 15 = .ok (.iconst 1, 1) := by decide +kernel
theorem dX4_legFault_16 : decode cX4_legFault 16 = .ok (.ireturn, 1) := by decide +kernel
theorem dX4_legFault_17 : decode cX4_legFault 17 = .ok (.iload_n 3, 1) := by decide +kernel
theorem dX4_legFault_18 : decode cX4_legFault 18 = .ok (.iconst 1, 1) := by decide +kernel
theorem dX4_legFault_19 : decode cX4_legFault 19 = .ok (.if_icmp .lt 26, 3) := by decide +kernel
theorem dX4_legFault_22 : decode cX4_legFault 22 = .ok (.iload_n 3, 1) := by decide +kernel
theorem dX4_legFault_23 : decode cX4_legFault 23 = .ok (.bipush 99, 2) := by decide +kernel
theorem dX4_legFault_25 : decode cX4_legFault 25 = .ok (.if_icmp .gt 20, 3) := by decide +kernel
theorem dX4_legFault_28 : decode cX4_legFault 28 = .ok (.iload 4, 2) := by decide +kernel
theorem dX4_legFault_30 : decode cX4_legFault 30 = .ok (.iconst 1, 1) := by decide +kernel
theorem dX4_legFault_31 : decode cX4_legFault 31 = .ok (.if_icmp .lt 14, 3) := by decide +kernel
theorem dX4_legFault_34 : decode cX4_legFault 34 = .ok (.iload 4, 2) := by decide +kernel
theorem dX4_legFault_36 : decode cX4_legFault 36 = .ok (.bipush 20, 2) := by decide +kernel
theorem dX4_legFault_38 : decode cX4_legFault 38 = .ok (.if_icmp .gt 7, 3) := by decide +kernel
theorem dX4_legFault_41 : decode cX4_legFault 41 = .ok (.iconst 1, 1) := by decide +kernel
theorem dX4_legFault_42 : decode cX4_legFault 42 = .ok (.goto 4, 3) := by decide +kernel
theorem dX4_legFault_45 : decode cX4_legFault 45 = .ok (.iconst 0, 1) := by decide +kernel
theorem dX4_legFault_46 : decode cX4_legFault 46 = .ok (.istore 5, 2) := by decide +kernel
theorem dX4_legFault_48 : decode cX4_legFault 48 = .ok (.iload_n 1, 1) := by decide +kernel
theorem dX4_legFault_49 : decode cX4_legFault 49 = .ok (.iload_n 2, 1) := by decide +kernel
theorem dX4_legFault_50 : decode cX4_legFault 50 = .ok (.if_icmp .eq 8, 3) := by decide +kernel
theorem dX4_legFault_53 : decode cX4_legFault 53 = .ok (.iload 5, 2) := by decide +kernel
theorem dX4_legFault_55 : decode cX4_legFault 55 = .ok (.ifCond .ne 5, 3) := by decide +kernel
theorem dX4_legFault_58 : decode cX4_legFault 58 = .ok (.iconst 2, 1) := by decide +kernel
theorem dX4_legFault_59 : decode cX4_legFault 59 = .ok (.ireturn, 1) := by decide +kernel
theorem dX4_legFault_60 : decode cX4_legFault 60 = .ok (.aload_n 0, 1) := by decide +kernel
theorem dX4_legFault_61 : decode cX4_legFault 61 = .ok (.getfield 12, 3) := by decide +kernel
theorem dX4_legFault_64 : decode cX4_legFault 64 = .ok (.getfield 32, 3) := by decide +kernel
theorem dX4_legFault_67 : decode cX4_legFault 67 = .ok (.getfield 46, 3) := by decide +kernel
theorem dX4_legFault_70 : decode cX4_legFault 70 = .ok (.bipush 20, 2) := by decide +kernel
theorem dX4_legFault_72 : decode cX4_legFault 72 = .ok (.if_icmp .ge 19, 3) := by decide +kernel
theorem dX4_legFault_75 : decode cX4_legFault 75 = .ok (.aload_n 0, 1) := by decide +kernel
theorem dX4_legFault_76 : decode cX4_legFault 76 = .ok (.getfield 12, 3) := by decide +kernel
theorem dX4_legFault_79 : decode cX4_legFault 79 = .ok (.getfield 32, 3) := by decide +kernel
theorem dX4_legFault_82 : decode cX4_legFault 82 = .ok (.iload_n 1, 1) := by decide +kernel
theorem dX4_legFault_83 : decode cX4_legFault 83 = .ok (.iload_n 2, 1) := by decide +kernel
theorem dX4_legFault_84 : decode cX4_legFault 84 = .ok (.invokevirtual 49, 3) := by decide +kernel
theorem dX4_legFault_87 : decode cX4_legFault 87 = .ok (.iconst (-1), 1) := by decide +kernel
theorem dX4_legFault_88 : decode cX4_legFault 88 = .ok (.if_icmp .eq 5, 3) := by decide +kernel
theorem dX4_legFault_91 : decode cX4_legFault 91 = .ok (.iconst 3, 1) := by decide +kernel
theorem dX4_legFault_92 : decode cX4_legFault 92 = .ok (.ireturn, 1) := by decide +kernel
theorem dX4_legFault_93 : decode cX4_legFault 93 = .ok (.iconst 0, 1) := by decide +kernel
theorem dX4_legFault_94 : decode cX4_legFault 94 = .ok (.ireturn, 1) := by decide +kernel
set_option maxRecDepth 20000 in
theorem ggX4_putLeg_X1_insert : GoodIn wsX4_putLeg wsX1_insert := goodIn_ca (goodIn_r _ [8, 9, 10, 11, 12, 13, 14, 15, 16, 17, 18, 19, 20, 21, 22, 23, 24, 7, 25, 26, 27, 28, 29, 41, 42, 43, 44, 45, 46, 47] (by decide +kernel) (by decide +kernel)) (goodIn_sub (fun _ h => List.mem_cons_of_mem _ (List.mem_append_right _ h)) (by decide +kernel))
set_option maxRecDepth 20000 in
theorem gX4_putLeg_X1_insert : GoodIn wsX4_putLeg (wsV RX4 53 RX1 yX1_insert wsX1_insert) := goodIn_app (goodIn_of _ (by decide +kernel)) ggX4_putLeg_X1_insert
theorem dX4_putLeg_0 : decode cX4_putLeg 0 = .ok (.aload_n 0, 1) := by decide +kernel
theorem dX4_putLeg_1 : decode cX4_putLeg 1 = .ok (.getfield 12, 3) := by decide +kernel
theorem dX4_putLeg_4 : decode cX4_putLeg 4 = .ok (.getfield 32, 3) := by decide +kernel
theorem dX4_putLeg_7 : decode cX4_putLeg 7 = .ok (.iload_n 1, 1) := by decide +kernel
theorem dX4_putLeg_8 : decode cX4_putLeg 8 = .ok (.iload_n 2, 1) := by decide +kernel
theorem dX4_putLeg_9 : decode cX4_putLeg 9 = .ok (.iload_n 3, 1) := by decide +kernel
theorem dX4_putLeg_10 : decode cX4_putLeg 10 = .ok (.iload 4, 2) := by decide +kernel
theorem dX4_putLeg_12 : decode cX4_putLeg 12 = .ok (.invokevirtual 53, 3) := by decide +kernel
theorem dX4_putLeg_15 : decode cX4_putLeg 15 = .ok (.aload_n 0, 1) := by decide +kernel
theorem dX4_putLeg_16 : decode cX4_putLeg 16 = .ok (.getfield 12, 3) := by decide +kernel
theorem dX4_putLeg_19 : decode cX4_putLeg 19 = .ok (.getfield 32, 3) := by decide +kernel
theorem dX4_putLeg_22 : decode cX4_putLeg 22 = .ok (.getfield 46, 3) := by decide +kernel
theorem dX4_putLeg_25 : decode cX4_putLeg 25 = .ok (.ireturn, 1) := by decide +kernel
set_option maxRecDepth 20000 in
theorem ggX4_cutFault_X1_hasPorts : GoodIn wsX4_cutFault wsX1_hasPorts := goodIn_r _ [7, 8, 34, 35, 36, 37, 38, 39, 40] (by decide +kernel) (by decide +kernel)
set_option maxRecDepth 20000 in
theorem gX4_cutFault_X1_hasPorts : GoodIn wsX4_cutFault (wsV RX4 42 RX1 yX1_hasPorts wsX1_hasPorts) := goodIn_app (goodIn_of _ (by decide +kernel)) ggX4_cutFault_X1_hasPorts
set_option maxRecDepth 20000 in
theorem ggX4_cutFault_X1_find : GoodIn wsX4_cutFault wsX1_find := goodIn_ca (goodIn_r _ [12, 13, 14, 15, 16, 17, 18, 19, 20, 21, 22, 34, 35, 36, 37, 38, 39, 40] (by decide +kernel) (by decide +kernel)) (goodIn_sub (fun _ h => List.mem_cons_of_mem _ (List.mem_append_right _ h)) (by decide +kernel))
set_option maxRecDepth 20000 in
theorem gX4_cutFault_X1_find : GoodIn wsX4_cutFault (wsV RX4 49 RX1 yX1_find wsX1_find) := goodIn_app (goodIn_of _ (by decide +kernel)) ggX4_cutFault_X1_find
theorem dX4_cutFault_0 : decode cX4_cutFault 0 = .ok (.aload_n 0, 1) := by decide +kernel
theorem dX4_cutFault_1 : decode cX4_cutFault 1 = .ok (.getfield 12, 3) := by decide +kernel
theorem dX4_cutFault_4 : decode cX4_cutFault 4 = .ok (.getfield 32, 3) := by decide +kernel
theorem dX4_cutFault_7 : decode cX4_cutFault 7 = .ok (.iload_n 1, 1) := by decide +kernel
theorem dX4_cutFault_8 : decode cX4_cutFault 8 = .ok (.iload_n 2, 1) := by decide +kernel
theorem dX4_cutFault_9 : decode cX4_cutFault 9 = .ok (.invokevirtual 42, 3) := by decide +kernel
theorem dX4_cutFault_12 : decode cX4_cutFault 12 = .ok (.ifCond .ne 5, 3) := by decide +kernel
theorem dX4_cutFault_15 : decode cX4_cutFault 15 = .ok (.iconst 1, 1) := by decide +kernel
theorem dX4_cutFault_16 : decode cX4_cutFault 16 = .ok (.ireturn, 1) := by decide +kernel
theorem dX4_cutFault_17 : decode cX4_cutFault 17 = .ok (.aload_n 0, 1) := by decide +kernel
theorem dX4_cutFault_18 : decode cX4_cutFault 18 = .ok (.getfield 12, 3) := by decide +kernel
theorem dX4_cutFault_21 : decode cX4_cutFault 21 = .ok (.getfield 32, 3) := by decide +kernel
theorem dX4_cutFault_24 : decode cX4_cutFault 24 = .ok (.iload_n 1, 1) := by decide +kernel
theorem dX4_cutFault_25 : decode cX4_cutFault 25 = .ok (.iload_n 2, 1) := by decide +kernel
theorem dX4_cutFault_26 : decode cX4_cutFault 26 = .ok (.invokevirtual 49, 3) := by decide +kernel
theorem dX4_cutFault_29 : decode cX4_cutFault 29 = .ok (.iconst (-1), 1) := by decide +kernel
theorem dX4_cutFault_30 : decode cX4_cutFault 30 = .ok (.if_icmp .ne 7, 3) := by decide +kernel
theorem dX4_cutFault_33 : decode cX4_cutFault 33 = .ok (.iconst 4, 1) := by decide +kernel
theorem dX4_cutFault_34 : decode cX4_cutFault 34 = .ok (.goto 4, 3) := by decide +kernel
theorem dX4_cutFault_37 : decode cX4_cutFault 37 = .ok (.iconst 0, 1) := by decide +kernel
theorem dX4_cutFault_38 : decode cX4_cutFault 38 = .ok (.ireturn, 1) := by decide +kernel
set_option maxRecDepth 20000 in
theorem ggX4_cutLeg_X1_find : GoodIn wsX4_cutLeg wsX1_find := goodIn_ca (goodIn_r _ [8, 9, 10, 11, 12, 13, 14, 15, 16, 17, 18, 41, 42, 43, 44, 45, 46, 47] (by decide +kernel) (by decide +kernel)) (goodIn_sub (fun _ h => List.mem_cons_of_mem _ (List.mem_append_right _ h)) (by decide +kernel))
set_option maxRecDepth 20000 in
theorem gX4_cutLeg_X1_find : GoodIn wsX4_cutLeg (wsV RX4 49 RX1 yX1_find wsX1_find) := goodIn_app (goodIn_of _ (by decide +kernel)) ggX4_cutLeg_X1_find
set_option maxRecDepth 20000 in
theorem ggX4_cutLeg_X1_delete : GoodIn wsX4_cutLeg wsX1_delete := goodIn_ca (goodIn_r _ [22, 16, 23, 24, 25, 7, 26, 17, 18, 27, 28, 29, 41, 42, 43, 44, 45, 46, 47] (by decide +kernel) (by decide +kernel)) (goodIn_sub (fun _ h => List.mem_cons_of_mem _ (List.mem_append_right _ h)) (by decide +kernel))
set_option maxRecDepth 20000 in
theorem gX4_cutLeg_X1_delete : GoodIn wsX4_cutLeg (wsV RX4 61 RX1 yX1_delete wsX1_delete) := goodIn_app (goodIn_of _ (by decide +kernel)) ggX4_cutLeg_X1_delete
theorem dX4_cutLeg_0 : decode cX4_cutLeg 0 = .ok (.aload_n 0, 1) := by decide +kernel
theorem dX4_cutLeg_1 : decode cX4_cutLeg 1 = .ok (.getfield 12, 3) := by decide +kernel
theorem dX4_cutLeg_4 : decode cX4_cutLeg 4 = .ok (.getfield 32, 3) := by decide +kernel
theorem dX4_cutLeg_7 : decode cX4_cutLeg 7 = .ok (.iload_n 1, 1) := by decide +kernel
theorem dX4_cutLeg_8 : decode cX4_cutLeg 8 = .ok (.iload_n 2, 1) := by decide +kernel
theorem dX4_cutLeg_9 : decode cX4_cutLeg 9 = .ok (.invokevirtual 49, 3) := by decide +kernel
theorem dX4_cutLeg_12 : decode cX4_cutLeg 12 = .ok (.istore_n 3, 1) := by decide +kernel
theorem dX4_cutLeg_13 : decode cX4_cutLeg 13 = .ok (.iload_n 3, 1) := by decide +kernel
theorem dX4_cutLeg_14 : decode cX4_cutLeg 14 = .ok (.iconst (-1), 1) := by decide +kernel
theorem dX4_cutLeg_15 : decode cX4_cutLeg 15 = .ok (.if_icmp .ne 5, 3) := by decide +kernel
theorem dX4_cutLeg_18 : decode cX4_cutLeg 18 = .ok (.iconst 0, 1) := by decide +kernel
theorem dX4_cutLeg_19 : decode cX4_cutLeg 19 = .ok (.ireturn, 1) := by decide +kernel
theorem dX4_cutLeg_20 : decode cX4_cutLeg 20 = .ok (.aload_n 0, 1) := by decide +kernel
theorem dX4_cutLeg_21 : decode cX4_cutLeg 21 = .ok (.getfield 12, 3) := by decide +kernel
theorem dX4_cutLeg_24 : decode cX4_cutLeg 24 = .ok (.getfield 32, 3) := by decide +kernel
theorem dX4_cutLeg_27 : decode cX4_cutLeg 27 = .ok (.getfield 57, 3) := by decide +kernel
theorem dX4_cutLeg_30 : decode cX4_cutLeg 30 = .ok (.iload_n 3, 1) := by decide +kernel
theorem dX4_cutLeg_31 : decode cX4_cutLeg 31 = .ok (.iaload, 1) := by decide +kernel
theorem dX4_cutLeg_32 : decode cX4_cutLeg 32 = .ok (.istore 4, 2) := by decide +kernel
theorem dX4_cutLeg_34 : decode cX4_cutLeg 34 = .ok (.aload_n 0, 1) := by decide +kernel
theorem dX4_cutLeg_35 : decode cX4_cutLeg 35 = .ok (.getfield 12, 3) := by decide +kernel
theorem dX4_cutLeg_38 : decode cX4_cutLeg 38 = .ok (.getfield 32, 3) := by decide +kernel
theorem dX4_cutLeg_41 : decode cX4_cutLeg 41 = .ok (.iload_n 3, 1) := by decide +kernel
theorem dX4_cutLeg_42 : decode cX4_cutLeg 42 = .ok (.invokevirtual 61, 3) := by decide +kernel
theorem dX4_cutLeg_45 : decode cX4_cutLeg 45 = .ok (.iload 4, 2) := by decide +kernel
theorem dX4_cutLeg_47 : decode cX4_cutLeg 47 = .ok (.ireturn, 1) := by decide +kernel
set_option maxRecDepth 20000 in
theorem ggX4_shipFault_X1_hasPorts : GoodIn wsX4_shipFault wsX1_hasPorts := goodIn_r _ [10, 11, 47, 48, 49, 50, 51, 52, 53] (by decide +kernel) (by decide +kernel)
set_option maxRecDepth 20000 in
theorem gX4_shipFault_X1_hasPorts : GoodIn wsX4_shipFault (wsV RX4 42 RX1 yX1_hasPorts wsX1_hasPorts) := goodIn_app (goodIn_of _ (by decide +kernel)) ggX4_shipFault_X1_hasPorts
set_option maxRecDepth 20000 in
theorem ggX4_shipFault_X5_needByJoining : GoodIn wsX4_shipFault wsX5_needByJoining := goodIn_ca (goodIn_r _ [16, 17, 18, 19, 20, 21, 22, 23, 24, 15, 25, 26, 27, 28, 29, 47, 48, 49, 50, 51, 52, 53, 54, 55, 56] (by decide +kernel) (by decide +kernel)) (goodIn_sub (fun _ h => List.mem_cons_of_mem _ (List.mem_append_right _ h)) (by decide +kernel))
set_option maxRecDepth 20000 in
theorem gX4_shipFault_X5_needByJoining : GoodIn wsX4_shipFault (wsV RX4 74 RX5 yX5_needByJoining wsX5_needByJoining) := goodIn_app (goodIn_of _ (by decide +kernel)) ggX4_shipFault_X5_needByJoining
theorem dX4_shipFault_0 : decode cX4_shipFault 0 = .ok (.aload_n 0, 1) := by decide +kernel
theorem dX4_shipFault_1 : decode cX4_shipFault 1 = .ok (.getfield 12, 3) := by decide +kernel
theorem dX4_shipFault_4 : decode cX4_shipFault 4 = .ok (.getfield 32, 3) := by decide +kernel
theorem dX4_shipFault_7 : decode cX4_shipFault 7 = .ok (.iload_n 1, 1) := by decide +kernel
theorem dX4_shipFault_8 : decode cX4_shipFault 8 = .ok (.iload_n 2, 1) := by decide +kernel
theorem dX4_shipFault_9 : decode cX4_shipFault 9 = .ok (.invokevirtual 42, 3) := by decide +kernel
theorem dX4_shipFault_12 : decode cX4_shipFault 12 = .ok (.ifCond .ne 5, 3) := by decide +kernel
theorem dX4_shipFault_15 : decode cX4_shipFault 15 = .ok (.iconst 1, 1) := by decide +kernel
theorem dX4_shipFault_16 : decode cX4_shipFault 16 = .ok (.ireturn, 1) := by decide +kernel
theorem dX4_shipFault_17 : decode cX4_shipFault 17 = .ok (.iload_n 1, 1) := by decide +kernel
theorem dX4_shipFault_18 : decode cX4_shipFault 18 = .ok (.iload_n 2, 1) := by decide +kernel
theorem dX4_shipFault_19 : decode cX4_shipFault 19 = .ok (.if_icmp .eq 14, 3) := by decide +kernel
theorem dX4_shipFault_22 : decode cX4_shipFault 22 = .ok (.iload_n 3, 1) := by decide +kernel
theorem dX4_shipFault_23 : decode cX4_shipFault 23 = .ok (.ifCond .lt 10, 3) := by decide +kernel
theorem dX4_shipFault_26 : decode cX4_shipFault 26 = .ok (.iload_n 3, 1) := by decide +kernel
theorem dX4_shipFault_27 : decode cX4_shipFault 27 = .ok (.sipush 9999, 3) := by decide +kernel
theorem dX4_shipFault_30 : decode cX4_shipFault 30 = .ok (.if_icmp .le 5, 3) := by decide +kernel
theorem dX4_shipFault_33 : decode cX4_shipFault 33 = .ok (.iconst 2, 1) := by decide +kernel
theorem dX4_shipFault_34 : decode cX4_shipFault 34 = .ok (.ireturn, 1) := by decide +kernel
theorem dX4_shipFault_35 : decode cX4_shipFault 35 = .ok (.aload_n 0, 1) := by decide +kernel
theorem dX4_shipFault_36 : decode cX4_shipFault 36 = .ok (.getfield 12, 3) := by decide +kernel
theorem dX4_shipFault_39 : decode cX4_shipFault 39 = .ok (.getfield 65, 3) := by decide +kernel
theorem dX4_shipFault_42 : decode cX4_shipFault 42 = .ok (.getfield 69, 3) := by decide +kernel
theorem dX4_shipFault_45 : decode cX4_shipFault 45 = .ok (.bipush 6, 2) := by decide +kernel
theorem dX4_shipFault_47 : decode cX4_shipFault 47 = .ok (.if_icmp .lt 5, 3) := by decide +kernel
theorem dX4_shipFault_50 : decode cX4_shipFault 50 = .ok (.iconst 3, 1) := by decide +kernel
theorem dX4_shipFault_51 : decode cX4_shipFault 51 = .ok (.ireturn, 1) := by decide +kernel
theorem dX4_shipFault_52 : decode cX4_shipFault 52 = .ok (.aload_n 0, 1) := by decide +kernel
theorem dX4_shipFault_53 : decode cX4_shipFault 53 = .ok (.getfield 21, 3) := by decide +kernel
theorem dX4_shipFault_56 : decode cX4_shipFault 56 = .ok (.aload_n 0, 1) := by decide +kernel
theorem dX4_shipFault_57 : decode cX4_shipFault 57 = .ok (.getfield 12, 3) := by decide +kernel
theorem dX4_shipFault_60 : decode cX4_shipFault 60 = .ok (.getfield 32, 3) := by decide +kernel
theorem dX4_shipFault_63 : decode cX4_shipFault 63 = .ok (.iload_n 1, 1) := by decide +kernel
theorem dX4_shipFault_64 : decode cX4_shipFault 64 = .ok (.iload_n 2, 1) := by decide +kernel
theorem dX4_shipFault_65 : decode cX4_shipFault 65 = .ok (.invokevirtual 74, 3) := by decide +kernel
theorem dX4_shipFault_68 : decode cX4_shipFault 68 = .ok (.iconst (-1), 1) := by decide +kernel
theorem dX4_shipFault_69 : decode cX4_shipFault 69 = .ok (.if_icmp .ne 7, 3) := by decide +kernel
theorem dX4_shipFault_72 : decode cX4_shipFault 72 = .ok (.iconst 5, 1) := by decide +kernel
theorem dX4_shipFault_73 : decode cX4_shipFault 73 = .ok (.goto 4, 3) := by decide +kernel
theorem dX4_shipFault_76 : decode cX4_shipFault 76 = .ok (.iconst 0, 1) := by decide +kernel
theorem dX4_shipFault_77 : decode cX4_shipFault 77 = .ok (.ireturn, 1) := by decide +kernel
set_option maxRecDepth 20000 in
theorem ggX4_putShip_X8_add : GoodIn wsX4_putShip wsX8_add := goodIn_ca (goodIn_r _ [9, 10, 11, 12, 13, 14, 15, 27, 28, 29, 30, 31, 32] (by decide +kernel) (by decide +kernel)) (goodIn_sub (fun _ h => List.mem_cons_of_mem _ (List.mem_append_right _ h)) (by decide +kernel))
set_option maxRecDepth 20000 in
theorem gX4_putShip_X8_add : GoodIn wsX4_putShip (wsV RX4 78 RX8 yX8_add wsX8_add) := goodIn_app (goodIn_of _ (by decide +kernel)) ggX4_putShip_X8_add
theorem dX4_putShip_0 : decode cX4_putShip 0 = .ok (.aload_n 0, 1) := by decide +kernel
theorem dX4_putShip_1 : decode cX4_putShip 1 = .ok (.getfield 12, 3) := by decide +kernel
theorem dX4_putShip_4 : decode cX4_putShip 4 = .ok (.getfield 65, 3) := by decide +kernel
theorem dX4_putShip_7 : decode cX4_putShip 7 = .ok (.getfield 69, 3) := by decide +kernel
theorem dX4_putShip_10 : decode cX4_putShip 10 = .ok (.istore 4, 2) := by decide +kernel
theorem dX4_putShip_12 : decode cX4_putShip 12 = .ok (.aload_n 0, 1) := by decide +kernel
theorem dX4_putShip_13 : decode cX4_putShip 13 = .ok (.getfield 12, 3) := by decide +kernel
theorem dX4_putShip_16 : decode cX4_putShip 16 = .ok (.getfield 65, 3) := by decide +kernel
theorem dX4_putShip_19 : decode cX4_putShip 19 = .ok (.iload_n 1, 1) := by decide +kernel
theorem dX4_putShip_20 : decode cX4_putShip 20 = .ok (.iload_n 2, 1) := by decide +kernel
theorem dX4_putShip_21 : decode cX4_putShip 21 = .ok (.iload_n 3, 1) := by decide +kernel
theorem dX4_putShip_22 : decode cX4_putShip 22 = .ok (.invokevirtual 78, 3) := by decide +kernel
theorem dX4_putShip_25 : decode cX4_putShip 25 = .ok (.aload_n 0, 1) := by decide +kernel
theorem dX4_putShip_26 : decode cX4_putShip 26 = .ok (.getfield 12, 3) := by decide +kernel
theorem dX4_putShip_29 : decode cX4_putShip 29 = .ok (.dup, 1) := by decide +kernel
theorem dX4_putShip_30 : decode cX4_putShip 30 = .ok (.getfield 82, 3) := by decide +kernel
theorem dX4_putShip_33 : decode cX4_putShip 33 = .ok (.iload_n 3, 1) := by decide +kernel
theorem dX4_putShip_34 : decode cX4_putShip 34 = .ok (.i2l, 1) := by decide +kernel
theorem dX4_putShip_35 : decode cX4_putShip 35 = .ok (.ladd, 1) := by decide +kernel
theorem dX4_putShip_36 : decode cX4_putShip 36 = .ok (.putfield 82, 3) := by decide +kernel
theorem dX4_putShip_39 : decode cX4_putShip 39 = .ok (.iload 4, 2) := by decide +kernel
theorem dX4_putShip_41 : decode cX4_putShip 41 = .ok (.ireturn, 1) := by decide +kernel
set_option maxRecDepth 20000 in
theorem ggX4_leaveFault_X8_has : GoodIn wsX4_leaveFault wsX8_has := goodIn_r _ [7, 8, 20, 21, 22, 23, 24, 25] (by decide +kernel) (by decide +kernel)
set_option maxRecDepth 20000 in
theorem gX4_leaveFault_X8_has : GoodIn wsX4_leaveFault (wsV RX4 86 RX8 yX8_has wsX8_has) := goodIn_app (goodIn_of _ (by decide +kernel)) ggX4_leaveFault_X8_has
theorem dX4_leaveFault_0 : decode cX4_leaveFault 0 = .ok (.aload_n 0, 1) := by decide +kernel
theorem dX4_leaveFault_1 : decode cX4_leaveFault 1 = .ok (.getfield 12, 3) := by decide +kernel
theorem dX4_leaveFault_4 : decode cX4_leaveFault 4 = .ok (.getfield 65, 3) := by decide +kernel
theorem dX4_leaveFault_7 : decode cX4_leaveFault 7 = .ok (.iload_n 1, 1) := by decide +kernel
theorem dX4_leaveFault_8 : decode cX4_leaveFault 8 = .ok (.invokevirtual 86, 3) := by decide +kernel
theorem dX4_leaveFault_11 : decode cX4_leaveFault 11 = .ok (.ifCond .eq 7, 3) := by decide +kernel
theorem dX4_leaveFault_14 : decode cX4_leaveFault 14 = .ok (.iconst 0, 1) := by decide +kernel
theorem dX4_leaveFault_15 : decode cX4_leaveFault 15 = .ok (.goto 4, 3) := by decide +kernel
theorem dX4_leaveFault_18 : decode cX4_leaveFault 18 = .ok (.iconst 1, 1) := by decide +kernel
theorem dX4_leaveFault_19 : decode cX4_leaveFault 19 = .ok (.ireturn, 1) := by decide +kernel
set_option maxRecDepth 20000 in
theorem ggX4_letGo_X8_delete : GoodIn wsX4_letGo wsX8_delete := goodIn_ca (goodIn_r _ [9, 10, 11, 12, 13, 14, 15, 16, 17, 18, 8, 19, 31, 32, 33, 34, 35, 36] (by decide +kernel) (by decide +kernel)) (goodIn_sub (fun _ h => List.mem_cons_of_mem _ (List.mem_append_right _ h)) (by decide +kernel))
set_option maxRecDepth 20000 in
theorem gX4_letGo_X8_delete : GoodIn wsX4_letGo (wsV RX4 93 RX8 yX8_delete wsX8_delete) := goodIn_app (goodIn_of _ (by decide +kernel)) ggX4_letGo_X8_delete
theorem dX4_letGo_0 : decode cX4_letGo 0 = .ok (.aload_n 0, 1) := by decide +kernel
theorem dX4_letGo_1 : decode cX4_letGo 1 = .ok (.getfield 12, 3) := by decide +kernel
theorem dX4_letGo_4 : decode cX4_letGo 4 = .ok (.getfield 65, 3) := by decide +kernel
theorem dX4_letGo_7 : decode cX4_letGo 7 = .ok (.getfield 90, 3) := by decide +kernel
theorem dX4_letGo_10 : decode cX4_letGo 10 = .ok (.iload_n 1, 1) := by decide +kernel
theorem dX4_letGo_11 : decode cX4_letGo 11 = .ok (.iaload, 1) := by decide +kernel
theorem dX4_letGo_12 : decode cX4_letGo 12 = .ok (.istore_n 2, 1) := by decide +kernel
theorem dX4_letGo_13 : decode cX4_letGo 13 = .ok (.aload_n 0, 1) := by decide +kernel
theorem dX4_letGo_14 : decode cX4_letGo 14 = .ok (.getfield 12, 3) := by decide +kernel
theorem dX4_letGo_17 : decode cX4_letGo 17 = .ok (.getfield 65, 3) := by decide +kernel
theorem dX4_letGo_20 : decode cX4_letGo 20 = .ok (.iload_n 1, 1) := by decide +kernel
theorem dX4_letGo_21 : decode cX4_letGo 21 = .ok (.invokevirtual 93, 3) := by decide +kernel
theorem dX4_letGo_24 : decode cX4_letGo 24 = .ok (.aload_n 0, 1) := by decide +kernel
theorem dX4_letGo_25 : decode cX4_letGo 25 = .ok (.getfield 12, 3) := by decide +kernel
theorem dX4_letGo_28 : decode cX4_letGo 28 = .ok (.dup, 1) := by decide +kernel
theorem dX4_letGo_29 : decode cX4_letGo 29 = .ok (.getfield 82, 3) := by decide +kernel
theorem dX4_letGo_32 : decode cX4_letGo 32 = .ok (.iload_n 2, 1) := by decide +kernel
theorem dX4_letGo_33 : decode cX4_letGo 33 = .ok (.i2l, 1) := by decide +kernel
theorem dX4_letGo_34 : decode cX4_letGo 34 = .ok (.lsub, 1) := by decide +kernel
theorem dX4_letGo_35 : decode cX4_letGo 35 = .ok (.putfield 82, 3) := by decide +kernel
theorem dX4_letGo_38 : decode cX4_letGo 38 = .ok (.iload_n 2, 1) := by decide +kernel
theorem dX4_letGo_39 : decode cX4_letGo 39 = .ok (.ireturn, 1) := by decide +kernel
set_option maxRecDepth 20000 in
theorem ggX4_payFault_X8_has : GoodIn wsX4_payFault wsX8_has := goodIn_r _ [7, 8, 20, 21, 22, 23, 24, 25] (by decide +kernel) (by decide +kernel)
set_option maxRecDepth 20000 in
theorem gX4_payFault_X8_has : GoodIn wsX4_payFault (wsV RX4 86 RX8 yX8_has wsX8_has) := goodIn_app (goodIn_of _ (by decide +kernel)) ggX4_payFault_X8_has
theorem dX4_payFault_0 : decode cX4_payFault 0 = .ok (.aload_n 0, 1) := by decide +kernel
theorem dX4_payFault_1 : decode cX4_payFault 1 = .ok (.getfield 12, 3) := by decide +kernel
theorem dX4_payFault_4 : decode cX4_payFault 4 = .ok (.getfield 65, 3) := by decide +kernel
theorem dX4_payFault_7 : decode cX4_payFault 7 = .ok (.iload_n 1, 1) := by decide +kernel
theorem dX4_payFault_8 : decode cX4_payFault 8 = .ok (.invokevirtual 86, 3) := by decide +kernel
theorem dX4_payFault_11 : decode cX4_payFault 11 = .ok (.ifCond .ne 5, 3) := by decide +kernel
theorem dX4_payFault_14 : decode cX4_payFault 14 = .ok (.iconst 1, 1) := by decide +kernel
theorem dX4_payFault_15 : decode cX4_payFault 15 = .ok (.ireturn, 1) := by decide +kernel
theorem dX4_payFault_16 : decode cX4_payFault 16 = .ok (.iload_n 2, 1) := by decide +kernel
theorem dX4_payFault_17 : decode cX4_payFault 17 = .ok (.iconst 1, 1) := by decide +kernel
theorem dX4_payFault_18 : decode cX4_payFault 18 = .ok (.if_icmp .lt 10, 3) := by decide +kernel
theorem dX4_payFault_21 : decode cX4_payFault 21 = .ok (.iload_n 2, 1) := by decide +kernel
theorem dX4_payFault_22 : decode cX4_payFault 22 = .ok (.sipush 9999, 3) := by decide +kernel
theorem dX4_payFault_25 : decode cX4_payFault 25 = .ok (.if_icmp .le 7, 3) := by decide +kernel
theorem dX4_payFault_28 : decode cX4_payFault 28 = .ok (.iconst 2, 1) := by decide +kernel
theorem dX4_payFault_29 : decode cX4_payFault 29 = .ok (.goto 4, 3) := by decide +kernel
theorem dX4_payFault_32 : decode cX4_payFault 32 = .ok (.iconst 0, 1) := by decide +kernel
theorem dX4_payFault_33 : decode cX4_payFault 33 = .ok (.ireturn, 1) := by decide +kernel
theorem dX4_payIn_0 : decode cX4_payIn 0 = .ok (.aload_n 0, 1) := by decide +kernel
theorem dX4_payIn_1 : decode cX4_payIn 1 = .ok (.getfield 12, 3) := by decide +kernel
theorem dX4_payIn_4 : decode cX4_payIn 4 = .ok (.getfield 65, 3) := by decide +kernel
theorem dX4_payIn_7 : decode cX4_payIn 7 = .ok (.getfield 90, 3) := by decide +kernel
theorem dX4_payIn_10 : decode cX4_payIn 10 = .ok (.iload_n 1, 1) := by decide +kernel
theorem dX4_payIn_11 : decode cX4_payIn 11 = .ok (.dup2, 1) := by decide +kernel
theorem dX4_payIn_12 : decode cX4_payIn 12 = .ok (.iaload, 1) := by decide +kernel
theorem dX4_payIn_13 : decode cX4_payIn 13 = .ok (.iload_n 2, 1) := by decide +kernel
theorem dX4_payIn_14 : decode cX4_payIn 14 = .ok (.iadd, 1) := by decide +kernel
theorem dX4_payIn_15 : decode cX4_payIn 15 = .ok (.iastore, 1) := by decide +kernel
theorem dX4_payIn_16 : decode cX4_payIn 16 = .ok (.aload_n 0, 1) := by decide +kernel
theorem dX4_payIn_17 : decode cX4_payIn 17 = .ok (.getfield 12, 3) := by decide +kernel
theorem dX4_payIn_20 : decode cX4_payIn 20 = .ok (.dup, 1) := by decide +kernel
theorem dX4_payIn_21 : decode cX4_payIn 21 = .ok (.getfield 82, 3) := by decide +kernel
theorem dX4_payIn_24 : decode cX4_payIn 24 = .ok (.iload_n 2, 1) := by decide +kernel
theorem dX4_payIn_25 : decode cX4_payIn 25 = .ok (.i2l, 1) := by decide +kernel
theorem dX4_payIn_26 : decode cX4_payIn 26 = .ok (.ladd, 1) := by decide +kernel
theorem dX4_payIn_27 : decode cX4_payIn 27 = .ok (.putfield 82, 3) := by decide +kernel
theorem dX4_payIn_30 : decode cX4_payIn 30 = .ok (.aload_n 0, 1) := by decide +kernel
theorem dX4_payIn_31 : decode cX4_payIn 31 = .ok (.getfield 12, 3) := by decide +kernel
theorem dX4_payIn_34 : decode cX4_payIn 34 = .ok (.getfield 65, 3) := by decide +kernel
theorem dX4_payIn_37 : decode cX4_payIn 37 = .ok (.getfield 90, 3) := by decide +kernel
theorem dX4_payIn_40 : decode cX4_payIn 40 = .ok (.iload_n 1, 1) := by decide +kernel
theorem dX4_payIn_41 : decode cX4_payIn 41 = .ok (.iaload, 1) := by decide +kernel
theorem dX4_payIn_42 : decode cX4_payIn 42 = .ok (.ireturn, 1) := by decide +kernel
theorem dX4_fogFault_0 : decode cX4_fogFault 0 = .ok (.iload_n 1, 1) := by decide +kernel
theorem dX4_fogFault_1 : decode cX4_fogFault 1 = .ok (.ifCond .lt 9, 3) := by decide +kernel
theorem dX4_fogFault_4 : decode cX4_fogFault 4 = .ok (.iload_n 1, 1) := by decide +kernel
theorem dX4_fogFault_5 : decode cX4_fogFault 5 = .ok (.bipush 9, 2) := by decide +kernel
theorem dX4_fogFault_7 : decode cX4_fogFault 7 = .ok (.if_icmp .le 7, 3) := by decide +kernel
theorem dX4_fogFault_10 : decode cX4_fogFault 10 = .ok (.iconst 2, 1) := by decide +kernel
theorem dX4_fogFault_11 : decode cX4_fogFault 11 = .ok (.goto 4, 3) := by decide +kernel
theorem dX4_fogFault_14 : decode cX4_fogFault 14 = .ok (.iconst 0, 1) := by decide +kernel
theorem dX4_fogFault_15 : decode cX4_fogFault 15 = .ok (.ireturn, 1) := by decide +kernel
theorem dX4_putFog_0 : decode cX4_putFog 0 = .ok (.aload_n 0, 1) := by decide +kernel
theorem dX4_putFog_1 : decode cX4_putFog 1 = .ok (.getfield 12, 3) := by decide +kernel
theorem dX4_putFog_4 : decode cX4_putFog 4 = .ok (.getfield 94, 3) := by decide +kernel
theorem dX4_putFog_7 : decode cX4_putFog 7 = .ok (.istore_n 2, 1) := by decide +kernel
theorem dX4_putFog_8 : decode cX4_putFog 8 = .ok (.aload_n 0, 1) := by decide +kernel
theorem dX4_putFog_9 : decode cX4_putFog 9 = .ok (.getfield 12, 3) := by decide +kernel
theorem dX4_putFog_12 : decode cX4_putFog 12 = .ok (.iload_n 1, 1) := by decide +kernel
theorem dX4_putFog_13 : decode cX4_putFog 13 = .ok (.putfield 94, 3) := by decide +kernel
theorem dX4_putFog_16 : decode cX4_putFog 16 = .ok (.iload_n 2, 1) := by decide +kernel
theorem dX4_putFog_17 : decode cX4_putFog 17 = .ok (.ireturn, 1) := by decide +kernel
set_option maxRecDepth 20000 in
theorem ggX4_passNight_X4_planNight : GoodIn wsX4_passNight wsX4_planNight := goodIn_ca (goodIn_ca (goodIn_r _ [17, 2, 1, 4, 18, 19, 20, 16, 21, 5, 22, 11, 23, 24, 25, 26, 27, 28, 29, 30, 31, 32, 33, 34, 35, 36, 37, 38, 39, 40, 41, 42, 43, 44, 45, 46, 47, 48, 49, 50, 51, 52, 53, 54, 55, 56, 57, 58, 59, 60, 61, 62, 63, 64, 65, 66, 67, 68, 69, 70, 71, 72, 73, 74, 75, 76, 77, 78, 79, 80, 81, 82, 83, 84, 85, 86, 87, 104, 105, 106, 107, 108, 109, 110, 111, 112, 113, 114, 115, 116, 117, 118, 119, 120, 121, 122, 123, 124, 125, 126, 127, 128, 129, 130, 131, 132, 133, 134, 135] (by decide +kernel) (by decide +kernel)) (goodIn_sub (fun _ h => List.mem_cons_of_mem _ (List.mem_append_left _ (List.mem_append_right _ h))) (by decide +kernel))) (goodIn_sub (fun _ h => List.mem_cons_of_mem _ (List.mem_append_right _ h)) (by decide +kernel))
set_option maxRecDepth 20000 in
theorem gX4_passNight_X4_planNight : GoodIn wsX4_passNight (wsV RX4 97 RX4 yX4_planNight wsX4_planNight) := goodIn_app (goodIn_of _ (by decide +kernel)) ggX4_passNight_X4_planNight
set_option maxRecDepth 20000 in
theorem ggX4_passNight_X7_greatestNeed : GoodIn wsX4_passNight wsX7_greatestNeed := goodIn_ca (goodIn_r _ [66, 30, 53, 121, 122, 123, 124, 125] (by decide +kernel) (by decide +kernel)) (goodIn_sub (fun _ h => List.mem_cons_of_mem _ (List.mem_append_left _ (List.mem_append_right _ h))) (by decide +kernel))
set_option maxRecDepth 20000 in
theorem gX4_passNight_X7_greatestNeed : GoodIn wsX4_passNight (wsV RX4 100 RX7 yX7_greatestNeed wsX7_greatestNeed) := goodIn_app (goodIn_of _ (by decide +kernel)) ggX4_passNight_X7_greatestNeed
set_option maxRecDepth 20000 in
theorem ggX4_passNight_X4_charge : GoodIn wsX4_passNight wsX4_charge := goodIn_ca (goodIn_r _ [92, 1, 4, 93, 94, 10, 95, 104, 105, 106, 107, 108, 109, 110, 111, 112, 113, 114, 115, 116, 117, 118, 119, 120] (by decide +kernel) (by decide +kernel)) (goodIn_sub (fun _ h => List.mem_cons_of_mem _ (List.mem_append_left _ (List.mem_append_right _ h))) (by decide +kernel))
set_option maxRecDepth 20000 in
theorem gX4_passNight_X4_charge : GoodIn wsX4_passNight (wsV RX4 114 RX4 yX4_charge wsX4_charge) := goodIn_app (goodIn_of _ (by decide +kernel)) ggX4_passNight_X4_charge
set_option maxRecDepth 20000 in
theorem ggX4_passNight_X1_countLight : GoodIn wsX4_passNight wsX1_countLight := goodIn_ca (goodIn_r _ [100, 101, 102, 103, 126, 127, 128, 129, 130, 131, 132] (by decide +kernel) (by decide +kernel)) (goodIn_sub (fun _ h => List.mem_cons_of_mem _ (List.mem_append_left _ (List.mem_append_right _ h))) (by decide +kernel))
set_option maxRecDepth 20000 in
theorem gX4_passNight_X1_countLight : GoodIn wsX4_passNight (wsV RX4 124 RX1 yX1_countLight wsX1_countLight) := goodIn_app (goodIn_of _ (by decide +kernel)) ggX4_passNight_X1_countLight
theorem dX4_passNight_0 : decode cX4_passNight 0 = .ok (.aload_n 0, 1) := by decide +kernel
theorem dX4_passNight_1 : decode cX4_passNight 1 = .ok (.invokevirtual 97, 3) := by decide +kernel
theorem dX4_passNight_4 : decode cX4_passNight 4 = .ok (.aload_n 0, 1) := by decide +kernel
theorem dX4_passNight_5 : decode cX4_passNight 5 = .ok (.getfield 12, 3) := by decide +kernel
theorem dX4_passNight_8 : decode cX4_passNight 8 = .ok (.aload_n 0, 1) := by decide +kernel
theorem dX4_passNight_9 : decode cX4_passNight 9 = .ok (.getfield 28, 3) := by decide +kernel
theorem dX4_passNight_12 : decode cX4_passNight 12 = .ok (.invokevirtual 100, 3) := by decide +kernel
theorem dX4_passNight_15 : decode cX4_passNight 15 = .ok (.putfield 104, 3) := by decide +kernel
theorem dX4_passNight_18 : decode cX4_passNight 18 = .ok (.iconst 0, 1) := by decide +kernel
theorem dX4_passNight_19 : decode cX4_passNight 19 = .ok (.istore_n 1, 1) := by decide +kernel
theorem dX4_passNight_20 : decode cX4_passNight 20 = .ok (.iconst 0, 1) := by decide +kernel
theorem dX4_passNight_21 : decode cX4_passNight 21 = .ok (.istore_n 2, 1) := by decide +kernel
theorem dX4_passNight_22 : decode cX4_passNight 22 = .ok (.iload_n 2, 1) := by decide +kernel
theorem dX4_passNight_23 : decode cX4_passNight 23 = .ok (.aload_n 0, 1) := by decide +kernel
theorem dX4_passNight_24 : decode cX4_passNight 24 = .ok (.getfield 12, 3) := by decide +kernel
theorem dX4_passNight_27 : decode cX4_passNight 27 = .ok (.getfield 65, 3) := by decide +kernel
theorem dX4_passNight_30 : decode cX4_passNight 30 = .ok (.getfield 69, 3) := by decide +kernel
theorem dX4_passNight_33 : decode cX4_passNight 33 = .ok (.if_icmp .ge 73, 3) := by decide +kernel
theorem dX4_passNight_36 : decode cX4_passNight 36 = .ok (.aload_n 0, 1) := by decide +kernel
theorem dX4_passNight_37 : decode cX4_passNight 37 = .ok (.getfield 28, 3) := by decide +kernel
theorem dX4_passNight_40 : decode cX4_passNight 40 = .ok (.getfield 107, 3) := by decide +kernel
theorem dX4_passNight_43 : decode cX4_passNight 43 = .ok (.iload_n 2, 1) := by decide +kernel
theorem dX4_passNight_44 : decode cX4_passNight 44 = .ok (.baload, 1) := by decide +kernel
theorem dX4_passNight_45 : decode cX4_passNight 45 = .ok (.ifCond .eq 39, 3) := by decide +kernel
theorem dX4_passNight_48 : decode cX4_passNight 48 = .ok (.aload_n 0, 1) := by decide +kernel
theorem dX4_passNight_49 : decode cX4_passNight 49 = .ok (.iload_n 2, 1) := by decide +kernel
theorem dX4_passNight_50 : decode cX4_passNight 50 = .ok (.aload_n 0, 1) := by decide +kernel
theorem dX4_passNight_51 : decode cX4_passNight 51 = .ok (.getfield 28, 3) := by decide +kernel
theorem dX4_passNight_54 : decode cX4_passNight 54 = .ok (.getfield 111, 3) := by decide +kernel
theorem dX4_passNight_57 : decode cX4_passNight 57 = .ok (.iload_n 2, 1) := by decide +kernel
theorem dX4_passNight_58 : decode cX4_passNight 58 = .ok (.iaload, 1) := by decide +kernel
theorem dX4_passNight_59 : decode cX4_passNight 59 = .ok (.invokevirtual 114, 3) := by decide +kernel
theorem dX4_passNight_62 : decode cX4_passNight 62 = .ok (.aload_n 0, 1) := by decide +kernel
theorem dX4_passNight_63 : decode cX4_passNight 63 = .ok (.getfield 12, 3) := by decide +kernel
theorem dX4_passNight_66 : decode cX4_passNight 66 = .ok (.getfield 65, 3) := by decide +kernel
theorem dX4_passNight_69 : decode cX4_passNight 69 = .ok (.getfield 118, 3) := by decide +kernel
theorem dX4_passNight_72 : decode cX4_passNight 72 = .ok (.iload_n 2, 1) := by decide +kernel
theorem dX4_passNight_73 : decode cX4_passNight 73 = .ok (.dup2, 1) := by decide +kernel
theorem dX4_passNight_74 : decode cX4_passNight 74 = .ok (.iaload, 1) := by decide +kernel
theorem dX4_passNight_75 : decode cX4_passNight 75 = .ok (.iconst 1, 1) := by decide +kernel
theorem dX4_passNight_76 : decode cX4_passNight 76 = .ok (.iadd, 1) := by decide +kernel
theorem dX4_passNight_77 : decode cX4_passNight 77 = .ok (.iastore, 1) := by decide +kernel
theorem dX4_passNight_78 : decode cX4_passNight 78 = .ok (.iinc 1 1, 3) := by decide +kernel
theorem dX4_passNight_81 : decode cX4_passNight 81 = .ok (.goto 19, 3) := by decide +kernel
theorem dX4_passNight_84 : decode cX4_passNight 84 = .ok (.aload_n 0, 1) := by decide +kernel
theorem dX4_passNight_85 : decode cX4_passNight 85 = .ok (.getfield 12, 3) := by decide +kernel
theorem dX4_passNight_88 : decode cX4_passNight 88 = .ok (.getfield 65, 3) := by decide +kernel
theorem dX4_passNight_91 : decode cX4_passNight 91 = .ok (.getfield 121, 3) := by decide +kernel
theorem dX4_passNight_94 : decode cX4_passNight 94 = .ok (.iload_n 2, 1) := by decide +kernel
theorem dX4_passNight_95 : decode cX4_passNight 95 = .ok (.dup2, 1) := by decide +kernel
theorem dX4_passNight_96 : decode cX4_passNight 96 = .ok (.iaload, 1) := by decide +kernel
theorem dX4_passNight_97 : decode cX4_passNight 97 = .ok (.iconst 1, 1) := by decide +kernel
theorem dX4_passNight_98 : decode cX4_passNight 98 = .ok (.iadd, 1) := by decide +kernel
theorem dX4_passNight_99 : decode cX4_passNight 99 = .ok (.iastore, 1) := by decide +kernel
theorem dX4_passNight_100 : decode cX4_passNight 100 = .ok (.iinc 2 1, 3) := by decide +kernel
theorem dX4_passNight_103 : decode cX4_passNight 103 = .ok (.goto (-81), 3) := by decide +kernel
theorem dX4_passNight_106 : decode cX4_passNight 106 = .ok (.aload_n 0, 1) := by decide +kernel
theorem dX4_passNight_107 : decode cX4_passNight 107 = .ok (.getfield 12, 3) := by decide +kernel
theorem dX4_passNight_110 : decode cX4_passNight 110 = .ok (.getfield 94, 3) := by decide +kernel
theorem dX4_passNight_113 : decode cX4_passNight 113 = .ok (.ifCond .le 16, 3) := by decide +kernel
theorem dX4_passNight_116 : decode cX4_passNight 116 = .ok (.aload_n 0, 1) := by decide +kernel
theorem dX4_passNight_117 : decode cX4_passNight 117 = .ok (.getfield 12, 3) := by decide +kernel
theorem dX4_passNight_120 : decode cX4_passNight 120 = .ok (.dup, 1) := by decide +kernel
theorem dX4_passNight_121 : decode cX4_passNight 121 = .ok (.getfield 94, 3) := by decide +kernel
theorem dX4_passNight_124 : decode cX4_passNight 124 = .ok (.iconst 1, 1) := by decide +kernel
theorem dX4_passNight_125 : decode cX4_passNight 125 = .ok (.isub, 1) := by decide +kernel
theorem dX4_passNight_126 : decode cX4_passNight 126 = .ok (.putfield 94, 3) := by decide +kernel
theorem dX4_passNight_129 : decode cX4_passNight 129 = .ok (.aload_n 0, 1) := by decide +kernel
theorem dX4_passNight_130 : decode cX4_passNight 130 = .ok (.getfield 12, 3) := by decide +kernel
theorem dX4_passNight_133 : decode cX4_passNight 133 = .ok (.getfield 32, 3) := by decide +kernel
theorem dX4_passNight_136 : decode cX4_passNight 136 = .ok (.aload_n 0, 1) := by decide +kernel
theorem dX4_passNight_137 : decode cX4_passNight 137 = .ok (.getfield 12, 3) := by decide +kernel
theorem dX4_passNight_140 : decode cX4_passNight 140 = .ok (.getfield 104, 3) := by decide +kernel
theorem dX4_passNight_143 : decode cX4_passNight 143 = .ok (.invokevirtual 124, 3) := by decide +kernel
theorem dX4_passNight_146 : decode cX4_passNight 146 = .ok (.aload_n 0, 1) := by decide +kernel
theorem dX4_passNight_147 : decode cX4_passNight 147 = .ok (.getfield 12, 3) := by decide +kernel
theorem dX4_passNight_150 : decode cX4_passNight 150 = .ok (.dup, 1) := by decide +kernel
theorem dX4_passNight_151 : decode cX4_passNight 151 = .ok (.getfield 127, 3) := by decide +kernel
theorem dX4_passNight_154 : decode cX4_passNight 154 = .ok (.iconst 1, 1) := by decide +kernel
theorem dX4_passNight_155 : decode cX4_passNight 155 = .ok (.iadd, 1) := by decide +kernel
theorem dX4_passNight_156 : decode cX4_passNight 156 = .ok (.putfield 127, 3) := by decide +kernel
theorem dX4_passNight_159 : decode cX4_passNight 159 = .ok (.iload_n 1, 1) := by decide +kernel
theorem dX4_passNight_160 : decode cX4_passNight 160 = .ok (.ireturn, 1) := by decide +kernel
set_option maxRecDepth 20000 in
theorem ggX4_perform_X4_faultOf : GoodIn wsX4_perform wsX4_faultOf := goodIn_ca (goodIn_r _ [6, 1, 7, 8, 9, 10, 11, 12, 13, 14, 15, 16, 5, 17, 18, 19, 20, 21, 22, 23, 24, 25, 26, 27, 28, 29, 30, 31, 32, 33, 34, 35, 36, 37, 38, 39, 40, 41, 42, 43, 44, 45, 46, 47, 48, 49, 50, 51, 52, 53, 54, 55, 56, 57, 58, 59, 60, 61, 62, 63, 64, 65, 66, 67, 68, 69, 70, 71, 72, 73, 74, 75, 76, 77, 78, 79, 80, 81, 82, 83, 84, 85, 86, 87, 88, 89, 90, 91, 92, 235, 236, 237, 238, 239, 240, 241, 242, 243, 244, 245, 246, 247, 248, 249, 250, 251, 252, 253, 254, 255, 256, 257, 258, 259, 260, 261] (by decide +kernel) (by decide +kernel)) (goodIn_sub (fun _ h => List.mem_cons_of_mem _ (List.mem_append_left _ (List.mem_append_right _ h))) (by decide +kernel))
set_option maxRecDepth 20000 in
theorem gX4_perform_X4_faultOf : GoodIn wsX4_perform (wsV RX4 130 RX4 yX4_faultOf wsX4_faultOf) := goodIn_app (goodIn_of _ (by decide +kernel)) ggX4_perform_X4_faultOf
set_option maxRecDepth 20000 in
theorem ggX4_perform_Jx29ce0_ordinal_8abf5 : GoodIn wsX4_perform wsJx29ce0_ordinal_8abf5 := goodIn_r _ [12, 13] (by decide +kernel) (by decide +kernel)
set_option maxRecDepth 20000 in
theorem gX4_perform_Jx29ce0_ordinal_8abf5_u139X2 : GoodIn wsX4_perform (va_wsU RX4 139 RX2 "java/lang/Enum" ⟨"HarborLights$Command", "ordinal", "()I"⟩ yJx29ce0_ordinal_8abf5 wsJx29ce0_ordinal_8abf5) := goodIn_app (goodIn_of _ (by decide +kernel)) ggX4_perform_Jx29ce0_ordinal_8abf5
set_option maxRecDepth 20000 in
theorem ggX4_perform_X4_putPort : GoodIn wsX4_perform wsX4_putPort := goodIn_r _ [96, 18, 19, 20, 235, 236, 237, 238, 239, 240, 241, 242, 243, 244, 245, 246, 247, 248, 249, 250, 251, 252] (by decide +kernel) (by decide +kernel)
set_option maxRecDepth 20000 in
theorem gX4_perform_X4_putPort : GoodIn wsX4_perform (wsV RX4 144 RX4 yX4_putPort wsX4_putPort) := goodIn_app (goodIn_of _ (by decide +kernel)) ggX4_perform_X4_putPort
set_option maxRecDepth 20000 in
theorem ggX4_perform_X4_putLeg : GoodIn wsX4_perform wsX4_putLeg := goodIn_ca (goodIn_r _ [100, 18, 19, 25, 101, 102, 103, 29, 104, 43, 36, 37, 38, 39, 40, 41, 42, 44, 45, 105, 106, 107, 108, 109, 110, 111, 112, 113, 114, 115, 235, 236, 237, 238, 239, 240, 241, 242, 243, 244, 245, 246, 247, 248, 249, 250, 251, 252] (by decide +kernel) (by decide +kernel)) (goodIn_sub (fun _ h => List.mem_cons_of_mem _ (List.mem_append_left _ (List.mem_append_right _ h))) (by decide +kernel))
set_option maxRecDepth 20000 in
theorem gX4_perform_X4_putLeg : GoodIn wsX4_perform (wsV RX4 147 RX4 yX4_putLeg wsX4_putLeg) := goodIn_app (goodIn_of _ (by decide +kernel)) ggX4_perform_X4_putLeg
set_option maxRecDepth 20000 in
theorem ggX4_perform_X4_cutLeg : GoodIn wsX4_perform wsX4_cutLeg := goodIn_ca (goodIn_r _ [119, 18, 19, 120, 32, 33, 34, 29, 35, 36, 37, 38, 39, 40, 41, 42, 43, 44, 45, 121, 122, 123, 124, 112, 113, 114, 115, 105, 106, 107, 235, 236, 237, 238, 239, 240, 241, 242, 243, 244, 245, 246, 247, 248, 249, 250, 251, 252] (by decide +kernel) (by decide +kernel)) (goodIn_sub (fun _ h => List.mem_cons_of_mem _ (List.mem_append_left _ (List.mem_append_right _ h))) (by decide +kernel))
set_option maxRecDepth 20000 in
theorem gX4_perform_X4_cutLeg : GoodIn wsX4_perform (wsV RX4 151 RX4 yX4_cutLeg wsX4_cutLeg) := goodIn_app (goodIn_of _ (by decide +kernel)) ggX4_perform_X4_cutLeg
set_option maxRecDepth 20000 in
theorem ggX4_perform_X4_putShip : GoodIn wsX4_perform wsX4_putShip := goodIn_ca (goodIn_r _ [128, 18, 54, 55, 129, 130, 131, 132, 82, 133, 84, 134, 135, 136, 137, 138, 235, 236, 237, 238, 239, 240, 241, 242, 243, 244, 245, 253, 254, 255, 256, 257, 258] (by decide +kernel) (by decide +kernel)) (goodIn_sub (fun _ h => List.mem_cons_of_mem _ (List.mem_append_left _ (List.mem_append_right _ h))) (by decide +kernel))
set_option maxRecDepth 20000 in
theorem gX4_perform_X4_putShip : GoodIn wsX4_perform (wsV RX4 154 RX4 yX4_putShip wsX4_putShip) := goodIn_app (goodIn_of _ (by decide +kernel)) ggX4_perform_X4_putShip
set_option maxRecDepth 20000 in
theorem ggX4_perform_X4_payIn : GoodIn wsX4_perform wsX4_payIn := goodIn_ca (goodIn_r _ [142, 18, 54, 143, 129, 235, 236, 237, 238, 239, 240, 241, 242, 243, 244, 245, 253, 254, 255, 256, 257, 258] (by decide +kernel) (by decide +kernel)) (goodIn_sub (fun _ h => List.mem_cons_of_mem _ (List.mem_append_left _ (List.mem_append_right _ h))) (by decide +kernel))
set_option maxRecDepth 20000 in
theorem gX4_perform_X4_payIn : GoodIn wsX4_perform (wsV RX4 158 RX4 yX4_payIn wsX4_payIn) := goodIn_app (goodIn_of _ (by decide +kernel)) ggX4_perform_X4_payIn
set_option maxRecDepth 20000 in
theorem ggX4_perform_X4_letGo : GoodIn wsX4_perform wsX4_letGo := goodIn_ca (goodIn_r _ [147, 18, 54, 143, 129, 148, 149, 150, 82, 151, 84, 134, 135, 136, 137, 138, 152, 80, 81, 83, 235, 236, 237, 238, 239, 240, 241, 242, 243, 244, 245, 253, 254, 255, 256, 257, 258] (by decide +kernel) (by decide +kernel)) (goodIn_sub (fun _ h => List.mem_cons_of_mem _ (List.mem_append_left _ (List.mem_append_right _ h))) (by decide +kernel))
set_option maxRecDepth 20000 in
theorem gX4_perform_X4_letGo : GoodIn wsX4_perform (wsV RX4 161 RX4 yX4_letGo wsX4_letGo) := goodIn_app (goodIn_of _ (by decide +kernel)) ggX4_perform_X4_letGo
set_option maxRecDepth 20000 in
theorem ggX4_perform_X4_putFog : GoodIn wsX4_perform wsX4_putFog := goodIn_r _ [156, 18, 157, 235, 236, 237, 238, 239, 240, 241, 242, 243, 244, 245] (by decide +kernel) (by decide +kernel)
set_option maxRecDepth 20000 in
theorem gX4_perform_X4_putFog : GoodIn wsX4_perform (wsV RX4 165 RX4 yX4_putFog wsX4_putFog) := goodIn_app (goodIn_of _ (by decide +kernel)) ggX4_perform_X4_putFog
set_option maxRecDepth 20000 in
theorem ggX4_perform_X4_passNight : GoodIn wsX4_perform wsX4_passNight := goodIn_ca (goodIn_ca (goodIn_r _ [161, 18, 162, 163, 54, 55, 164, 165, 166, 167, 157, 19, 168, 169, 170, 171, 5, 172, 173, 174, 175, 176, 56, 177, 178, 179, 180, 181, 182, 183, 184, 57, 58, 59, 60, 61, 62, 63, 64, 65, 66, 67, 68, 69, 70, 71, 72, 73, 74, 185, 186, 187, 188, 189, 190, 191, 192, 193, 194, 195, 196, 197, 198, 199, 200, 201, 202, 203, 204, 205, 206, 207, 208, 209, 210, 211, 212, 213, 214, 215, 216, 217, 218, 219, 220, 221, 222, 223, 224, 225, 226, 227, 228, 143, 229, 230, 231, 232, 233, 29, 234, 43, 106, 107, 235, 236, 237, 238, 239, 240, 241, 242, 243, 244, 245, 253, 254, 255, 256, 257, 258, 262, 263, 264, 265, 266, 246, 247, 248, 249, 250, 251, 252, 259, 260, 261] (by decide +kernel) (by decide +kernel)) (goodIn_sub (fun _ h => List.mem_cons_of_mem _ (List.mem_append_left _ (List.mem_append_right _ h))) (by decide +kernel))) (goodIn_sub (fun _ h => List.mem_cons_of_mem _ (List.mem_append_right _ h)) (by decide +kernel))
set_option maxRecDepth 20000 in
theorem gX4_perform_X4_passNight : GoodIn wsX4_perform (wsV RX4 168 RX4 yX4_passNight wsX4_passNight) := goodIn_app (goodIn_of _ (by decide +kernel)) ggX4_perform_X4_passNight
theorem dX4_perform_0 : decode cX4_perform 0 = .ok (.aload_n 0, 1) := by decide +kernel
theorem dX4_perform_1 : decode cX4_perform 1 = .ok (.aload_n 1, 1) := by decide +kernel
theorem dX4_perform_2 : decode cX4_perform 2 = .ok (.aload_n 2, 1) := by decide +kernel
theorem dX4_perform_3 : decode cX4_perform 3 = .ok (.invokevirtual 130, 3) := by decide +kernel
theorem dX4_perform_6 : decode cX4_perform 6 = .ok (.ifCond .eq 5, 3) := by decide +kernel
theorem dX4_perform_9 : decode cX4_perform 9 = .ok (.iconst 0, 1) := by decide +kernel
theorem dX4_perform_10 : decode cX4_perform 10 = .ok (.ireturn, 1) := by decide +kernel
theorem dX4_perform_11 : decode cX4_perform 11 = .ok (.getstatic 134, 3) := by decide +kernel
theorem dX4_perform_14 : decode cX4_perform 14 = .ok (.aload_n 1, 1) := by decide +kernel
theorem dX4_perform_15 : decode cX4_perform 15 = .ok (.invokevirtual 139, 3) := by decide +kernel
theorem dX4_perform_18 : decode cX4_perform 18 = .ok (.iaload, 1) := by decide +kernel
theorem dX4_perform_19 : decode cX4_perform 19 = .ok (.tableswitch 136 1 7 #[41, 49, 69, 83, 100, 114, 125], 41) := by decide +kernel
theorem dX4_perform_60 : decode cX4_perform 60 = .ok (.aload_n 0, 1) := by decide +kernel
theorem dX4_perform_61 : decode cX4_perform 61 = .ok (.invokevirtual 144, 3) := by decide +kernel
theorem dX4_perform_64 : decode cX4_perform 64 = .ok (.pop, 1) := by decide +kernel
theorem dX4_perform_65 : decode cX4_perform 65 = .ok (.goto 95, 3) := by decide +kernel
theorem dX4_perform_68 : decode cX4_perform 68 = .ok (.aload_n 0, 1) := by decide +kernel
theorem dX4_perform_69 : decode cX4_perform 69 = .ok (.aload_n 2, 1) := by decide +kernel
theorem dX4_perform_70 : decode cX4_perform 70 = .ok (.iconst 0, 1) := by decide +kernel
theorem dX4_perform_71 : decode cX4_perform 71 = .ok (.iaload, 1) := by decide +kernel
theorem dX4_perform_72 : decode cX4_perform 72 = .ok (.aload_n 2, 1) := by decide +kernel
theorem dX4_perform_73 : decode cX4_perform 73 = .ok (.iconst 1, 1) := by decide +kernel
theorem dX4_perform_74 : decode cX4_perform 74 = .ok (.iaload, 1) := by decide +kernel
theorem dX4_perform_75 : decode cX4_perform 75 = .ok (.aload_n 2, 1) := by decide +kernel
theorem dX4_perform_76 : decode cX4_perform 76 = .ok (.iconst 2, 1) := by decide +kernel
theorem dX4_perform_77 : decode cX4_perform 77 = .ok (.iaload, 1) := by decide +kernel
theorem dX4_perform_78 : decode cX4_perform 78 = .ok (.aload_n 2, 1) := by decide +kernel
theorem dX4_perform_79 : decode cX4_perform 79 = .ok (.iconst 3, 1) := by decide +kernel
theorem dX4_perform_80 : decode cX4_perform 80 = .ok (.iaload, 1) := by decide +kernel
theorem dX4_perform_81 : decode cX4_perform 81 = .ok (.invokevirtual 147, 3) := by decide +kernel
theorem dX4_perform_84 : decode cX4_perform 84 = .ok (.pop, 1) := by decide +kernel
theorem dX4_perform_85 : decode cX4_perform 85 = .ok (.goto 75, 3) := by decide +kernel
theorem dX4_perform_88 : decode cX4_perform 88 = .ok (.aload_n 0, 1) := by decide +kernel
theorem dX4_perform_89 : decode cX4_perform 89 = .ok (.aload_n 2, 1) := by decide +kernel
theorem dX4_perform_90 : decode cX4_perform 90 = .ok (.iconst 0, 1) := by decide +kernel
theorem dX4_perform_91 : decode cX4_perform 91 = .ok (.iaload, 1) := by decide +kernel
theorem dX4_perform_92 : decode cX4_perform 92 = .ok (.aload_n 2, 1) := by decide +kernel
theorem dX4_perform_93 : decode cX4_perform 93 = .ok (.iconst 1, 1) := by decide +kernel
theorem dX4_perform_94 : decode cX4_perform 94 = .ok (.iaload, 1) := by decide +kernel
theorem dX4_perform_95 : decode cX4_perform 95 = .ok (.invokevirtual 151, 3) := by decide +kernel
theorem dX4_perform_98 : decode cX4_perform 98 = .ok (.pop, 1) := by decide +kernel
theorem dX4_perform_99 : decode cX4_perform 99 = .ok (.goto 61, 3) := by decide +kernel
theorem dX4_perform_102 : decode cX4_perform 102 = .ok (.aload_n 0, 1) := by decide +kernel
theorem dX4_perform_103 : decode cX4_perform 103 = .ok (.aload_n 2, 1) := by decide +kernel
theorem dX4_perform_104 : decode cX4_perform 104 = .ok (.iconst 0, 1) := by decide +kernel
theorem dX4_perform_105 : decode cX4_perform 105 = .ok (.iaload, 1) := by decide +kernel
theorem dX4_perform_106 : decode cX4_perform 106 = .ok (.aload_n 2, 1) := by decide +kernel
theorem dX4_perform_107 : decode cX4_perform 107 = .ok (.iconst 1, 1) := by decide +kernel
theorem dX4_perform_108 : decode cX4_perform 108 = .ok (.iaload, 1) := by decide +kernel
theorem dX4_perform_109 : decode cX4_perform 109 = .ok (.aload_n 2, 1) := by decide +kernel
theorem dX4_perform_110 : decode cX4_perform 110 = .ok (.iconst 2, 1) := by decide +kernel
theorem dX4_perform_111 : decode cX4_perform 111 = .ok (.iaload, 1) := by decide +kernel
theorem dX4_perform_112 : decode cX4_perform 112 = .ok (.invokevirtual 154, 3) := by decide +kernel
theorem dX4_perform_115 : decode cX4_perform 115 = .ok (.pop, 1) := by decide +kernel
theorem dX4_perform_116 : decode cX4_perform 116 = .ok (.goto 44, 3) := by decide +kernel
theorem dX4_perform_119 : decode cX4_perform 119 = .ok (.aload_n 0, 1) := by decide +kernel
theorem dX4_perform_120 : decode cX4_perform 120 = .ok (.aload_n 2, 1) := by decide +kernel
theorem dX4_perform_121 : decode cX4_perform 121 = .ok (.iconst 0, 1) := by decide +kernel
theorem dX4_perform_122 : decode cX4_perform 122 = .ok (.iaload, 1) := by decide +kernel
theorem dX4_perform_123 : decode cX4_perform 123 = .ok (.aload_n 2, 1) := by decide +kernel
theorem dX4_perform_124 : decode cX4_perform 124 = .ok (.iconst 1, 1) := by decide +kernel
theorem dX4_perform_125 : decode cX4_perform 125 = .ok (.iaload, 1) := by decide +kernel
theorem dX4_perform_126 : decode cX4_perform 126 = .ok (.invokevirtual 158, 3) := by decide +kernel
theorem dX4_perform_129 : decode cX4_perform 129 = .ok (.pop, 1) := by decide +kernel
theorem dX4_perform_130 : decode cX4_perform 130 = .ok (.goto 30, 3) := by decide +kernel
theorem dX4_perform_133 : decode cX4_perform 133 = .ok (.aload_n 0, 1) := by decide +kernel
theorem dX4_perform_134 : decode cX4_perform 134 = .ok (.aload_n 2, 1) := by decide +kernel
theorem dX4_perform_135 : decode cX4_perform 135 = .ok (.iconst 0, 1) := by decide +kernel
theorem dX4_perform_136 : decode cX4_perform 136 = .ok (.iaload, 1) := by decide +kernel
theorem dX4_perform_137 : decode cX4_perform 137 = .ok (.invokevirtual 161, 3) := by decide +kernel
theorem dX4_perform_140 : decode cX4_perform 140 = .ok (.pop, 1) := by decide +kernel
theorem dX4_perform_141 : decode cX4_perform 141 = .ok (.goto 19, 3) := by decide +kernel
theorem dX4_perform_144 : decode cX4_perform 144 = .ok (.aload_n 0, 1) := by decide +kernel
theorem dX4_perform_145 : decode cX4_perform 145 = .ok (.aload_n 2, 1) := by decide +kernel
theorem dX4_perform_146 : decode cX4_perform 146 = .ok (.iconst 0, 1) := by decide +kernel
theorem dX4_perform_147 : decode cX4_perform 147 = .ok (.iaload, 1) := by decide +kernel
theorem dX4_perform_148 : decode cX4_perform 148 = .ok (.invokevirtual 165, 3) := by decide +kernel
theorem dX4_perform_151 : decode cX4_perform 151 = .ok (.pop, 1) := by decide +kernel
theorem dX4_perform_152 : decode cX4_perform 152 = .ok (.goto 8, 3) := by decide +kernel
theorem dX4_perform_155 : decode cX4_perform 155 = .ok (.aload_n 0, 1) := by decide +kernel
theorem dX4_perform_156 : decode cX4_perform 156 = .ok (.invokevirtual 168, 3) := by decide +kernel
theorem dX4_perform_159 : decode cX4_perform 159 = .ok (.pop, 1) := by decide +kernel
theorem dX4_perform_160 : decode cX4_perform 160 = .ok (.iconst 1, 1) := by decide +kernel
theorem dX4_perform_161 : decode cX4_perform 161 = .ok (.ireturn, 1) := by decide +kernel
set_option maxRecDepth 20000 in
theorem ggX4_findNeed_X5_needByJoining : GoodIn wsX4_findNeed wsX5_needByJoining := goodIn_ca (goodIn_r _ [11, 12, 13, 14, 15, 16, 17, 18, 19, 10, 20, 21, 22, 23, 24, 42, 43, 44, 45, 46, 47, 48, 49, 50, 51] (by decide +kernel) (by decide +kernel)) (goodIn_sub (fun _ h => List.mem_cons_of_mem _ (List.mem_append_right _ h)) (by decide +kernel))
set_option maxRecDepth 20000 in
theorem gX4_findNeed_X5_needByJoining : GoodIn wsX4_findNeed (wsV RX4 74 RX5 yX5_needByJoining wsX5_needByJoining) := goodIn_app (goodIn_of _ (by decide +kernel)) ggX4_findNeed_X5_needByJoining
theorem dX4_findNeed_0 : decode cX4_findNeed 0 = .ok (.aload_n 0, 1) := by decide +kernel
theorem dX4_findNeed_1 : decode cX4_findNeed 1 = .ok (.getfield 21, 3) := by decide +kernel
theorem dX4_findNeed_4 : decode cX4_findNeed 4 = .ok (.aload_n 0, 1) := by decide +kernel
theorem dX4_findNeed_5 : decode cX4_findNeed 5 = .ok (.getfield 12, 3) := by decide +kernel
theorem dX4_findNeed_8 : decode cX4_findNeed 8 = .ok (.getfield 32, 3) := by decide +kernel
theorem dX4_findNeed_11 : decode cX4_findNeed 11 = .ok (.aload_n 0, 1) := by decide +kernel
theorem dX4_findNeed_12 : decode cX4_findNeed 12 = .ok (.getfield 12, 3) := by decide +kernel
theorem dX4_findNeed_15 : decode cX4_findNeed 15 = .ok (.getfield 65, 3) := by decide +kernel
theorem dX4_findNeed_18 : decode cX4_findNeed 18 = .ok (.getfield 171, 3) := by decide +kernel
theorem dX4_findNeed_21 : decode cX4_findNeed 21 = .ok (.iload_n 1, 1) := by decide +kernel
theorem dX4_findNeed_22 : decode cX4_findNeed 22 = .ok (.iaload, 1) := by decide +kernel
theorem dX4_findNeed_23 : decode cX4_findNeed 23 = .ok (.aload_n 0, 1) := by decide +kernel
theorem dX4_findNeed_24 : decode cX4_findNeed 24 = .ok (.getfield 12, 3) := by decide +kernel
theorem dX4_findNeed_27 : decode cX4_findNeed 27 = .ok (.getfield 65, 3) := by decide +kernel
theorem dX4_findNeed_30 : decode cX4_findNeed 30 = .ok (.getfield 174, 3) := by decide +kernel
theorem dX4_findNeed_33 : decode cX4_findNeed 33 = .ok (.iload_n 1, 1) := by decide +kernel
theorem dX4_findNeed_34 : decode cX4_findNeed 34 = .ok (.iaload, 1) := by decide +kernel
theorem dX4_findNeed_35 : decode cX4_findNeed 35 = .ok (.invokevirtual 74, 3) := by decide +kernel
theorem dX4_findNeed_38 : decode cX4_findNeed 38 = .ok (.ireturn, 1) := by decide +kernel
set_option maxRecDepth 20000 in
theorem ggX4_gatherAll_X7_clear : GoodIn wsX4_gatherAll wsX7_clear := goodIn_ca (goodIn_r _ [13, 14, 55, 56, 57, 58, 59] (by decide +kernel) (by decide +kernel)) (goodIn_sub (fun _ h => List.mem_cons_of_mem _ (List.mem_append_right _ h)) (by decide +kernel))
set_option maxRecDepth 20000 in
theorem gX4_gatherAll_X7_clear : GoodIn wsX4_gatherAll (wsV RX4 177 RX7 yX7_clear wsX7_clear) := goodIn_app (goodIn_of _ (by decide +kernel)) ggX4_gatherAll_X7_clear
set_option maxRecDepth 20000 in
theorem ggX4_gatherAll_X5_needByJoining : GoodIn wsX4_gatherAll wsX5_needByJoining := goodIn_ca (goodIn_r _ [19, 20, 21, 22, 23, 24, 25, 26, 27, 18, 28, 29, 30, 31, 32, 60, 61, 62, 63, 64, 65, 66, 67, 68, 69] (by decide +kernel) (by decide +kernel)) (goodIn_sub (fun _ h => List.mem_cons_of_mem _ (List.mem_append_right _ h)) (by decide +kernel))
set_option maxRecDepth 20000 in
theorem gX4_gatherAll_X5_needByJoining : GoodIn wsX4_gatherAll (wsV RX4 74 RX5 yX5_needByJoining wsX5_needByJoining) := goodIn_app (goodIn_of _ (by decide +kernel)) ggX4_gatherAll_X5_needByJoining
set_option maxRecDepth 20000 in
theorem ggX4_gatherAll_X7_enter : GoodIn wsX4_gatherAll wsX7_enter := goodIn_ca (goodIn_r _ [36, 37, 14, 55, 56, 57, 58, 59] (by decide +kernel) (by decide +kernel)) (goodIn_sub (fun _ h => List.mem_cons_of_mem _ (List.mem_append_right _ h)) (by decide +kernel))
set_option maxRecDepth 20000 in
theorem gX4_gatherAll_X7_enter : GoodIn wsX4_gatherAll (wsV RX4 180 RX7 yX7_enter wsX7_enter) := goodIn_app (goodIn_of _ (by decide +kernel)) ggX4_gatherAll_X7_enter
theorem dX4_gatherAll_0 : decode cX4_gatherAll 0 = .ok (.aload_n 0, 1) := by decide +kernel
theorem dX4_gatherAll_1 : decode cX4_gatherAll 1 = .ok (.getfield 28, 3) := by decide +kernel
theorem dX4_gatherAll_4 : decode cX4_gatherAll 4 = .ok (.invokevirtual 177, 3) := by decide +kernel
theorem dX4_gatherAll_7 : decode cX4_gatherAll 7 = .ok (.iconst 0, 1) := by decide +kernel
theorem dX4_gatherAll_8 : decode cX4_gatherAll 8 = .ok (.istore_n 1, 1) := by decide +kernel
theorem dX4_gatherAll_9 : decode cX4_gatherAll 9 = .ok (.iload_n 1, 1) := by decide +kernel
theorem dX4_gatherAll_10 : decode cX4_gatherAll 10 = .ok (.aload_n 0, 1) := by decide +kernel
theorem dX4_gatherAll_11 : decode cX4_gatherAll 11 = .ok (.getfield 12, 3) := by decide +kernel
theorem dX4_gatherAll_14 : decode cX4_gatherAll 14 = .ok (.getfield 65, 3) := by decide +kernel
theorem dX4_gatherAll_17 : decode cX4_gatherAll 17 = .ok (.getfield 69, 3) := by decide +kernel
theorem dX4_gatherAll_20 : decode cX4_gatherAll 20 = .ok (.if_icmp .ge 57, 3) := by decide +kernel
theorem dX4_gatherAll_23 : decode cX4_gatherAll 23 = .ok (.aload_n 0, 1) := by decide +kernel
theorem dX4_gatherAll_24 : decode cX4_gatherAll 24 = .ok (.getfield 21, 3) := by decide +kernel
theorem dX4_gatherAll_27 : decode cX4_gatherAll 27 = .ok (.aload_n 0, 1) := by decide +kernel
theorem dX4_gatherAll_28 : decode cX4_gatherAll 28 = .ok (.getfield 12, 3) := by decide +kernel
theorem dX4_gatherAll_31 : decode cX4_gatherAll 31 = .ok (.getfield 32, 3) := by decide +kernel
theorem dX4_gatherAll_34 : decode cX4_gatherAll 34 = .ok (.aload_n 0, 1) := by decide +kernel
theorem dX4_gatherAll_35 : decode cX4_gatherAll 35 = .ok (.getfield 12, 3) := by decide +kernel
theorem dX4_gatherAll_38 : decode cX4_gatherAll 38 = .ok (.getfield 65, 3) := by decide +kernel
theorem dX4_gatherAll_41 : decode cX4_gatherAll 41 = .ok (.getfield 171, 3) := by decide +kernel
theorem dX4_gatherAll_44 : decode cX4_gatherAll 44 = .ok (.iload_n 1, 1) := by decide +kernel
theorem dX4_gatherAll_45 : decode cX4_gatherAll 45 = .ok (.iaload, 1) := by decide +kernel
theorem dX4_gatherAll_46 : decode cX4_gatherAll 46 = .ok (.aload_n 0, 1) := by decide +kernel
theorem dX4_gatherAll_47 : decode cX4_gatherAll 47 = .ok (.getfield 12, 3) := by decide +kernel
theorem dX4_gatherAll_50 : decode cX4_gatherAll 50 = .ok (.getfield 65, 3) := by decide +kernel
theorem dX4_gatherAll_53 : decode cX4_gatherAll 53 = .ok (.getfield 174, 3) := by decide +kernel
theorem dX4_gatherAll_56 : decode cX4_gatherAll 56 = .ok (.iload_n 1, 1) := by decide +kernel
theorem dX4_gatherAll_57 : decode cX4_gatherAll 57 = .ok (.iaload, 1) := by decide +kernel
theorem dX4_gatherAll_58 : decode cX4_gatherAll 58 = .ok (.invokevirtual 74, 3) := by decide +kernel
theorem dX4_gatherAll_61 : decode cX4_gatherAll 61 = .ok (.istore_n 2, 1) := by decide +kernel
theorem dX4_gatherAll_62 : decode cX4_gatherAll 62 = .ok (.aload_n 0, 1) := by decide +kernel
theorem dX4_gatherAll_63 : decode cX4_gatherAll 63 = .ok (.getfield 28, 3) := by decide +kernel
theorem dX4_gatherAll_66 : decode cX4_gatherAll 66 = .ok (.iload_n 1, 1) := by decide +kernel
theorem dX4_gatherAll_67 : decode cX4_gatherAll 67 = .ok (.iload_n 2, 1) := by decide +kernel
theorem dX4_gatherAll_68 : decode cX4_gatherAll 68 = .ok (.invokevirtual 180, 3) := by decide +kernel
theorem dX4_gatherAll_71 : decode cX4_gatherAll 71 = .ok (.iinc 1 1, 3) := by decide +kernel
theorem dX4_gatherAll_74 : decode cX4_gatherAll 74 = .ok (.goto (-65), 3) := by decide +kernel
theorem dX4_gatherAll_77 : decode cX4_gatherAll 77 = .ok (.return_, 1) := by decide +kernel
set_option maxRecDepth 20000 in
theorem ggX4_planNight_X4_gatherAll : GoodIn wsX4_planNight wsX4_gatherAll := goodIn_ca (goodIn_r _ [8, 1, 2, 3, 9, 10, 11, 12, 13, 14, 15, 16, 17, 18, 19, 20, 21, 22, 23, 24, 25, 26, 27, 28, 29, 30, 31, 32, 33, 34, 35, 36, 37, 38, 39, 40, 41, 42, 77, 78, 79, 80, 81, 82, 83, 84, 85, 86, 87, 88, 89, 90, 91, 92, 93, 94, 95, 96, 97, 98, 99, 100, 101, 102, 103, 104, 105, 106, 107, 108] (by decide +kernel) (by decide +kernel)) (goodIn_sub (fun _ h => List.mem_cons_of_mem _ (List.mem_append_left _ (List.mem_append_right _ h))) (by decide +kernel))
set_option maxRecDepth 20000 in
theorem gX4_planNight_X4_gatherAll : GoodIn wsX4_planNight (wsV RX4 183 RX4 yX4_gatherAll wsX4_gatherAll) := goodIn_app (goodIn_of _ (by decide +kernel)) ggX4_planNight_X4_gatherAll
set_option maxRecDepth 20000 in
theorem ggX4_planNight_X7_dropThoseWhoCannotPay : GoodIn wsX4_planNight wsX7_dropThoseWhoCannotPay := goodIn_ca (goodIn_ca (goodIn_r _ [46, 19, 47, 48, 49, 17, 50, 51, 52, 53, 54, 55, 42, 56, 57, 58, 59, 60, 61, 62, 63, 64, 65, 66, 67, 68, 69, 70, 71, 72, 73, 74, 75, 76, 94, 95, 96, 97, 98, 88, 89, 90, 91, 92, 93] (by decide +kernel) (by decide +kernel)) (goodIn_sub (fun _ h => List.mem_cons_of_mem _ (List.mem_append_left _ (List.mem_append_right _ h))) (by decide +kernel))) (goodIn_sub (fun _ h => List.mem_cons_of_mem _ (List.mem_append_right _ h)) (by decide +kernel))
set_option maxRecDepth 20000 in
theorem gX4_planNight_X7_dropThoseWhoCannotPay : GoodIn wsX4_planNight (wsV RX4 186 RX7 yX7_dropThoseWhoCannotPay wsX7_dropThoseWhoCannotPay) := goodIn_app (goodIn_of _ (by decide +kernel)) ggX4_planNight_X7_dropThoseWhoCannotPay
theorem dX4_planNight_0 : decode cX4_planNight 0 = .ok (.aload_n 0, 1) := by decide +kernel
theorem dX4_planNight_1 : decode cX4_planNight 1 = .ok (.invokevirtual 183, 3) := by decide +kernel
theorem dX4_planNight_4 : decode cX4_planNight 4 = .ok (.aload_n 0, 1) := by decide +kernel
theorem dX4_planNight_5 : decode cX4_planNight 5 = .ok (.getfield 28, 3) := by decide +kernel
theorem dX4_planNight_8 : decode cX4_planNight 8 = .ok (.aload_n 0, 1) := by decide +kernel
theorem dX4_planNight_9 : decode cX4_planNight 9 = .ok (.getfield 12, 3) := by decide +kernel
theorem dX4_planNight_12 : decode cX4_planNight 12 = .ok (.getfield 65, 3) := by decide +kernel
theorem dX4_planNight_15 : decode cX4_planNight 15 = .ok (.invokevirtual 186, 3) := by decide +kernel
theorem dX4_planNight_18 : decode cX4_planNight 18 = .ok (.return_, 1) := by decide +kernel
set_option maxRecDepth 20000 in
theorem ggX4_routesAgree_X4_pairAgrees : GoodIn wsX4_routesAgree wsX4_pairAgrees := goodIn_ca (goodIn_r _ [8, 9, 1, 2, 10, 11, 12, 13, 14, 15, 16, 17, 18, 19, 20, 21, 22, 23, 24, 25, 26, 27, 28, 29, 30, 31, 32, 33, 34, 35, 36, 37, 38, 39, 40, 41, 42, 43, 44, 45, 46, 47, 48, 49, 50, 51, 52, 53, 54, 55, 56, 57, 58, 59, 60, 61, 62, 63, 64, 65, 66, 67, 68, 69, 70, 71, 72, 73, 74, 75, 76, 77, 78, 79, 80, 81, 82, 83, 84] (by decide +kernel) (by decide +kernel)) (goodIn_sub (fun _ h => List.mem_cons_of_mem _ (List.mem_append_right _ h)) (by decide +kernel))
set_option maxRecDepth 20000 in
theorem gX4_routesAgree_X4_pairAgrees : GoodIn wsX4_routesAgree (wsV RX4 190 RX4 yX4_pairAgrees wsX4_pairAgrees) := goodIn_app (goodIn_of _ (by decide +kernel)) ggX4_routesAgree_X4_pairAgrees
theorem dX4_routesAgree_0 : decode cX4_routesAgree 0 = .ok (.iconst 0, 1) := by decide +kernel
theorem dX4_routesAgree_1 : decode cX4_routesAgree 1 = .ok (.istore_n 1, 1) := by decide +kernel
theorem dX4_routesAgree_2 : decode cX4_routesAgree 2 = .ok (.iload_n 1, 1) := by decide +kernel
theorem dX4_routesAgree_3 : decode cX4_routesAgree 3 = .ok (.aload_n 0, 1) := by decide +kernel
theorem dX4_routesAgree_4 : decode cX4_routesAgree 4 = .ok (.getfield 12, 3) := by decide +kernel
theorem dX4_routesAgree_7 : decode cX4_routesAgree 7 = .ok (.getfield 32, 3) := by decide +kernel
theorem dX4_routesAgree_10 : decode cX4_routesAgree 10 = .ok (.getfield 36, 3) := by decide +kernel
theorem dX4_routesAgree_13 : decode cX4_routesAgree 13 = .ok (.if_icmp .ge 47, 3) := by decide +kernel
theorem dX4_routesAgree_16 : decode cX4_routesAgree 16 = .ok (.iconst 0, 1) := by decide +kernel
theorem dX4_routesAgree_17 : decode cX4_routesAgree 17 = .ok (.istore_n 2, 1) := by decide +kernel
theorem dX4_routesAgree_18 : decode cX4_routesAgree 18 = .ok (.iload_n 2, 1) := by decide +kernel
theorem dX4_routesAgree_19 : decode cX4_routesAgree 19 = .ok (.aload_n 0, 1) := by decide +kernel
theorem dX4_routesAgree_20 : decode cX4_routesAgree 20 = .ok (.getfield 12, 3) := by decide +kernel
theorem dX4_routesAgree_23 : decode cX4_routesAgree 23 = .ok (.getfield 32, 3) := by decide +kernel
theorem dX4_routesAgree_26 : decode cX4_routesAgree 26 = .ok (.getfield 36, 3) := by decide +kernel
theorem dX4_routesAgree_29 : decode cX4_routesAgree 29 = .ok (.if_icmp .ge 25, 3) := by decide +kernel
theorem dX4_routesAgree_32 : decode cX4_routesAgree 32 = .ok (.iload_n 1, 1) := by decide +kernel
theorem dX4_routesAgree_33 : decode cX4_routesAgree 33 = .ok (.iload_n 2, 1) := by decide +kernel
theorem dX4_routesAgree_34 : decode cX4_routesAgree 34 = .ok (.if_icmp .eq 14, 3) := by decide +kernel
theorem dX4_routesAgree_37 : decode cX4_routesAgree 37 = .ok (.aload_n 0, 1) := by decide +kernel
theorem dX4_routesAgree_38 : decode cX4_routesAgree 38 = .ok (.iload_n 1, 1) := by decide +kernel
theorem dX4_routesAgree_39 : decode cX4_routesAgree 39 = .ok (.iload_n 2, 1) := by decide +kernel
theorem dX4_routesAgree_40 : decode cX4_routesAgree 40 = .ok (.invokevirtual 190, 3) := by decide +kernel
theorem dX4_routesAgree_43 : decode cX4_routesAgree 43 = .ok (.ifCond .ne 5, 3) := by decide +kernel
theorem dX4_routesAgree_46 : decode cX4_routesAgree 46 = .ok (.iconst 0, 1) := by decide +kernel
theorem dX4_routesAgree_47 : decode cX4_routesAgree 47 = .ok (.ireturn, 1) := by decide +kernel
theorem dX4_routesAgree_48 : decode cX4_routesAgree 48 = .ok (.iinc 2 1, 3) := by decide +kernel
theorem dX4_routesAgree_51 : decode cX4_routesAgree 51 = .ok (.goto (-33), 3) := by decide +kernel
theorem dX4_routesAgree_54 : decode cX4_routesAgree 54 = .ok (.iinc 1 1, 3) := by decide +kernel
theorem dX4_routesAgree_57 : decode cX4_routesAgree 57 = .ok (.goto (-55), 3) := by decide +kernel
theorem dX4_routesAgree_60 : decode cX4_routesAgree 60 = .ok (.iconst 1, 1) := by decide +kernel
theorem dX4_routesAgree_61 : decode cX4_routesAgree 61 = .ok (.ireturn, 1) := by decide +kernel
set_option maxRecDepth 20000 in
theorem ggX4_sharesAgree_X4_gatherAll : GoodIn wsX4_sharesAgree wsX4_gatherAll := goodIn_ca (goodIn_r _ [10, 1, 2, 3, 4, 11, 12, 13, 14, 15, 16, 17, 18, 19, 20, 21, 22, 23, 24, 25, 26, 27, 28, 29, 30, 31, 32, 33, 34, 35, 36, 37, 38, 39, 40, 41, 42, 43, 94, 95, 96, 97, 98, 99, 100, 101, 102, 103, 104, 105, 106, 107, 108, 109, 110, 111, 112, 113, 114, 115, 116, 117, 118, 119, 120, 121, 122, 123, 124, 125] (by decide +kernel) (by decide +kernel)) (goodIn_sub (fun _ h => List.mem_cons_of_mem _ (List.mem_append_left _ (List.mem_append_right _ h))) (by decide +kernel))
set_option maxRecDepth 20000 in
theorem gX4_sharesAgree_X4_gatherAll : GoodIn wsX4_sharesAgree (wsV RX4 183 RX4 yX4_gatherAll wsX4_gatherAll) := goodIn_app (goodIn_of _ (by decide +kernel)) ggX4_sharesAgree_X4_gatherAll
set_option maxRecDepth 20000 in
theorem ggX4_sharesAgree_X7_divide : GoodIn wsX4_sharesAgree wsX7_divide := goodIn_ca (goodIn_ca (goodIn_r _ [47, 48, 20, 49, 50, 51, 18, 52, 43, 53, 54, 55, 56, 57, 58, 59, 60, 61, 62, 63, 64, 65, 66, 67, 111, 112, 113, 114, 115] (by decide +kernel) (by decide +kernel)) (goodIn_sub (fun _ h => List.mem_cons_of_mem _ (List.mem_append_left _ (List.mem_append_right _ h))) (by decide +kernel))) (goodIn_sub (fun _ h => List.mem_cons_of_mem _ (List.mem_append_right _ h)) (by decide +kernel))
set_option maxRecDepth 20000 in
theorem gX4_sharesAgree_X7_divide : GoodIn wsX4_sharesAgree (wsV RX4 193 RX7 yX7_divide wsX7_divide) := goodIn_app (goodIn_of _ (by decide +kernel)) ggX4_sharesAgree_X7_divide
set_option maxRecDepth 20000 in
theorem ggX4_sharesAgree_X7_meanOverOrders : GoodIn wsX4_sharesAgree wsX7_meanOverOrders := goodIn_ca (goodIn_ca (goodIn_r _ [71, 20, 72, 73, 74, 18, 75, 76, 77, 78, 79, 80, 81, 43, 82, 83, 84, 85, 61, 62, 63, 86, 87, 88, 89, 90, 91, 92, 93, 111, 112, 113, 114, 115] (by decide +kernel) (by decide +kernel)) (goodIn_sub (fun _ h => List.mem_cons_of_mem _ (List.mem_append_left _ (List.mem_append_right _ h))) (by decide +kernel))) (goodIn_sub (fun _ h => List.mem_cons_of_mem _ (List.mem_append_right _ h)) (by decide +kernel))
set_option maxRecDepth 20000 in
theorem gX4_sharesAgree_X7_meanOverOrders : GoodIn wsX4_sharesAgree (wsV RX4 196 RX7 yX7_meanOverOrders wsX7_meanOverOrders) := goodIn_app (goodIn_of _ (by decide +kernel)) ggX4_sharesAgree_X7_meanOverOrders
theorem dX4_sharesAgree_0 : decode cX4_sharesAgree 0 = .ok (.aload_n 0, 1) := by decide +kernel
theorem dX4_sharesAgree_1 : decode cX4_sharesAgree 1 = .ok (.invokevirtual 183, 3) := by decide +kernel
theorem dX4_sharesAgree_4 : decode cX4_sharesAgree 4 = .ok (.aload_n 0, 1) := by decide +kernel
theorem dX4_sharesAgree_5 : decode cX4_sharesAgree 5 = .ok (.getfield 28, 3) := by decide +kernel
theorem dX4_sharesAgree_8 : decode cX4_sharesAgree 8 = .ok (.invokevirtual 193, 3) := by decide +kernel
theorem dX4_sharesAgree_11 : decode cX4_sharesAgree 11 = .ok (.iconst 0, 1) := by decide +kernel
theorem dX4_sharesAgree_12 : decode cX4_sharesAgree 12 = .ok (.istore_n 1, 1) := by decide +kernel
theorem dX4_sharesAgree_13 : decode cX4_sharesAgree 13 = .ok (.iload_n 1, 1) := by decide +kernel
theorem dX4_sharesAgree_14 : decode cX4_sharesAgree 14 = .ok (.aload_n 0, 1) := by decide +kernel
theorem dX4_sharesAgree_15 : decode cX4_sharesAgree 15 = .ok (.getfield 12, 3) := by decide +kernel
theorem dX4_sharesAgree_18 : decode cX4_sharesAgree 18 = .ok (.getfield 65, 3) := by decide +kernel
theorem dX4_sharesAgree_21 : decode cX4_sharesAgree 21 = .ok (.getfield 69, 3) := by decide +kernel
theorem dX4_sharesAgree_24 : decode cX4_sharesAgree 24 = .ok (.if_icmp .ge 31, 3) := by decide +kernel
theorem dX4_sharesAgree_27 : decode cX4_sharesAgree 27 = .ok (.aload_n 0, 1) := by decide +kernel
theorem dX4_sharesAgree_28 : decode cX4_sharesAgree 28 = .ok (.getfield 28, 3) := by decide +kernel
theorem dX4_sharesAgree_31 : decode cX4_sharesAgree 31 = .ok (.getfield 111, 3) := by decide +kernel
theorem dX4_sharesAgree_34 : decode cX4_sharesAgree 34 = .ok (.iload_n 1, 1) := by decide +kernel
theorem dX4_sharesAgree_35 : decode cX4_sharesAgree 35 = .ok (.iaload, 1) := by decide +kernel
theorem dX4_sharesAgree_36 : decode cX4_sharesAgree 36 = .ok (.aload_n 0, 1) := by decide +kernel
theorem dX4_sharesAgree_37 : decode cX4_sharesAgree 37 = .ok (.getfield 28, 3) := by decide +kernel
theorem dX4_sharesAgree_40 : decode cX4_sharesAgree 40 = .ok (.iload_n 1, 1) := by decide +kernel
theorem dX4_sharesAgree_41 : decode cX4_sharesAgree 41 = .ok (.invokevirtual 196, 3) := by decide +kernel
theorem dX4_sharesAgree_44 : decode cX4_sharesAgree 44 = .ok (.if_icmp .eq 5, 3) := by decide +kernel
theorem dX4_sharesAgree_47 : decode cX4_sharesAgree 47 = .ok (.iconst 0, 1) := by decide +kernel
theorem dX4_sharesAgree_48 : decode cX4_sharesAgree 48 = .ok (.ireturn, 1) := by decide +kernel
theorem dX4_sharesAgree_49 : decode cX4_sharesAgree 49 = .ok (.iinc 1 1, 3) := by decide +kernel
theorem dX4_sharesAgree_52 : decode cX4_sharesAgree 52 = .ok (.goto (-39), 3) := by decide +kernel
theorem dX4_sharesAgree_55 : decode cX4_sharesAgree 55 = .ok (.iconst 1, 1) := by decide +kernel
theorem dX4_sharesAgree_56 : decode cX4_sharesAgree 56 = .ok (.ireturn, 1) := by decide +kernel
set_option maxRecDepth 20000 in
theorem ggX4_moneyAddsUp_X8_totalMoney : GoodIn wsX4_moneyAddsUp wsX8_totalMoney := goodIn_ca (goodIn_r _ [9, 10, 11, 23, 24, 25, 26, 27, 28] (by decide +kernel) (by decide +kernel)) (goodIn_sub (fun _ h => List.mem_cons_of_mem _ (List.mem_append_right _ h)) (by decide +kernel))
set_option maxRecDepth 20000 in
theorem gX4_moneyAddsUp_X8_totalMoney : GoodIn wsX4_moneyAddsUp (wsV RX4 199 RX8 yX8_totalMoney wsX8_totalMoney) := goodIn_app (goodIn_of _ (by decide +kernel)) ggX4_moneyAddsUp_X8_totalMoney
theorem dX4_moneyAddsUp_0 : decode cX4_moneyAddsUp 0 = .ok (.aload_n 0, 1) := by decide +kernel
theorem dX4_moneyAddsUp_1 : decode cX4_moneyAddsUp 1 = .ok (.getfield 12, 3) := by decide +kernel
theorem dX4_moneyAddsUp_4 : decode cX4_moneyAddsUp 4 = .ok (.getfield 65, 3) := by decide +kernel
theorem dX4_moneyAddsUp_7 : decode cX4_moneyAddsUp 7 = .ok (.invokevirtual 199, 3) := by decide +kernel
theorem dX4_moneyAddsUp_10 : decode cX4_moneyAddsUp 10 = .ok (.aload_n 0, 1) := by decide +kernel
theorem dX4_moneyAddsUp_11 : decode cX4_moneyAddsUp 11 = .ok (.getfield 12, 3) := by decide +kernel
theorem dX4_moneyAddsUp_14 : decode cX4_moneyAddsUp 14 = .ok (.getfield 203, 3) := by decide +kernel
theorem dX4_moneyAddsUp_17 : decode cX4_moneyAddsUp 17 = .ok (.ladd, 1) := by decide +kernel
theorem dX4_moneyAddsUp_18 : decode cX4_moneyAddsUp 18 = .ok (.aload_n 0, 1) := by decide +kernel
theorem dX4_moneyAddsUp_19 : decode cX4_moneyAddsUp 19 = .ok (.getfield 12, 3) := by decide +kernel
theorem dX4_moneyAddsUp_22 : decode cX4_moneyAddsUp 22 = .ok (.getfield 82, 3) := by decide +kernel
theorem dX4_moneyAddsUp_25 : decode cX4_moneyAddsUp 25 = .ok (.lcmp, 1) := by decide +kernel
theorem dX4_moneyAddsUp_26 : decode cX4_moneyAddsUp 26 = .ok (.ifCond .ne 7, 3) := by decide +kernel
theorem dX4_moneyAddsUp_29 : decode cX4_moneyAddsUp 29 = .ok (.iconst 1, 1) := by decide +kernel
theorem dX4_moneyAddsUp_30 : decode cX4_moneyAddsUp 30 = .ok (.goto 4, 3) := by decide +kernel
theorem dX4_moneyAddsUp_33 : decode cX4_moneyAddsUp 33 = .ok (.iconst 0, 1) := by decide +kernel
theorem dX4_moneyAddsUp_34 : decode cX4_moneyAddsUp 34 = .ok (.ireturn, 1) := by decide +kernel
set_option maxRecDepth 20000 in
theorem ggX4_pairAgrees_X5_lengthByNearest : GoodIn wsX4_pairAgrees wsX5_lengthByNearest := goodIn_ca (goodIn_r _ [8, 9, 10, 11, 12, 13, 14, 7, 15, 16, 17, 18, 19, 20, 21, 22, 23, 24, 25, 26, 27, 28, 29, 30, 31, 32, 69, 70, 71, 72, 73, 74, 75, 76, 77, 78] (by decide +kernel) (by decide +kernel)) (goodIn_sub (fun _ h => List.mem_cons_of_mem _ (List.mem_append_right _ h)) (by decide +kernel))
set_option maxRecDepth 20000 in
theorem gX4_pairAgrees_X5_lengthByNearest : GoodIn wsX4_pairAgrees (wsV RX4 206 RX5 yX5_lengthByNearest wsX5_lengthByNearest) := goodIn_app (goodIn_of _ (by decide +kernel)) ggX4_pairAgrees_X5_lengthByNearest
set_option maxRecDepth 20000 in
theorem ggX4_pairAgrees_X5_lengthByRounds : GoodIn wsX4_pairAgrees wsX5_lengthByRounds := goodIn_ca (goodIn_r _ [36, 24, 26, 27, 28, 10, 12, 13, 14, 7, 15, 11, 29, 30, 31, 32, 69, 70, 71, 72, 73, 74, 75, 76, 77, 78] (by decide +kernel) (by decide +kernel)) (goodIn_sub (fun _ h => List.mem_cons_of_mem _ (List.mem_append_right _ h)) (by decide +kernel))
set_option maxRecDepth 20000 in
theorem gX4_pairAgrees_X5_lengthByRounds : GoodIn wsX4_pairAgrees (wsV RX4 210 RX5 yX5_lengthByRounds wsX5_lengthByRounds) := goodIn_app (goodIn_of _ (by decide +kernel)) ggX4_pairAgrees_X5_lengthByRounds
set_option maxRecDepth 20000 in
theorem ggX4_pairAgrees_X5_needByJoining : GoodIn wsX4_pairAgrees wsX5_needByJoining := goodIn_ca (goodIn_r _ [40, 24, 26, 27, 41, 25, 42, 43, 44, 7, 45, 46, 47, 48, 49, 69, 70, 71, 72, 73, 74, 75, 76, 77, 78] (by decide +kernel) (by decide +kernel)) (goodIn_sub (fun _ h => List.mem_cons_of_mem _ (List.mem_append_right _ h)) (by decide +kernel))
set_option maxRecDepth 20000 in
theorem gX4_pairAgrees_X5_needByJoining : GoodIn wsX4_pairAgrees (wsV RX4 74 RX5 yX5_needByJoining wsX5_needByJoining) := goodIn_app (goodIn_of _ (by decide +kernel)) ggX4_pairAgrees_X5_needByJoining
set_option maxRecDepth 20000 in
theorem ggX4_pairAgrees_X5_needByTrial : GoodIn wsX4_pairAgrees wsX5_needByTrial := goodIn_ca (goodIn_r _ [53, 54, 55, 56, 7, 57, 11, 24, 26, 27, 25, 76, 77, 78, 69, 70, 71, 72, 73, 74, 75] (by decide +kernel) (by decide +kernel)) (goodIn_sub (fun _ h => List.mem_cons_of_mem _ (List.mem_append_right _ h)) (by decide +kernel))
set_option maxRecDepth 20000 in
theorem gX4_pairAgrees_X5_needByTrial : GoodIn wsX4_pairAgrees (wsV RX4 213 RX5 yX5_needByTrial wsX5_needByTrial) := goodIn_app (goodIn_of _ (by decide +kernel)) ggX4_pairAgrees_X5_needByTrial
theorem dX4_pairAgrees_0 : decode cX4_pairAgrees 0 = .ok (.aload_n 0, 1) := by decide +kernel
theorem dX4_pairAgrees_1 : decode cX4_pairAgrees 1 = .ok (.getfield 21, 3) := by decide +kernel
theorem dX4_pairAgrees_4 : decode cX4_pairAgrees 4 = .ok (.aload_n 0, 1) := by decide +kernel
theorem dX4_pairAgrees_5 : decode cX4_pairAgrees 5 = .ok (.getfield 12, 3) := by decide +kernel
theorem dX4_pairAgrees_8 : decode cX4_pairAgrees 8 = .ok (.getfield 32, 3) := by decide +kernel
theorem dX4_pairAgrees_11 : decode cX4_pairAgrees 11 = .ok (.iload_n 1, 1) := by decide +kernel
theorem dX4_pairAgrees_12 : decode cX4_pairAgrees 12 = .ok (.iload_n 2, 1) := by decide +kernel
theorem dX4_pairAgrees_13 : decode cX4_pairAgrees 13 = .ok (.bipush 20, 2) := by decide +kernel
theorem dX4_pairAgrees_15 : decode cX4_pairAgrees 15 = .ok (.invokevirtual 206, 3) := by decide +kernel
theorem dX4_pairAgrees_18 : decode cX4_pairAgrees 18 = .ok (.istore_n 3, 1) := by decide +kernel
theorem dX4_pairAgrees_19 : decode cX4_pairAgrees 19 = .ok (.aload_n 0, 1) := by decide +kernel
theorem dX4_pairAgrees_20 : decode cX4_pairAgrees 20 = .ok (.getfield 21, 3) := by decide +kernel
theorem dX4_pairAgrees_23 : decode cX4_pairAgrees 23 = .ok (.aload_n 0, 1) := by decide +kernel
theorem dX4_pairAgrees_24 : decode cX4_pairAgrees 24 = .ok (.getfield 12, 3) := by decide +kernel
theorem dX4_pairAgrees_27 : decode cX4_pairAgrees 27 = .ok (.getfield 32, 3) := by decide +kernel
theorem dX4_pairAgrees_30 : decode cX4_pairAgrees 30 = .ok (.iload_n 1, 1) := by decide +kernel
theorem dX4_pairAgrees_31 : decode cX4_pairAgrees 31 = .ok (.iload_n 2, 1) := by decide +kernel
theorem dX4_pairAgrees_32 : decode cX4_pairAgrees 32 = .ok (.invokevirtual 210, 3) := by decide +kernel
theorem dX4_pairAgrees_35 : decode cX4_pairAgrees 35 = .ok (.istore 4, 2) := by decide +kernel
theorem dX4_pairAgrees_37 : decode cX4_pairAgrees 37 = .ok (.aload_n 0, 1) := by decide +kernel
theorem dX4_pairAgrees_38 : decode cX4_pairAgrees 38 = .ok (.getfield 21, 3) := by decide +kernel
theorem dX4_pairAgrees_41 : decode cX4_pairAgrees 41 = .ok (.aload_n 0, 1) := by decide +kernel
theorem dX4_pairAgrees_42 : decode cX4_pairAgrees 42 = .ok (.getfield 12, 3) := by decide +kernel
theorem dX4_pairAgrees_45 : decode cX4_pairAgrees 45 = .ok (.getfield 32, 3) := by decide +kernel
theorem dX4_pairAgrees_48 : decode cX4_pairAgrees 48 = .ok (.iload_n 1, 1) := by decide +kernel
theorem dX4_pairAgrees_49 : decode cX4_pairAgrees 49 = .ok (.iload_n 2, 1) := by decide +kernel
theorem dX4_pairAgrees_50 : decode cX4_pairAgrees 50 = .ok (.invokevirtual 74, 3) := by decide +kernel
theorem dX4_pairAgrees_53 : decode cX4_pairAgrees 53 = .ok (.istore 5, 2) := by decide +kernel
theorem dX4_pairAgrees_55 : decode cX4_pairAgrees 55 = .ok (.aload_n 0, 1) := by decide +kernel
theorem dX4_pairAgrees_56 : decode cX4_pairAgrees 56 = .ok (.getfield 21, 3) := by decide +kernel
theorem dX4_pairAgrees_59 : decode cX4_pairAgrees 59 = .ok (.aload_n 0, 1) := by decide +kernel
theorem dX4_pairAgrees_60 : decode cX4_pairAgrees 60 = .ok (.getfield 12, 3) := by decide +kernel
theorem dX4_pairAgrees_63 : decode cX4_pairAgrees 63 = .ok (.getfield 32, 3) := by decide +kernel
theorem dX4_pairAgrees_66 : decode cX4_pairAgrees 66 = .ok (.iload_n 1, 1) := by decide +kernel
theorem dX4_pairAgrees_67 : decode cX4_pairAgrees 67 = .ok (.iload_n 2, 1) := by decide +kernel
theorem dX4_pairAgrees_68 : decode cX4_pairAgrees 68 = .ok (.invokevirtual 213, 3) := by decide +kernel
theorem dX4_pairAgrees_71 : decode cX4_pairAgrees 71 = .ok (.istore 6, 2) := by decide +kernel
theorem dX4_pairAgrees_73 : decode cX4_pairAgrees 73 = .ok (.iload_n 3, 1) := by decide +kernel
theorem dX4_pairAgrees_74 : decode cX4_pairAgrees 74 = .ok (.iload 4, 2) := by decide +kernel
theorem dX4_pairAgrees_76 : decode cX4_pairAgrees 76 = .ok (.if_icmp .ne 14, 3) := by decide +kernel
theorem dX4_pairAgrees_79 : decode cX4_pairAgrees 79 = .ok (.iload 5, 2) := by decide +kernel
theorem dX4_pairAgrees_81 : decode cX4_pairAgrees 81 = .ok (.iload 6, 2) := by decide +kernel
theorem dX4_pairAgrees_83 : decode cX4_pairAgrees 83 = .ok (.if_icmp .ne 7, 3) := by decide +kernel
theorem dX4_pairAgrees_86 : decode cX4_pairAgrees 86 = .ok (.iconst 1, 1) := by decide +kernel
theorem dX4_pairAgrees_87 : decode cX4_pairAgrees 87 = .ok (.goto 4, 3) := by decide +kernel
theorem dX4_pairAgrees_90 : decode cX4_pairAgrees 90 = .ok (.iconst 0, 1) := by decide +kernel
theorem dX4_pairAgrees_91 : decode cX4_pairAgrees 91 = .ok (.ireturn, 1) := by decide +kernel
theorem dX4_charge_0 : decode cX4_charge 0 = .ok (.aload_n 0, 1) := by decide +kernel
theorem dX4_charge_1 : decode cX4_charge 1 = .ok (.getfield 12, 3) := by decide +kernel
theorem dX4_charge_4 : decode cX4_charge 4 = .ok (.getfield 65, 3) := by decide +kernel
theorem dX4_charge_7 : decode cX4_charge 7 = .ok (.getfield 90, 3) := by decide +kernel
theorem dX4_charge_10 : decode cX4_charge 10 = .ok (.iload_n 1, 1) := by decide +kernel
theorem dX4_charge_11 : decode cX4_charge 11 = .ok (.dup2, 1) := by decide +kernel
theorem dX4_charge_12 : decode cX4_charge 12 = .ok (.iaload, 1) := by decide +kernel
theorem dX4_charge_13 : decode cX4_charge 13 = .ok (.iload_n 2, 1) := by decide +kernel
theorem dX4_charge_14 : decode cX4_charge 14 = .ok (.isub, 1) := by decide +kernel
theorem dX4_charge_15 : decode cX4_charge 15 = .ok (.iastore, 1) := by decide +kernel
theorem dX4_charge_16 : decode cX4_charge 16 = .ok (.aload_n 0, 1) := by decide +kernel
theorem dX4_charge_17 : decode cX4_charge 17 = .ok (.getfield 12, 3) := by decide +kernel
theorem dX4_charge_20 : decode cX4_charge 20 = .ok (.dup, 1) := by decide +kernel
theorem dX4_charge_21 : decode cX4_charge 21 = .ok (.getfield 203, 3) := by decide +kernel
theorem dX4_charge_24 : decode cX4_charge 24 = .ok (.iload_n 2, 1) := by decide +kernel
theorem dX4_charge_25 : decode cX4_charge 25 = .ok (.i2l, 1) := by decide +kernel
theorem dX4_charge_26 : decode cX4_charge 26 = .ok (.ladd, 1) := by decide +kernel
theorem dX4_charge_27 : decode cX4_charge 27 = .ok (.putfield 203, 3) := by decide +kernel
theorem dX4_charge_30 : decode cX4_charge 30 = .ok (.aload_n 0, 1) := by decide +kernel
theorem dX4_charge_31 : decode cX4_charge 31 = .ok (.getfield 12, 3) := by decide +kernel
theorem dX4_charge_34 : decode cX4_charge 34 = .ok (.getfield 94, 3) := by decide +kernel
theorem dX4_charge_37 : decode cX4_charge 37 = .ok (.ifCond .le 51, 3) := by decide +kernel
theorem dX4_charge_40 : decode cX4_charge 40 = .ok (.iload_n 2, 1) := by decide +kernel
theorem dX4_charge_41 : decode cX4_charge 41 = .ok (.iconst 2, 1) := by decide +kernel
theorem dX4_charge_42 : decode cX4_charge 42 = .ok (.idiv, 1) := by decide +kernel
theorem dX4_charge_43 : decode cX4_charge 43 = .ok (.istore_n 3, 1) := by decide +kernel
theorem dX4_charge_44 : decode cX4_charge 44 = .ok (.aload_n 0, 1) := by decide +kernel
theorem dX4_charge_45 : decode cX4_charge 45 = .ok (.getfield 12, 3) := by decide +kernel
theorem dX4_charge_48 : decode cX4_charge 48 = .ok (.getfield 65, 3) := by decide +kernel
theorem dX4_charge_51 : decode cX4_charge 51 = .ok (.getfield 90, 3) := by decide +kernel
theorem dX4_charge_54 : decode cX4_charge 54 = .ok (.iload_n 1, 1) := by decide +kernel
theorem dX4_charge_55 : decode cX4_charge 55 = .ok (.dup2, 1) := by decide +kernel
theorem dX4_charge_56 : decode cX4_charge 56 = .ok (.iaload, 1) := by decide +kernel
theorem dX4_charge_57 : decode cX4_charge 57 = .ok (.iload_n 3, 1) := by decide +kernel
theorem dX4_charge_58 : decode cX4_charge 58 = .ok (.iadd, 1) := by decide +kernel
theorem dX4_charge_59 : decode cX4_charge 59 = .ok (.iastore, 1) := by decide +kernel
theorem dX4_charge_60 : decode cX4_charge 60 = .ok (.aload_n 0, 1) := by decide +kernel
theorem dX4_charge_61 : decode cX4_charge 61 = .ok (.getfield 12, 3) := by decide +kernel
theorem dX4_charge_64 : decode cX4_charge 64 = .ok (.dup, 1) := by decide +kernel
theorem dX4_charge_65 : decode cX4_charge 65 = .ok (.getfield 203, 3) := by decide +kernel
theorem dX4_charge_68 : decode cX4_charge 68 = .ok (.iload_n 3, 1) := by decide +kernel
theorem dX4_charge_69 : decode cX4_charge 69 = .ok (.i2l, 1) := by decide +kernel
theorem dX4_charge_70 : decode cX4_charge 70 = .ok (.lsub, 1) := by decide +kernel
theorem dX4_charge_71 : decode cX4_charge 71 = .ok (.putfield 203, 3) := by decide +kernel
theorem dX4_charge_74 : decode cX4_charge 74 = .ok (.aload_n 0, 1) := by decide +kernel
theorem dX4_charge_75 : decode cX4_charge 75 = .ok (.getfield 12, 3) := by decide +kernel
theorem dX4_charge_78 : decode cX4_charge 78 = .ok (.dup, 1) := by decide +kernel
theorem dX4_charge_79 : decode cX4_charge 79 = .ok (.getfield 216, 3) := by decide +kernel
theorem dX4_charge_82 : decode cX4_charge 82 = .ok (.iload_n 3, 1) := by decide +kernel
theorem dX4_charge_83 : decode cX4_charge 83 = .ok (.i2l, 1) := by decide +kernel
theorem dX4_charge_84 : decode cX4_charge 84 = .ok (.ladd, 1) := by decide +kernel
theorem dX4_charge_85 : decode cX4_charge 85 = .ok (.putfield 216, 3) := by decide +kernel
theorem dX4_charge_88 : decode cX4_charge 88 = .ok (.return_, 1) := by decide +kernel
set_option maxRecDepth 20000 in
theorem ggX4_faultOf_Jx29ce0_ordinal_8abf5 : GoodIn wsX4_faultOf wsJx29ce0_ordinal_8abf5 := goodIn_r _ [7, 8] (by decide +kernel) (by decide +kernel)
set_option maxRecDepth 20000 in
theorem gX4_faultOf_Jx29ce0_ordinal_8abf5_u139X2 : GoodIn wsX4_faultOf (va_wsU RX4 139 RX2 "java/lang/Enum" ⟨"HarborLights$Command", "ordinal", "()I"⟩ yJx29ce0_ordinal_8abf5 wsJx29ce0_ordinal_8abf5) := goodIn_app (goodIn_of _ (by decide +kernel)) ggX4_faultOf_Jx29ce0_ordinal_8abf5
set_option maxRecDepth 20000 in
theorem ggX4_faultOf_X4_portFault : GoodIn wsX4_faultOf wsX4_portFault := goodIn_r _ [13, 14, 15, 16, 89, 90, 91, 92, 93, 94, 95, 96, 97, 98, 99, 100, 101, 102, 103, 104, 105, 106] (by decide +kernel) (by decide +kernel)
set_option maxRecDepth 20000 in
theorem gX4_faultOf_X4_portFault : GoodIn wsX4_faultOf (wsV RX4 219 RX4 yX4_portFault wsX4_portFault) := goodIn_app (goodIn_of _ (by decide +kernel)) ggX4_faultOf_X4_portFault
set_option maxRecDepth 20000 in
theorem ggX4_faultOf_X4_legFault : GoodIn wsX4_faultOf wsX4_legFault := goodIn_ca (goodIn_r _ [20, 14, 15, 21, 22, 23, 24, 25, 26, 27, 28, 29, 30, 31, 32, 33, 34, 35, 36, 37, 38, 39, 40, 41, 89, 90, 91, 92, 93, 94, 95, 96, 97, 98, 99, 100, 101, 102, 103, 104, 105, 106] (by decide +kernel) (by decide +kernel)) (goodIn_sub (fun _ h => List.mem_cons_of_mem _ (List.mem_append_right _ h)) (by decide +kernel))
set_option maxRecDepth 20000 in
theorem gX4_faultOf_X4_legFault : GoodIn wsX4_faultOf (wsV RX4 222 RX4 yX4_legFault wsX4_legFault) := goodIn_app (goodIn_of _ (by decide +kernel)) ggX4_faultOf_X4_legFault
set_option maxRecDepth 20000 in
theorem ggX4_faultOf_X4_cutFault : GoodIn wsX4_faultOf wsX4_cutFault := goodIn_ca (goodIn_r _ [45, 14, 15, 22, 23, 24, 25, 26, 27, 28, 29, 30, 31, 32, 33, 34, 35, 36, 37, 38, 39, 40, 41, 89, 90, 91, 92, 93, 94, 95, 96, 97, 98, 99, 100, 101, 102, 103, 104, 105, 106] (by decide +kernel) (by decide +kernel)) (goodIn_sub (fun _ h => List.mem_cons_of_mem _ (List.mem_append_right _ h)) (by decide +kernel))
set_option maxRecDepth 20000 in
theorem gX4_faultOf_X4_cutFault : GoodIn wsX4_faultOf (wsV RX4 225 RX4 yX4_cutFault wsX4_cutFault) := goodIn_app (goodIn_of _ (by decide +kernel)) ggX4_faultOf_X4_cutFault
set_option maxRecDepth 20000 in
theorem ggX4_faultOf_X4_shipFault : GoodIn wsX4_faultOf wsX4_shipFault := goodIn_ca (goodIn_r _ [49, 14, 15, 50, 51, 52, 22, 23, 24, 25, 26, 27, 53, 54, 55, 56, 57, 58, 59, 60, 61, 62, 63, 64, 65, 66, 67, 68, 69, 70, 89, 90, 91, 92, 93, 94, 95, 96, 97, 98, 99, 107, 108, 109, 110, 111, 112, 100, 101, 102, 103, 104, 105, 106, 113, 114, 115] (by decide +kernel) (by decide +kernel)) (goodIn_sub (fun _ h => List.mem_cons_of_mem _ (List.mem_append_right _ h)) (by decide +kernel))
set_option maxRecDepth 20000 in
theorem gX4_faultOf_X4_shipFault : GoodIn wsX4_faultOf (wsV RX4 228 RX4 yX4_shipFault wsX4_shipFault) := goodIn_app (goodIn_of _ (by decide +kernel)) ggX4_faultOf_X4_shipFault
set_option maxRecDepth 20000 in
theorem ggX4_faultOf_X4_payFault : GoodIn wsX4_faultOf wsX4_payFault := goodIn_r _ [74, 14, 50, 75, 76, 77, 78, 79, 80, 89, 90, 91, 92, 93, 94, 95, 96, 97, 98, 99, 107, 108, 109, 110, 111, 112] (by decide +kernel) (by decide +kernel)
set_option maxRecDepth 20000 in
theorem gX4_faultOf_X4_payFault : GoodIn wsX4_faultOf (wsV RX4 231 RX4 yX4_payFault wsX4_payFault) := goodIn_app (goodIn_of _ (by decide +kernel)) ggX4_faultOf_X4_payFault
set_option maxRecDepth 20000 in
theorem ggX4_faultOf_X4_leaveFault : GoodIn wsX4_faultOf wsX4_leaveFault := goodIn_r _ [84, 14, 50, 75, 76, 77, 78, 79, 80, 89, 90, 91, 92, 93, 94, 95, 96, 97, 98, 99, 107, 108, 109, 110, 111, 112] (by decide +kernel) (by decide +kernel)
set_option maxRecDepth 20000 in
theorem gX4_faultOf_X4_leaveFault : GoodIn wsX4_faultOf (wsV RX4 234 RX4 yX4_leaveFault wsX4_leaveFault) := goodIn_app (goodIn_of _ (by decide +kernel)) ggX4_faultOf_X4_leaveFault
set_option maxRecDepth 20000 in
theorem ggX4_faultOf_X4_fogFault : GoodIn wsX4_faultOf wsX4_fogFault := goodIn_r _ [88] (by decide +kernel) (by decide +kernel)
set_option maxRecDepth 20000 in
theorem gX4_faultOf_X4_fogFault : GoodIn wsX4_faultOf (wsV RX4 237 RX4 yX4_fogFault wsX4_fogFault) := goodIn_app (goodIn_of _ (by decide +kernel)) ggX4_faultOf_X4_fogFault
theorem dX4_faultOf_0 : decode cX4_faultOf 0 = .ok (.getstatic 134, 3) := by decide +kernel
theorem dX4_faultOf_3 : decode cX4_faultOf 3 = .ok (.aload_n 1, 1) := by decide +kernel
theorem dX4_faultOf_4 : decode cX4_faultOf 4 = .ok (.invokevirtual 139, 3) := by decide +kernel
theorem dX4_faultOf_7 : decode cX4_faultOf 7 = .ok (.iaload, 1) := by decide +kernel
theorem dX4_faultOf_8 : decode cX4_faultOf 8 = .ok (.tableswitch 118 1 7 #[44, 49, 66, 77, 91, 102, 110], 44) := by decide +kernel
theorem dX4_faultOf_52 : decode cX4_faultOf 52 = .ok (.aload_n 0, 1) := by decide +kernel
theorem dX4_faultOf_53 : decode cX4_faultOf 53 = .ok (.invokevirtual 219, 3) := by decide +kernel
theorem dX4_faultOf_56 : decode cX4_faultOf 56 = .ok (.ireturn, 1) := by decide +kernel
theorem dX4_faultOf_57 : decode cX4_faultOf 57 = .ok (.aload_n 0, 1) := by decide +kernel
theorem dX4_faultOf_58 : decode cX4_faultOf 58 = .ok (.aload_n 2, 1) := by decide +kernel
theorem dX4_faultOf_59 : decode cX4_faultOf 59 = .ok (.iconst 0, 1) := by decide +kernel
theorem dX4_faultOf_60 : decode cX4_faultOf 60 = .ok (.iaload, 1) := by decide +kernel
theorem dX4_faultOf_61 : decode cX4_faultOf 61 = .ok (.aload_n 2, 1) := by decide +kernel
theorem dX4_faultOf_62 : decode cX4_faultOf 62 = .ok (.iconst 1, 1) := by decide +kernel
theorem dX4_faultOf_63 : decode cX4_faultOf 63 = .ok (.iaload, 1) := by decide +kernel
theorem dX4_faultOf_64 : decode cX4_faultOf 64 = .ok (.aload_n 2, 1) := by decide +kernel
theorem dX4_faultOf_65 : decode cX4_faultOf 65 = .ok (.iconst 2, 1) := by decide +kernel
theorem dX4_faultOf_66 : decode cX4_faultOf 66 = .ok (.iaload, 1) := by decide +kernel
theorem dX4_faultOf_67 : decode cX4_faultOf 67 = .ok (.aload_n 2, 1) := by decide +kernel
theorem dX4_faultOf_68 : decode cX4_faultOf 68 = .ok (.iconst 3, 1) := by decide +kernel
theorem dX4_faultOf_69 : decode cX4_faultOf 69 = .ok (.iaload, 1) := by decide +kernel
theorem dX4_faultOf_70 : decode cX4_faultOf 70 = .ok (.invokevirtual 222, 3) := by decide +kernel
theorem dX4_faultOf_73 : decode cX4_faultOf 73 = .ok (.ireturn, 1) := by decide +kernel
theorem dX4_faultOf_74 : decode cX4_faultOf 74 = .ok (.aload_n 0, 1) := by decide +kernel
theorem dX4_faultOf_75 : decode cX4_faultOf 75 = .ok (.aload_n 2, 1) := by decide +kernel
theorem dX4_faultOf_76 : decode cX4_faultOf 76 = .ok (.iconst 0, 1) := by decide +kernel
theorem dX4_faultOf_77 : decode cX4_faultOf 77 = .ok (.iaload, 1) := by decide +kernel
theorem dX4_faultOf_78 : decode cX4_faultOf 78 = .ok (.aload_n 2, 1) := by decide +kernel
theorem dX4_faultOf_79 : decode cX4_faultOf 79 = .ok (.iconst 1, 1) := by decide +kernel
theorem dX4_faultOf_80 : decode cX4_faultOf 80 = .ok (.iaload, 1) := by decide +kernel
theorem dX4_faultOf_81 : decode cX4_faultOf 81 = .ok (.invokevirtual 225, 3) := by decide +kernel
theorem dX4_faultOf_84 : decode cX4_faultOf 84 = .ok (.ireturn, 1) := by decide +kernel
theorem dX4_faultOf_85 : decode cX4_faultOf 85 = .ok (.aload_n 0, 1) := by decide +kernel
theorem dX4_faultOf_86 : decode cX4_faultOf 86 = .ok (.aload_n 2, 1) := by decide +kernel
theorem dX4_faultOf_87 : decode cX4_faultOf 87 = .ok (.iconst 0, 1) := by decide +kernel
theorem dX4_faultOf_88 : decode cX4_faultOf 88 = .ok (.iaload, 1) := by decide +kernel
theorem dX4_faultOf_89 : decode cX4_faultOf 89 = .ok (.aload_n 2, 1) := by decide +kernel
theorem dX4_faultOf_90 : decode cX4_faultOf 90 = .ok (.iconst 1, 1) := by decide +kernel
theorem dX4_faultOf_91 : decode cX4_faultOf 91 = .ok (.iaload, 1) := by decide +kernel
theorem dX4_faultOf_92 : decode cX4_faultOf 92 = .ok (.aload_n 2, 1) := by decide +kernel
theorem dX4_faultOf_93 : decode cX4_faultOf 93 = .ok (.iconst 2, 1) := by decide +kernel
theorem dX4_faultOf_94 : decode cX4_faultOf 94 = .ok (.iaload, 1) := by decide +kernel
theorem dX4_faultOf_95 : decode cX4_faultOf 95 = .ok (.invokevirtual 228, 3) := by decide +kernel
theorem dX4_faultOf_98 : decode cX4_faultOf 98 = .ok (.ireturn, 1) := by decide +kernel
theorem dX4_faultOf_99 : decode cX4_faultOf 99 = .ok (.aload_n 0, 1) := by decide +kernel
theorem dX4_faultOf_100 : decode cX4_faultOf 100 = .ok (.aload_n 2, 1) := by decide +kernel
theorem dX4_faultOf_101 : decode cX4_faultOf 101 = .ok (.iconst 0, 1) := by decide +kernel
theorem dX4_faultOf_102 : decode cX4_faultOf 102 = .ok (.iaload, 1) := by decide +kernel
theorem dX4_faultOf_103 : decode cX4_faultOf 103 = .ok (.aload_n 2, 1) := by decide +kernel
theorem dX4_faultOf_104 : decode cX4_faultOf 104 = .ok (.iconst 1, 1) := by decide +kernel
theorem dX4_faultOf_105 : decode cX4_faultOf 105 = .ok (.iaload, 1) := by decide +kernel
theorem dX4_faultOf_106 : decode cX4_faultOf 106 = .ok (.invokevirtual 231, 3) := by decide +kernel
theorem dX4_faultOf_109 : decode cX4_faultOf 109 = .ok (.ireturn, 1) := by decide +kernel
theorem dX4_faultOf_110 : decode cX4_faultOf 110 = .ok (.aload_n 0, 1) := by decide +kernel
theorem dX4_faultOf_111 : decode cX4_faultOf 111 = .ok (.aload_n 2, 1) := by decide +kernel
theorem dX4_faultOf_112 : decode cX4_faultOf 112 = .ok (.iconst 0, 1) := by decide +kernel
theorem dX4_faultOf_113 : decode cX4_faultOf 113 = .ok (.iaload, 1) := by decide +kernel
theorem dX4_faultOf_114 : decode cX4_faultOf 114 = .ok (.invokevirtual 234, 3) := by decide +kernel
theorem dX4_faultOf_117 : decode cX4_faultOf 117 = .ok (.ireturn, 1) := by decide +kernel
theorem dX4_faultOf_118 : decode cX4_faultOf 118 = .ok (.aload_n 0, 1) := by decide +kernel
theorem dX4_faultOf_119 : decode cX4_faultOf 119 = .ok (.aload_n 2, 1) := by decide +kernel
theorem dX4_faultOf_120 : decode cX4_faultOf 120 = .ok (.iconst 0, 1) := by decide +kernel
theorem dX4_faultOf_121 : decode cX4_faultOf 121 = .ok (.iaload, 1) := by decide +kernel
theorem dX4_faultOf_122 : decode cX4_faultOf 122 = .ok (.invokevirtual 237, 3) := by decide +kernel
theorem dX4_faultOf_125 : decode cX4_faultOf 125 = .ok (.ireturn, 1) := by decide +kernel
theorem dX4_faultOf_126 : decode cX4_faultOf 126 = .ok (.iconst 0, 1) := by decide +kernel
theorem dX4_faultOf_127 : decode cX4_faultOf 127 = .ok (.ireturn, 1) := by decide +kernel
theorem dX5_init_0 : decode cX5_init 0 = .ok (.aload_n 0, 1) := by decide +kernel
theorem dX5_init_1 : decode cX5_init 1 = .ok (.invokespecial 3, 3) := by decide +kernel
theorem dX5_init_4 : decode cX5_init 4 = .ok (.aload_n 0, 1) := by decide +kernel
theorem dX5_init_5 : decode cX5_init 5 = .ok (.bipush 10, 2) := by decide +kernel
theorem dX5_init_7 : decode cX5_init 7 = .ok (.newarray .int, 2) := by decide +kernel
theorem dX5_init_9 : decode cX5_init 9 = .ok (.putfield 9, 3) := by decide +kernel
theorem dX5_init_12 : decode cX5_init 12 = .ok (.aload_n 0, 1) := by decide +kernel
theorem dX5_init_13 : decode cX5_init 13 = .ok (.bipush 10, 2) := by decide +kernel
theorem dX5_init_15 : decode cX5_init 15 = .ok (.newarray .int, 2) := by decide +kernel
theorem dX5_init_17 : decode cX5_init 17 = .ok (.putfield 15, 3) := by decide +kernel
theorem dX5_init_20 : decode cX5_init 20 = .ok (.aload_n 0, 1) := by decide +kernel
theorem dX5_init_21 : decode cX5_init 21 = .ok (.bipush 10, 2) := by decide +kernel
theorem dX5_init_23 : decode cX5_init 23 = .ok (.newarray .boolean, 2) := by decide +kernel
theorem dX5_init_25 : decode cX5_init 25 = .ok (.putfield 18, 3) := by decide +kernel
theorem dX5_init_28 : decode cX5_init 28 = .ok (.return_, 1) := by decide +kernel
set_option maxRecDepth 20000 in
theorem ggX5_lengthByNearest_X5_beginAt : GoodIn wsX5_lengthByNearest wsX5_beginAt := goodIn_ca (goodIn_r _ [8, 2, 3, 33, 34, 35] (by decide +kernel) (by decide +kernel)) (goodIn_sub (fun _ h => List.mem_cons_of_mem _ (List.mem_append_right _ h)) (by decide +kernel))
set_option maxRecDepth 20000 in
theorem gX5_lengthByNearest_X5_beginAt : GoodIn wsX5_lengthByNearest (wsV RX5 22 RX5 yX5_beginAt wsX5_beginAt) := goodIn_app (goodIn_of _ (by decide +kernel)) ggX5_lengthByNearest_X5_beginAt
set_option maxRecDepth 20000 in
theorem ggX5_lengthByNearest_X5_nearestUnseen : GoodIn wsX5_lengthByNearest wsX5_nearestUnseen := goodIn_ca (goodIn_r _ [12, 3, 2, 33, 34, 35] (by decide +kernel) (by decide +kernel)) (goodIn_sub (fun _ h => List.mem_cons_of_mem _ (List.mem_append_right _ h)) (by decide +kernel))
set_option maxRecDepth 20000 in
theorem gX5_lengthByNearest_X5_nearestUnseen : GoodIn wsX5_lengthByNearest (wsV RX5 32 RX5 yX5_nearestUnseen wsX5_nearestUnseen) := goodIn_app (goodIn_of _ (by decide +kernel)) ggX5_lengthByNearest_X5_nearestUnseen
set_option maxRecDepth 20000 in
theorem ggX5_lengthByNearest_X5_goOn : GoodIn wsX5_lengthByNearest wsX5_goOn := goodIn_ca (goodIn_r _ [16, 17, 18, 19, 20, 21, 22, 23, 24, 7, 25, 2, 26, 27, 28, 29, 30, 31, 32, 33, 34, 35] (by decide +kernel) (by decide +kernel)) (goodIn_sub (fun _ h => List.mem_cons_of_mem _ (List.mem_append_right _ h)) (by decide +kernel))
set_option maxRecDepth 20000 in
theorem gX5_lengthByNearest_X5_goOn : GoodIn wsX5_lengthByNearest (wsV RX5 36 RX5 yX5_goOn wsX5_goOn) := goodIn_app (goodIn_of _ (by decide +kernel)) ggX5_lengthByNearest_X5_goOn
theorem dX5_lengthByNearest_0 : decode cX5_lengthByNearest 0 = .ok (.aload_n 0, 1) := by decide +kernel
theorem dX5_lengthByNearest_1 : decode cX5_lengthByNearest 1 = .ok (.iload_n 2, 1) := by decide +kernel
theorem dX5_lengthByNearest_2 : decode cX5_lengthByNearest 2 = .ok (.invokevirtual 22, 3) := by decide +kernel
theorem dX5_lengthByNearest_5 : decode cX5_lengthByNearest 5 = .ok (.iconst 0, 1) := by decide +kernel
theorem dX5_lengthByNearest_6 : decode cX5_lengthByNearest 6 = .ok (.istore 5, 2) := by decide +kernel
theorem dX5_lengthByNearest_8 : decode cX5_lengthByNearest 8 = .ok (.iload 5, 2) := by decide +kernel
theorem dX5_lengthByNearest_10 : decode cX5_lengthByNearest 10 = .ok (.aload_n 1, 1) := by decide +kernel
theorem dX5_lengthByNearest_11 : decode cX5_lengthByNearest 11 = .ok (.getfield 26, 3) := by decide +kernel
theorem dX5_lengthByNearest_14 : decode cX5_lengthByNearest 14 = .ok (.if_icmp .ge 55, 3) := by decide +kernel
theorem dX5_lengthByNearest_17 : decode cX5_lengthByNearest 17 = .ok (.aload_n 0, 1) := by decide +kernel
theorem dX5_lengthByNearest_18 : decode cX5_lengthByNearest 18 = .ok (.aload_n 1, 1) := by decide +kernel
theorem dX5_lengthByNearest_19 : decode cX5_lengthByNearest 19 = .ok (.getfield 26, 3) := by decide +kernel
theorem dX5_lengthByNearest_22 : decode cX5_lengthByNearest 22 = .ok (.invokevirtual 32, 3) := by decide +kernel
theorem dX5_lengthByNearest_25 : decode cX5_lengthByNearest 25 = .ok (.istore 6, 2) := by decide +kernel
theorem dX5_lengthByNearest_27 : decode cX5_lengthByNearest 27 = .ok (.iload 6, 2) := by decide +kernel
theorem dX5_lengthByNearest_29 : decode cX5_lengthByNearest 29 = .ok (.iconst (-1), 1) := by decide +kernel
theorem dX5_lengthByNearest_30 : decode cX5_lengthByNearest 30 = .ok (.if_icmp .eq 9, 3) := by decide +kernel
theorem dX5_lengthByNearest_33 : decode cX5_lengthByNearest 33 = .ok (.iload 6, 2) := by decide +kernel
theorem dX5_lengthByNearest_35 : decode cX5_lengthByNearest 35 = .ok (.iload_n 3, 1) := by decide +kernel
theorem dX5_lengthByNearest_36 : decode cX5_lengthByNearest 36 = .ok (.if_icmp .ne 10, 3) := by decide +kernel
theorem dX5_lengthByNearest_39 : decode cX5_lengthByNearest 39 = .ok (.aload_n 0, 1) := by decide +kernel
theorem dX5_lengthByNearest_40 : decode cX5_lengthByNearest 40 = .ok (.getfield 9, 3) := by decide +kernel
theorem dX5_lengthByNearest_43 : decode cX5_lengthByNearest 43 = .ok (.iload_n 3, 1) := by decide +kernel
theorem dX5_lengthByNearest_44 : decode cX5_lengthByNearest 44 = .ok (.iaload, 1) := by decide +kernel
theorem dX5_lengthByNearest_45 : decode cX5_lengthByNearest 45 = .ok (.ireturn, 1) := by decide +kernel
theorem dX5_lengthByNearest_46 : decode cX5_lengthByNearest 46 = .ok (.aload_n 0, 1) := by decide +kernel
theorem dX5_lengthByNearest_47 : decode cX5_lengthByNearest 47 = .ok (.getfield 18, 3) := by decide +kernel
theorem dX5_lengthByNearest_50 : decode cX5_lengthByNearest 50 = .ok (.iload 6, 2) := by decide +kernel
theorem dX5_lengthByNearest_52 : decode cX5_lengthByNearest 52 = .ok (.iconst 1, 1) := by decide +kernel
theorem dX5_lengthByNearest_53 : decode cX5_lengthByNearest 53 = .ok (.bastore, 1) := by decide +kernel
theorem dX5_lengthByNearest_54 : decode cX5_lengthByNearest 54 = .ok (.aload_n 0, 1) := by decide +kernel
theorem dX5_lengthByNearest_55 : decode cX5_lengthByNearest 55 = .ok (.aload_n 1, 1) := by decide +kernel
theorem dX5_lengthByNearest_56 : decode cX5_lengthByNearest 56 = .ok (.iload 6, 2) := by decide +kernel
theorem dX5_lengthByNearest_58 : decode cX5_lengthByNearest 58 = .ok (.iload 4, 2) := by decide +kernel
theorem dX5_lengthByNearest_60 : decode cX5_lengthByNearest 60 = .ok (.invokevirtual 36, 3) := by decide +kernel
theorem dX5_lengthByNearest_63 : decode cX5_lengthByNearest 63 = .ok (.iinc 5 1, 3) := by decide +kernel
theorem dX5_lengthByNearest_66 : decode cX5_lengthByNearest 66 = .ok (.goto (-58), 3) := by decide +kernel
theorem dX5_lengthByNearest_69 : decode cX5_lengthByNearest 69 = .ok (.aload_n 0, 1) := by decide +kernel
theorem dX5_lengthByNearest_70 : decode cX5_lengthByNearest 70 = .ok (.getfield 9, 3) := by decide +kernel
theorem dX5_lengthByNearest_73 : decode cX5_lengthByNearest 73 = .ok (.iload_n 3, 1) := by decide +kernel
theorem dX5_lengthByNearest_74 : decode cX5_lengthByNearest 74 = .ok (.iaload, 1) := by decide +kernel
theorem dX5_lengthByNearest_75 : decode cX5_lengthByNearest 75 = .ok (.ireturn, 1) := by decide +kernel
set_option maxRecDepth 20000 in
theorem ggX5_lengthByRounds_X5_beginAt : GoodIn wsX5_lengthByRounds wsX5_beginAt := goodIn_ca (goodIn_r _ [10, 5, 11, 23, 24, 25] (by decide +kernel) (by decide +kernel)) (goodIn_sub (fun _ h => List.mem_cons_of_mem _ (List.mem_append_right _ h)) (by decide +kernel))
set_option maxRecDepth 20000 in
theorem gX5_lengthByRounds_X5_beginAt : GoodIn wsX5_lengthByRounds (wsV RX5 22 RX5 yX5_beginAt wsX5_beginAt) := goodIn_app (goodIn_of _ (by decide +kernel)) ggX5_lengthByRounds_X5_beginAt
set_option maxRecDepth 20000 in
theorem ggX5_lengthByRounds_X5_shorten : GoodIn wsX5_lengthByRounds wsX5_shorten := goodIn_ca (goodIn_r _ [15, 5, 23, 24, 25] (by decide +kernel) (by decide +kernel)) (goodIn_sub (fun _ h => List.mem_cons_of_mem _ (List.mem_append_right _ h)) (by decide +kernel))
set_option maxRecDepth 20000 in
theorem gX5_lengthByRounds_X5_shorten : GoodIn wsX5_lengthByRounds (wsV RX5 52 RX5 yX5_shorten wsX5_shorten) := goodIn_app (goodIn_of _ (by decide +kernel)) ggX5_lengthByRounds_X5_shorten
theorem dX5_lengthByRounds_0 : decode cX5_lengthByRounds 0 = .ok (.aload_n 0, 1) := by decide +kernel
theorem dX5_lengthByRounds_1 : decode cX5_lengthByRounds 1 = .ok (.iload_n 2, 1) := by decide +kernel
theorem dX5_lengthByRounds_2 : decode cX5_lengthByRounds 2 = .ok (.invokevirtual 22, 3) := by decide +kernel
theorem dX5_lengthByRounds_5 : decode cX5_lengthByRounds 5 = .ok (.iconst 1, 1) := by decide +kernel
theorem dX5_lengthByRounds_6 : decode cX5_lengthByRounds 6 = .ok (.istore 4, 2) := by decide +kernel
theorem dX5_lengthByRounds_8 : decode cX5_lengthByRounds 8 = .ok (.iconst 0, 1) := by decide +kernel
theorem dX5_lengthByRounds_9 : decode cX5_lengthByRounds 9 = .ok (.istore 5, 2) := by decide +kernel
theorem dX5_lengthByRounds_11 : decode cX5_lengthByRounds 11 = .ok (.iload 4, 2) := by decide +kernel
theorem dX5_lengthByRounds_13 : decode cX5_lengthByRounds 13 = .ok (.ifCond .eq 113, 3) := by decide +kernel
theorem dX5_lengthByRounds_16 : decode cX5_lengthByRounds 16 = .ok (.iload 5, 2) := by decide +kernel
theorem dX5_lengthByRounds_18 : decode cX5_lengthByRounds 18 = .ok (.bipush 10, 2) := by decide +kernel
theorem dX5_lengthByRounds_20 : decode cX5_lengthByRounds 20 = .ok (.if_icmp .ge 106, 3) := by decide +kernel
theorem dX5_lengthByRounds_23 : decode cX5_lengthByRounds 23 = .ok (.iconst 0, 1) := by decide +kernel
theorem dX5_lengthByRounds_24 : decode cX5_lengthByRounds 24 = .ok (.istore 4, 2) := by decide +kernel
theorem dX5_lengthByRounds_26 : decode cX5_lengthByRounds 26 = .ok (.iconst 0, 1) := by decide +kernel
theorem dX5_lengthByRounds_27 : decode cX5_lengthByRounds 27 = .ok (.istore 6, 2) := by decide +kernel
theorem dX5_lengthByRounds_29 : decode cX5_lengthByRounds 29 = .ok (.iload 6, 2) := by decide +kernel
theorem dX5_lengthByRounds_31 : decode cX5_lengthByRounds 31 = .ok (.aload_n 1, 1) := by decide +kernel
theorem dX5_lengthByRounds_32 : decode cX5_lengthByRounds 32 = .ok (.getfield 40, 3) := by decide +kernel
theorem dX5_lengthByRounds_35 : decode cX5_lengthByRounds 35 = .ok (.if_icmp .ge 85, 3) := by decide +kernel
theorem dX5_lengthByRounds_38 : decode cX5_lengthByRounds 38 = .ok (.aload_n 0, 1) := by decide +kernel
theorem dX5_lengthByRounds_39 : decode cX5_lengthByRounds 39 = .ok (.aload_n 1, 1) := by decide +kernel
theorem dX5_lengthByRounds_40 : decode cX5_lengthByRounds 40 = .ok (.getfield 43, 3) := by decide +kernel
theorem dX5_lengthByRounds_43 : decode cX5_lengthByRounds 43 = .ok (.iload 6, 2) := by decide +kernel
theorem dX5_lengthByRounds_45 : decode cX5_lengthByRounds 45 = .ok (.iaload, 1) := by decide +kernel
theorem dX5_lengthByRounds_46 : decode cX5_lengthByRounds 46 = .ok (.aload_n 1, 1) := by decide +kernel
theorem dX5_lengthByRounds_47 : decode cX5_lengthByRounds 47 = .ok (.getfield 46, 3) := by decide +kernel
theorem dX5_lengthByRounds_50 : decode cX5_lengthByRounds 50 = .ok (.iload 6, 2) := by decide +kernel
theorem dX5_lengthByRounds_52 : decode cX5_lengthByRounds 52 = .ok (.iaload, 1) := by decide +kernel
theorem dX5_lengthByRounds_53 : decode cX5_lengthByRounds 53 = .ok (.aload_n 1, 1) := by decide +kernel
theorem dX5_lengthByRounds_54 : decode cX5_lengthByRounds 54 = .ok (.getfield 49, 3) := by decide +kernel
theorem dX5_lengthByRounds_57 : decode cX5_lengthByRounds 57 = .ok (.iload 6, 2) := by decide +kernel
theorem dX5_lengthByRounds_59 : decode cX5_lengthByRounds 59 = .ok (.iaload, 1) := by decide +kernel
theorem dX5_lengthByRounds_60 : decode cX5_lengthByRounds 60 = .ok (.invokevirtual 52, 3) := by decide +kernel
theorem dX5_lengthByRounds_63 : decode cX5_lengthByRounds 63 = .ok (.istore 7, 2) := by decide +kernel
theorem dX5_lengthByRounds_65 : decode cX5_lengthByRounds 65 = .ok (.aload_n 0, 1) := by decide +kernel
theorem dX5_lengthByRounds_66 : decode cX5_lengthByRounds 66 = .ok (.aload_n 1, 1) := by decide +kernel
theorem dX5_lengthByRounds_67 : decode cX5_lengthByRounds 67 = .ok (.getfield 46, 3) := by decide +kernel
theorem dX5_lengthByRounds_70 : decode cX5_lengthByRounds 70 = .ok (.iload 6, 2) := by decide +kernel
theorem dX5_lengthByRounds_72 : decode cX5_lengthByRounds 72 = .ok (.iaload, 1) := by decide +kernel
theorem dX5_lengthByRounds_73 : decode cX5_lengthByRounds 73 = .ok (.aload_n 1, 1) := by decide +kernel
theorem dX5_lengthByRounds_74 : decode cX5_lengthByRounds 74 = .ok (.getfield 43, 3) := by decide +kernel
theorem dX5_lengthByRounds_77 : decode cX5_lengthByRounds 77 = .ok (.iload 6, 2) := by decide +kernel
theorem dX5_lengthByRounds_79 : decode cX5_lengthByRounds 79 = .ok (.iaload, 1) := by decide +kernel
theorem dX5_lengthByRounds_80 : decode cX5_lengthByRounds 80 = .ok (.aload_n 1, 1) := by decide +kernel
theorem dX5_lengthByRounds_81 : decode cX5_lengthByRounds 81 = .ok (.getfield 49, 3) := by decide +kernel
theorem dX5_lengthByRounds_84 : decode cX5_lengthByRounds 84 = .ok (.iload 6, 2) := by decide +kernel
theorem dX5_lengthByRounds_86 : decode cX5_lengthByRounds 86 = .ok (.iaload, 1) := by decide +kernel
theorem dX5_lengthByRounds_87 : decode cX5_lengthByRounds 87 = .ok (.invokevirtual 52, 3) := by decide +kernel
theorem dX5_lengthByRounds_90 : decode cX5_lengthByRounds 90 = .ok (.istore 8, 2) := by decide +kernel
theorem dX5_lengthByRounds_92 : decode cX5_lengthByRounds 92 = .ok (.iload 4, 2) := by decide +kernel
theorem dX5_lengthByRounds_94 : decode cX5_lengthByRounds 94 = .ok (.ifCond .ne 13, 3) := by decide +kernel
theorem dX5_lengthByRounds_97 : decode cX5_lengthByRounds 97 = .ok (.iload 7, 2) := by decide +kernel
theorem dX5_lengthByRounds_99 : decode cX5_lengthByRounds 99 = .ok (.ifCond .ne 8, 3) := by decide +kernel
theorem dX5_lengthByRounds_102 : decode cX5_lengthByRounds 102 = .ok (.iload 8, 2) := by decide +kernel
theorem dX5_lengthByRounds_104 : decode cX5_lengthByRounds 104 = .ok (.ifCond .eq 7, 3) := by decide +kernel
theorem dX5_lengthByRounds_107 : decode cX5_lengthByRounds 107 = .ok (.iconst 1, 1) := by decide +kernel
theorem dX5_lengthByRounds_108 : decode cX5_lengthByRounds 108 = .ok (.goto 4, 3) := by decide +kernel
theorem dX5_lengthByRounds_111 : decode cX5_lengthByRounds 111 = .ok (.iconst 0, 1) := by decide +kernel
theorem dX5_lengthByRounds_112 : decode cX5_lengthByRounds 112 = .ok (.istore 4, 2) := by decide +kernel
theorem dX5_lengthByRounds_114 : decode cX5_lengthByRounds 114 = .ok (.iinc 6 1, 3) := by decide +kernel
theorem dX5_lengthByRounds_117 : decode cX5_lengthByRounds 117 = .ok (.goto (-88), 3) := by decide +kernel
theorem dX5_lengthByRounds_120 : decode cX5_lengthByRounds 120 = .ok (.iinc 5 1, 3) := by decide +kernel
theorem dX5_lengthByRounds_123 : decode cX5_lengthByRounds 123 = .ok (.goto (-112), 3) := by decide +kernel
theorem dX5_lengthByRounds_126 : decode cX5_lengthByRounds 126 = .ok (.aload_n 0, 1) := by decide +kernel
theorem dX5_lengthByRounds_127 : decode cX5_lengthByRounds 127 = .ok (.getfield 9, 3) := by decide +kernel
theorem dX5_lengthByRounds_130 : decode cX5_lengthByRounds 130 = .ok (.iload_n 3, 1) := by decide +kernel
theorem dX5_lengthByRounds_131 : decode cX5_lengthByRounds 131 = .ok (.iaload, 1) := by decide +kernel
theorem dX5_lengthByRounds_132 : decode cX5_lengthByRounds 132 = .ok (.ireturn, 1) := by decide +kernel
set_option maxRecDepth 20000 in
theorem ggX5_needByJoining_X5_separate : GoodIn wsX5_needByJoining wsX5_separate := goodIn_ca (goodIn_r _ [10, 4, 22, 23, 24] (by decide +kernel) (by decide +kernel)) (goodIn_sub (fun _ h => List.mem_cons_of_mem _ (List.mem_append_right _ h)) (by decide +kernel))
set_option maxRecDepth 20000 in
theorem gX5_needByJoining_X5_separate : GoodIn wsX5_needByJoining (wsV RX5 56 RX5 yX5_separate wsX5_separate) := goodIn_app (goodIn_of _ (by decide +kernel)) ggX5_needByJoining_X5_separate
set_option maxRecDepth 20000 in
theorem ggX5_needByJoining_X5_join : GoodIn wsX5_needByJoining wsX5_join := goodIn_ca (goodIn_r _ [14, 4, 22, 23, 24] (by decide +kernel) (by decide +kernel)) (goodIn_sub (fun _ h => List.mem_cons_of_mem _ (List.mem_append_right _ h)) (by decide +kernel))
set_option maxRecDepth 20000 in
theorem gX5_needByJoining_X5_join : GoodIn wsX5_needByJoining (wsV RX5 59 RX5 yX5_join wsX5_join) := goodIn_app (goodIn_of _ (by decide +kernel)) ggX5_needByJoining_X5_join
theorem dX5_needByJoining_0 : decode cX5_needByJoining 0 = .ok (.aload_n 0, 1) := by decide +kernel
theorem dX5_needByJoining_1 : decode cX5_needByJoining 1 = .ok (.invokevirtual 56, 3) := by decide +kernel
theorem dX5_needByJoining_4 : decode cX5_needByJoining 4 = .ok (.iconst 0, 1) := by decide +kernel
theorem dX5_needByJoining_5 : decode cX5_needByJoining 5 = .ok (.istore 4, 2) := by decide +kernel
theorem dX5_needByJoining_7 : decode cX5_needByJoining 7 = .ok (.iload 4, 2) := by decide +kernel
theorem dX5_needByJoining_9 : decode cX5_needByJoining 9 = .ok (.aload_n 1, 1) := by decide +kernel
theorem dX5_needByJoining_10 : decode cX5_needByJoining 10 = .ok (.getfield 40, 3) := by decide +kernel
theorem dX5_needByJoining_13 : decode cX5_needByJoining 13 = .ok (.if_icmp .ge 51, 3) := by decide +kernel
theorem dX5_needByJoining_16 : decode cX5_needByJoining 16 = .ok (.aload_n 0, 1) := by decide +kernel
theorem dX5_needByJoining_17 : decode cX5_needByJoining 17 = .ok (.aload_n 1, 1) := by decide +kernel
theorem dX5_needByJoining_18 : decode cX5_needByJoining 18 = .ok (.getfield 43, 3) := by decide +kernel
theorem dX5_needByJoining_21 : decode cX5_needByJoining 21 = .ok (.iload 4, 2) := by decide +kernel
theorem dX5_needByJoining_23 : decode cX5_needByJoining 23 = .ok (.iaload, 1) := by decide +kernel
theorem dX5_needByJoining_24 : decode cX5_needByJoining 24 = .ok (.aload_n 1, 1) := by decide +kernel
theorem dX5_needByJoining_25 : decode cX5_needByJoining 25 = .ok (.getfield 46, 3) := by decide +kernel
theorem dX5_needByJoining_28 : decode cX5_needByJoining 28 = .ok (.iload 4, 2) := by decide +kernel
theorem dX5_needByJoining_30 : decode cX5_needByJoining 30 = .ok (.iaload, 1) := by decide +kernel
theorem dX5_needByJoining_31 : decode cX5_needByJoining 31 = .ok (.invokevirtual 59, 3) := by decide +kernel
theorem dX5_needByJoining_34 : decode cX5_needByJoining 34 = .ok (.pop, 1) := by decide +kernel
theorem dX5_needByJoining_35 : decode cX5_needByJoining 35 = .ok (.aload_n 0, 1) := by decide +kernel
theorem dX5_needByJoining_36 : decode cX5_needByJoining 36 = .ok (.getfield 15, 3) := by decide +kernel
theorem dX5_needByJoining_39 : decode cX5_needByJoining 39 = .ok (.iload_n 2, 1) := by decide +kernel
theorem dX5_needByJoining_40 : decode cX5_needByJoining 40 = .ok (.iaload, 1) := by decide +kernel
theorem dX5_needByJoining_41 : decode cX5_needByJoining 41 = .ok (.aload_n 0, 1) := by decide +kernel
theorem dX5_needByJoining_42 : decode cX5_needByJoining 42 = .ok (.getfield 15, 3) := by decide +kernel
theorem dX5_needByJoining_45 : decode cX5_needByJoining 45 = .ok (.iload_n 3, 1) := by decide +kernel
theorem dX5_needByJoining_46 : decode cX5_needByJoining 46 = .ok (.iaload, 1) := by decide +kernel
theorem dX5_needByJoining_47 : decode cX5_needByJoining 47 = .ok (.if_icmp .ne 11, 3) := by decide +kernel
theorem dX5_needByJoining_50 : decode cX5_needByJoining 50 = .ok (.aload_n 1, 1) := by decide +kernel
theorem dX5_needByJoining_51 : decode cX5_needByJoining 51 = .ok (.getfield 63, 3) := by decide +kernel
theorem dX5_needByJoining_54 : decode cX5_needByJoining 54 = .ok (.iload 4, 2) := by decide +kernel
theorem dX5_needByJoining_56 : decode cX5_needByJoining 56 = .ok (.iaload, 1) := by decide +kernel
theorem dX5_needByJoining_57 : decode cX5_needByJoining 57 = .ok (.ireturn, 1) := by decide +kernel
theorem dX5_needByJoining_58 : decode cX5_needByJoining 58 = .ok (.iinc 4 1, 3) := by decide +kernel
theorem dX5_needByJoining_61 : decode cX5_needByJoining 61 = .ok (.goto (-54), 3) := by decide +kernel
theorem dX5_needByJoining_64 : decode cX5_needByJoining 64 = .ok (.iconst (-1), 1) := by decide +kernel
theorem dX5_needByJoining_65 : decode cX5_needByJoining 65 = .ok (.ireturn, 1) := by decide +kernel
set_option maxRecDepth 20000 in
theorem ggX5_needByTrial_X5_hasRoute : GoodIn wsX5_needByTrial wsX5_hasRoute := goodIn_ca (goodIn_r _ [5, 6, 7, 8, 9, 10, 11, 12, 13, 14, 15, 16, 17, 18, 19, 20] (by decide +kernel) (by decide +kernel)) (goodIn_sub (fun _ h => List.mem_cons_of_mem _ (List.mem_append_right _ h)) (by decide +kernel))
set_option maxRecDepth 20000 in
theorem gX5_needByTrial_X5_hasRoute : GoodIn wsX5_needByTrial (wsV RX5 66 RX5 yX5_hasRoute wsX5_hasRoute) := goodIn_app (goodIn_of _ (by decide +kernel)) ggX5_needByTrial_X5_hasRoute
theorem dX5_needByTrial_0 : decode cX5_needByTrial 0 = .ok (.iconst 0, 1) := by decide +kernel
theorem dX5_needByTrial_1 : decode cX5_needByTrial 1 = .ok (.istore 4, 2) := by decide +kernel
theorem dX5_needByTrial_3 : decode cX5_needByTrial 3 = .ok (.iload 4, 2) := by decide +kernel
theorem dX5_needByTrial_5 : decode cX5_needByTrial 5 = .ok (.bipush 20, 2) := by decide +kernel
theorem dX5_needByTrial_7 : decode cX5_needByTrial 7 = .ok (.if_icmp .gt 24, 3) := by decide +kernel
theorem dX5_needByTrial_10 : decode cX5_needByTrial 10 = .ok (.aload_n 0, 1) := by decide +kernel
theorem dX5_needByTrial_11 : decode cX5_needByTrial 11 = .ok (.aload_n 1, 1) := by decide +kernel
theorem dX5_needByTrial_12 : decode cX5_needByTrial 12 = .ok (.iload_n 2, 1) := by decide +kernel
theorem dX5_needByTrial_13 : decode cX5_needByTrial 13 = .ok (.iload_n 3, 1) := by decide +kernel
theorem dX5_needByTrial_14 : decode cX5_needByTrial 14 = .ok (.iload 4, 2) := by decide +kernel
theorem dX5_needByTrial_16 : decode cX5_needByTrial 16 = .ok (.invokevirtual 66, 3) := by decide +kernel
theorem dX5_needByTrial_19 : decode cX5_needByTrial 19 = .ok (.ifCond .eq 6, 3) := by decide +kernel
theorem dX5_needByTrial_22 : decode cX5_needByTrial 22 = .ok (.iload 4, 2) := by decide +kernel
theorem dX5_needByTrial_24 : decode cX5_needByTrial 24 = .ok (.ireturn, 1) := by decide +kernel
theorem dX5_needByTrial_25 : decode cX5_needByTrial 25 = .ok (.iinc 4 1, 3) := by decide +kernel
theorem dX5_needByTrial_28 : decode cX5_needByTrial 28 = .ok (.goto (-25), 3) := by decide +kernel
theorem dX5_needByTrial_31 : decode cX5_needByTrial 31 = .ok (.iconst (-1), 1) := by decide +kernel
theorem dX5_needByTrial_32 : decode cX5_needByTrial 32 = .ok (.ireturn, 1) := by decide +kernel
set_option maxRecDepth 20000 in
theorem ggX5_countGroups_X5_separate : GoodIn wsX5_countGroups wsX5_separate := goodIn_ca (goodIn_r _ [10, 11, 23, 24, 25] (by decide +kernel) (by decide +kernel)) (goodIn_sub (fun _ h => List.mem_cons_of_mem _ (List.mem_append_right _ h)) (by decide +kernel))
set_option maxRecDepth 20000 in
theorem gX5_countGroups_X5_separate : GoodIn wsX5_countGroups (wsV RX5 56 RX5 yX5_separate wsX5_separate) := goodIn_app (goodIn_of _ (by decide +kernel)) ggX5_countGroups_X5_separate
set_option maxRecDepth 20000 in
theorem ggX5_countGroups_X5_join : GoodIn wsX5_countGroups wsX5_join := goodIn_ca (goodIn_r _ [15, 11, 23, 24, 25] (by decide +kernel) (by decide +kernel)) (goodIn_sub (fun _ h => List.mem_cons_of_mem _ (List.mem_append_right _ h)) (by decide +kernel))
set_option maxRecDepth 20000 in
theorem gX5_countGroups_X5_join : GoodIn wsX5_countGroups (wsV RX5 59 RX5 yX5_join wsX5_join) := goodIn_app (goodIn_of _ (by decide +kernel)) ggX5_countGroups_X5_join
theorem dX5_countGroups_0 : decode cX5_countGroups 0 = .ok (.aload_n 0, 1) := by decide +kernel
theorem dX5_countGroups_1 : decode cX5_countGroups 1 = .ok (.invokevirtual 56, 3) := by decide +kernel
theorem dX5_countGroups_4 : decode cX5_countGroups 4 = .ok (.aload_n 1, 1) := by decide +kernel
theorem dX5_countGroups_5 : decode cX5_countGroups 5 = .ok (.getfield 26, 3) := by decide +kernel
theorem dX5_countGroups_8 : decode cX5_countGroups 8 = .ok (.istore_n 3, 1) := by decide +kernel
theorem dX5_countGroups_9 : decode cX5_countGroups 9 = .ok (.iconst 0, 1) := by decide +kernel
theorem dX5_countGroups_10 : decode cX5_countGroups 10 = .ok (.istore 4, 2) := by decide +kernel
theorem dX5_countGroups_12 : decode cX5_countGroups 12 = .ok (.iload 4, 2) := by decide +kernel
theorem dX5_countGroups_14 : decode cX5_countGroups 14 = .ok (.aload_n 1, 1) := by decide +kernel
theorem dX5_countGroups_15 : decode cX5_countGroups 15 = .ok (.getfield 40, 3) := by decide +kernel
theorem dX5_countGroups_18 : decode cX5_countGroups 18 = .ok (.if_icmp .ge 44, 3) := by decide +kernel
theorem dX5_countGroups_21 : decode cX5_countGroups 21 = .ok (.aload_n 1, 1) := by decide +kernel
theorem dX5_countGroups_22 : decode cX5_countGroups 22 = .ok (.getfield 63, 3) := by decide +kernel
theorem dX5_countGroups_25 : decode cX5_countGroups 25 = .ok (.iload 4, 2) := by decide +kernel
theorem dX5_countGroups_27 : decode cX5_countGroups 27 = .ok (.iaload, 1) := by decide +kernel
theorem dX5_countGroups_28 : decode cX5_countGroups 28 = .ok (.iload_n 2, 1) := by decide +kernel
theorem dX5_countGroups_29 : decode cX5_countGroups 29 = .ok (.if_icmp .gt 27, 3) := by decide +kernel
theorem dX5_countGroups_32 : decode cX5_countGroups 32 = .ok (.aload_n 0, 1) := by decide +kernel
theorem dX5_countGroups_33 : decode cX5_countGroups 33 = .ok (.aload_n 1, 1) := by decide +kernel
theorem dX5_countGroups_34 : decode cX5_countGroups 34 = .ok (.getfield 43, 3) := by decide +kernel
theorem dX5_countGroups_37 : decode cX5_countGroups 37 = .ok (.iload 4, 2) := by decide +kernel
theorem dX5_countGroups_39 : decode cX5_countGroups 39 = .ok (.iaload, 1) := by decide +kernel
theorem dX5_countGroups_40 : decode cX5_countGroups 40 = .ok (.aload_n 1, 1) := by decide +kernel
theorem dX5_countGroups_41 : decode cX5_countGroups 41 = .ok (.getfield 46, 3) := by decide +kernel
theorem dX5_countGroups_44 : decode cX5_countGroups 44 = .ok (.iload 4, 2) := by decide +kernel
theorem dX5_countGroups_46 : decode cX5_countGroups 46 = .ok (.iaload, 1) := by decide +kernel
theorem dX5_countGroups_47 : decode cX5_countGroups 47 = .ok (.invokevirtual 59, 3) := by decide +kernel
theorem dX5_countGroups_50 : decode cX5_countGroups 50 = .ok (.ifCond .eq 6, 3) := by decide +kernel
theorem dX5_countGroups_53 : decode cX5_countGroups 53 = .ok (.iinc 3 (-1), 3) := by decide +kernel
theorem dX5_countGroups_56 : decode cX5_countGroups 56 = .ok (.iinc 4 1, 3) := by decide +kernel
theorem dX5_countGroups_59 : decode cX5_countGroups 59 = .ok (.goto (-47), 3) := by decide +kernel
theorem dX5_countGroups_62 : decode cX5_countGroups 62 = .ok (.iload_n 3, 1) := by decide +kernel
theorem dX5_countGroups_63 : decode cX5_countGroups 63 = .ok (.ireturn, 1) := by decide +kernel
theorem dX5_beginAt_0 : decode cX5_beginAt 0 = .ok (.iconst 0, 1) := by decide +kernel
theorem dX5_beginAt_1 : decode cX5_beginAt 1 = .ok (.istore_n 2, 1) := by decide +kernel
theorem dX5_beginAt_2 : decode cX5_beginAt 2 = .ok (.iload_n 2, 1) := by decide +kernel
theorem dX5_beginAt_3 : decode cX5_beginAt 3 = .ok (.bipush 10, 2) := by decide +kernel
theorem dX5_beginAt_5 : decode cX5_beginAt 5 = .ok (.if_icmp .ge 23, 3) := by decide +kernel
theorem dX5_beginAt_8 : decode cX5_beginAt 8 = .ok (.aload_n 0, 1) := by decide +kernel
theorem dX5_beginAt_9 : decode cX5_beginAt 9 = .ok (.getfield 9, 3) := by decide +kernel
theorem dX5_beginAt_12 : decode cX5_beginAt 12 = .ok (.iload_n 2, 1) := by decide +kernel
theorem dX5_beginAt_13 : decode cX5_beginAt 13 = .ok (.iconst (-1), 1) := by decide +kernel
theorem dX5_beginAt_14 : decode cX5_beginAt 14 = .ok (.iastore, 1) := by decide +kernel
theorem dX5_beginAt_15 : decode cX5_beginAt 15 = .ok (.aload_n 0, 1) := by decide +kernel
theorem dX5_beginAt_16 : decode cX5_beginAt 16 = .ok (.getfield 18, 3) := by decide +kernel
theorem dX5_beginAt_19 : decode cX5_beginAt 19 = .ok (.iload_n 2, 1) := by decide +kernel
theorem dX5_beginAt_20 : decode cX5_beginAt 20 = .ok (.iconst 0, 1) := by decide +kernel
theorem dX5_beginAt_21 : decode cX5_beginAt 21 = .ok (.bastore, 1) := by decide +kernel
theorem dX5_beginAt_22 : decode cX5_beginAt 22 = .ok (.iinc 2 1, 3) := by decide +kernel
theorem dX5_beginAt_25 : decode cX5_beginAt 25 = .ok (.goto (-23), 3) := by decide +kernel
theorem dX5_beginAt_28 : decode cX5_beginAt 28 = .ok (.aload_n 0, 1) := by decide +kernel
theorem dX5_beginAt_29 : decode cX5_beginAt 29 = .ok (.getfield 9, 3) := by decide +kernel
theorem dX5_beginAt_32 : decode cX5_beginAt 32 = .ok (.iload_n 1, 1) := by decide +kernel
theorem dX5_beginAt_33 : decode cX5_beginAt 33 = .ok (.iconst 0, 1) := by decide +kernel
theorem dX5_beginAt_34 : decode cX5_beginAt 34 = .ok (.iastore, 1) := by decide +kernel
theorem dX5_beginAt_35 : decode cX5_beginAt 35 = .ok (.return_, 1) := by decide +kernel
theorem dX5_nearestUnseen_0 : decode cX5_nearestUnseen 0 = .ok (.iconst (-1), 1) := by decide +kernel
theorem dX5_nearestUnseen_1 : decode cX5_nearestUnseen 1 = .ok (.istore_n 2, 1) := by decide +kernel
theorem dX5_nearestUnseen_2 : decode cX5_nearestUnseen 2 = .ok (.iconst 0, 1) := by decide +kernel
theorem dX5_nearestUnseen_3 : decode cX5_nearestUnseen 3 = .ok (.istore_n 3, 1) := by decide +kernel
theorem dX5_nearestUnseen_4 : decode cX5_nearestUnseen 4 = .ok (.iload_n 3, 1) := by decide +kernel
theorem dX5_nearestUnseen_5 : decode cX5_nearestUnseen 5 = .ok (.iload_n 1, 1) := by decide +kernel
theorem dX5_nearestUnseen_6 : decode cX5_nearestUnseen 6 = .ok (.if_icmp .ge 62, 3) := by decide +kernel
theorem dX5_nearestUnseen_9 : decode cX5_nearestUnseen 9 = .ok (.aload_n 0, 1) := by decide +kernel
theorem dX5_nearestUnseen_10 : decode cX5_nearestUnseen 10 = .ok (.getfield 18, 3) := by decide +kernel
theorem dX5_nearestUnseen_13 : decode cX5_nearestUnseen 13 = .ok (.iload_n 3, 1) := by decide +kernel
theorem dX5_nearestUnseen_14 : decode cX5_nearestUnseen 14 = .ok (.baload, 1) := by decide +kernel
theorem dX5_nearestUnseen_15 : decode cX5_nearestUnseen 15 = .ok (.ifCond .ne 17, 3) := by decide +kernel
theorem dX5_nearestUnseen_18 : decode cX5_nearestUnseen 18 = .ok (.aload_n 0, 1) := by decide +kernel
theorem dX5_nearestUnseen_19 : decode cX5_nearestUnseen 19 = .ok (.getfield 9, 3) := by decide +kernel
theorem dX5_nearestUnseen_22 : decode cX5_nearestUnseen 22 = .ok (.iload_n 3, 1) := by decide +kernel
theorem dX5_nearestUnseen_23 : decode cX5_nearestUnseen 23 = .ok (.iaload, 1) := by decide +kernel
theorem dX5_nearestUnseen_24 : decode cX5_nearestUnseen 24 = .ok (.iconst (-1), 1) := by decide +kernel
theorem dX5_nearestUnseen_25 : decode cX5_nearestUnseen 25 = .ok (.if_icmp .eq 7, 3) := by decide +kernel
theorem dX5_nearestUnseen_28 : decode cX5_nearestUnseen 28 = .ok (.iconst 1, 1) := by decide +kernel
theorem dX5_nearestUnseen_29 : decode cX5_nearestUnseen 29 = .ok (.goto 4, 3) := by decide +kernel
theorem dX5_nearestUnseen_32 : decode cX5_nearestUnseen 32 = .ok (.iconst 0, 1) := by decide +kernel
theorem dX5_nearestUnseen_33 : decode cX5_nearestUnseen 33 = .ok (.istore 4, 2) := by decide +kernel
theorem dX5_nearestUnseen_35 : decode cX5_nearestUnseen 35 = .ok (.iload 4, 2) := by decide +kernel
theorem dX5_nearestUnseen_37 : decode cX5_nearestUnseen 37 = .ok (.ifCond .eq 25, 3) := by decide +kernel
theorem dX5_nearestUnseen_40 : decode cX5_nearestUnseen 40 = .ok (.iload_n 2, 1) := by decide +kernel
theorem dX5_nearestUnseen_41 : decode cX5_nearestUnseen 41 = .ok (.iconst (-1), 1) := by decide +kernel
theorem dX5_nearestUnseen_42 : decode cX5_nearestUnseen 42 = .ok (.if_icmp .eq 18, 3) := by decide +kernel
theorem dX5_nearestUnseen_45 : decode cX5_nearestUnseen 45 = .ok (.aload_n 0, 1) := by decide +kernel
theorem dX5_nearestUnseen_46 : decode cX5_nearestUnseen 46 = .ok (.getfield 9, 3) := by decide +kernel
theorem dX5_nearestUnseen_49 : decode cX5_nearestUnseen 49 = .ok (.iload_n 3, 1) := by decide +kernel
theorem dX5_nearestUnseen_50 : decode cX5_nearestUnseen 50 = .ok (.iaload, 1) := by decide +kernel
theorem dX5_nearestUnseen_51 : decode cX5_nearestUnseen 51 = .ok (.aload_n 0, 1) := by decide +kernel
theorem dX5_nearestUnseen_52 : decode cX5_nearestUnseen 52 = .ok (.getfield 9, 3) := by decide +kernel
theorem dX5_nearestUnseen_55 : decode cX5_nearestUnseen 55 = .ok (.iload_n 2, 1) := by decide +kernel
theorem dX5_nearestUnseen_56 : decode cX5_nearestUnseen 56 = .ok (.iaload, 1) := by decide +kernel
theorem dX5_nearestUnseen_57 : decode cX5_nearestUnseen 57 = .ok (.if_icmp .ge 5, 3) := by decide +kernel
theorem dX5_nearestUnseen_60 : decode cX5_nearestUnseen 60 = .ok (.iload_n 3, 1) := by decide +kernel
theorem dX5_nearestUnseen_61 : decode cX5_nearestUnseen 61 = .ok (.istore_n 2, 1) := by decide +kernel
theorem dX5_nearestUnseen_62 : decode cX5_nearestUnseen 62 = .ok (.iinc 3 1, 3) := by decide +kernel
theorem dX5_nearestUnseen_65 : decode cX5_nearestUnseen 65 = .ok (.goto (-61), 3) := by decide +kernel
theorem dX5_nearestUnseen_68 : decode cX5_nearestUnseen 68 = .ok (.iload_n 2, 1) := by decide +kernel
theorem dX5_nearestUnseen_69 : decode cX5_nearestUnseen 69 = .ok (.ireturn, 1) := by decide +kernel
set_option maxRecDepth 20000 in
theorem ggX5_goOn_X5_shorten : GoodIn wsX5_goOn wsX5_shorten := goodIn_ca (goodIn_r _ [10, 11, 19, 20, 21] (by decide +kernel) (by decide +kernel)) (goodIn_sub (fun _ h => List.mem_cons_of_mem _ (List.mem_append_right _ h)) (by decide +kernel))
set_option maxRecDepth 20000 in
theorem gX5_goOn_X5_shorten : GoodIn wsX5_goOn (wsV RX5 52 RX5 yX5_shorten wsX5_shorten) := goodIn_app (goodIn_of _ (by decide +kernel)) ggX5_goOn_X5_shorten
theorem dX5_goOn_0 : decode cX5_goOn 0 = .ok (.iconst 0, 1) := by decide +kernel
theorem dX5_goOn_1 : decode cX5_goOn 1 = .ok (.istore 4, 2) := by decide +kernel
theorem dX5_goOn_3 : decode cX5_goOn 3 = .ok (.iload 4, 2) := by decide +kernel
theorem dX5_goOn_5 : decode cX5_goOn 5 = .ok (.aload_n 1, 1) := by decide +kernel
theorem dX5_goOn_6 : decode cX5_goOn 6 = .ok (.getfield 40, 3) := by decide +kernel
theorem dX5_goOn_9 : decode cX5_goOn 9 = .ok (.if_icmp .ge 93, 3) := by decide +kernel
theorem dX5_goOn_12 : decode cX5_goOn 12 = .ok (.aload_n 1, 1) := by decide +kernel
theorem dX5_goOn_13 : decode cX5_goOn 13 = .ok (.getfield 63, 3) := by decide +kernel
theorem dX5_goOn_16 : decode cX5_goOn 16 = .ok (.iload 4, 2) := by decide +kernel
theorem dX5_goOn_18 : decode cX5_goOn 18 = .ok (.iaload, 1) := by decide +kernel
theorem dX5_goOn_19 : decode cX5_goOn 19 = .ok (.iload_n 3, 1) := by decide +kernel
theorem dX5_goOn_20 : decode cX5_goOn 20 = .ok (.if_icmp .gt 34, 3) := by decide +kernel
theorem dX5_goOn_23 : decode cX5_goOn 23 = .ok (.aload_n 1, 1) := by decide +kernel
theorem dX5_goOn_24 : decode cX5_goOn 24 = .ok (.getfield 43, 3) := by decide +kernel
theorem dX5_goOn_27 : decode cX5_goOn 27 = .ok (.iload 4, 2) := by decide +kernel
theorem dX5_goOn_29 : decode cX5_goOn 29 = .ok (.iaload, 1) := by decide +kernel
theorem dX5_goOn_30 : decode cX5_goOn 30 = .ok (.iload_n 2, 1) := by decide +kernel
theorem dX5_goOn_31 : decode cX5_goOn 31 = .ok (.if_icmp .ne 23, 3) := by decide +kernel
theorem dX5_goOn_34 : decode cX5_goOn 34 = .ok (.aload_n 0, 1) := by decide +kernel
theorem dX5_goOn_35 : decode cX5_goOn 35 = .ok (.iload_n 2, 1) := by decide +kernel
theorem dX5_goOn_36 : decode cX5_goOn 36 = .ok (.aload_n 1, 1) := by decide +kernel
theorem dX5_goOn_37 : decode cX5_goOn 37 = .ok (.getfield 46, 3) := by decide +kernel
theorem dX5_goOn_40 : decode cX5_goOn 40 = .ok (.iload 4, 2) := by decide +kernel
theorem dX5_goOn_42 : decode cX5_goOn 42 = .ok (.iaload, 1) := by decide +kernel
theorem dX5_goOn_43 : decode cX5_goOn 43 = .ok (.aload_n 1, 1) := by decide +kernel
theorem dX5_goOn_44 : decode cX5_goOn 44 = .ok (.getfield 49, 3) := by decide +kernel
theorem dX5_goOn_47 : decode cX5_goOn 47 = .ok (.iload 4, 2) := by decide +kernel
theorem dX5_goOn_49 : decode cX5_goOn 49 = .ok (.iaload, 1) := by decide +kernel
theorem dX5_goOn_50 : decode cX5_goOn 50 = .ok (.invokevirtual 52, 3) := by decide +kernel
theorem dX5_goOn_53 : decode cX5_goOn 53 = .ok (.pop, 1) := by decide +kernel
theorem dX5_goOn_54 : decode cX5_goOn 54 = .ok (.aload_n 1, 1) := by decide +kernel
theorem dX5_goOn_55 : decode cX5_goOn 55 = .ok (.getfield 63, 3) := by decide +kernel
theorem dX5_goOn_58 : decode cX5_goOn 58 = .ok (.iload 4, 2) := by decide +kernel
theorem dX5_goOn_60 : decode cX5_goOn 60 = .ok (.iaload, 1) := by decide +kernel
theorem dX5_goOn_61 : decode cX5_goOn 61 = .ok (.iload_n 3, 1) := by decide +kernel
theorem dX5_goOn_62 : decode cX5_goOn 62 = .ok (.if_icmp .gt 34, 3) := by decide +kernel
theorem dX5_goOn_65 : decode cX5_goOn 65 = .ok (.aload_n 1, 1) := by decide +kernel
theorem dX5_goOn_66 : decode cX5_goOn 66 = .ok (.getfield 46, 3) := by decide +kernel
theorem dX5_goOn_69 : decode cX5_goOn 69 = .ok (.iload 4, 2) := by decide +kernel
theorem dX5_goOn_71 : decode cX5_goOn 71 = .ok (.iaload, 1) := by decide +kernel
theorem dX5_goOn_72 : decode cX5_goOn 72 = .ok (.iload_n 2, 1) := by decide +kernel
theorem dX5_goOn_73 : decode cX5_goOn 73 = .ok (.if_icmp .ne 23, 3) := by decide +kernel
theorem dX5_goOn_76 : decode cX5_goOn 76 = .ok (.aload_n 0, 1) := by decide +kernel
theorem dX5_goOn_77 : decode cX5_goOn 77 = .ok (.iload_n 2, 1) := by decide +kernel
theorem dX5_goOn_78 : decode cX5_goOn 78 = .ok (.aload_n 1, 1) := by decide +kernel
theorem dX5_goOn_79 : decode cX5_goOn 79 = .ok (.getfield 43, 3) := by decide +kernel
theorem dX5_goOn_82 : decode cX5_goOn 82 = .ok (.iload 4, 2) := by decide +kernel
theorem dX5_goOn_84 : decode cX5_goOn 84 = .ok (.iaload, 1) := by decide +kernel
theorem dX5_goOn_85 : decode cX5_goOn 85 = .ok (.aload_n 1, 1) := by decide +kernel
theorem dX5_goOn_86 : decode cX5_goOn 86 = .ok (.getfield 49, 3) := by decide +kernel
theorem dX5_goOn_89 : decode cX5_goOn 89 = .ok (.iload 4, 2) := by decide +kernel
theorem dX5_goOn_91 : decode cX5_goOn 91 = .ok (.iaload, 1) := by decide +kernel
theorem dX5_goOn_92 : decode cX5_goOn 92 = .ok (.invokevirtual 52, 3) := by decide +kernel
theorem dX5_goOn_95 : decode cX5_goOn 95 = .ok (.pop, 1) := by decide +kernel
theorem dX5_goOn_96 : decode cX5_goOn 96 = .ok (.iinc 4 1, 3) := by decide +kernel
theorem dX5_goOn_99 : decode cX5_goOn 99 = .ok (.goto (-96), 3) := by decide +kernel
theorem dX5_goOn_102 : decode cX5_goOn 102 = .ok (.return_, 1) := by decide +kernel
theorem dX5_shorten_0 : decode cX5_shorten 0 = .ok (.aload_n 0, 1) := by decide +kernel
theorem dX5_shorten_1 : decode cX5_shorten 1 = .ok (.getfield 9, 3) := by decide +kernel
theorem dX5_shorten_4 : decode cX5_shorten 4 = .ok (.iload_n 1, 1) := by decide +kernel
theorem dX5_shorten_5 : decode cX5_shorten 5 = .ok (.iaload, 1) := by decide +kernel
theorem dX5_shorten_6 : decode cX5_shorten 6 = .ok (.iconst (-1), 1) := by decide +kernel
theorem dX5_shorten_7 : decode cX5_shorten 7 = .ok (.if_icmp .ne 5, 3) := by decide +kernel
theorem dX5_shorten_10 : decode cX5_shorten 10 = .ok (.iconst 0, 1) := by decide +kernel
theorem dX5_shorten_11 : decode cX5_shorten 11 = .ok (.ireturn, 1) := by decide +kernel
theorem dX5_shorten_12 : decode cX5_shorten 12 = .ok (.aload_n 0, 1) := by decide +kernel
theorem dX5_shorten_13 : decode cX5_shorten 13 = .ok (.getfield 9, 3) := by decide +kernel
theorem dX5_shorten_16 : decode cX5_shorten 16 = .ok (.iload_n 1, 1) := by decide +kernel
theorem dX5_shorten_17 : decode cX5_shorten 17 = .ok (.iaload, 1) := by decide +kernel
theorem dX5_shorten_18 : decode cX5_shorten 18 = .ok (.iload_n 3, 1) := by decide +kernel
theorem dX5_shorten_19 : decode cX5_shorten 19 = .ok (.iadd, 1) := by decide +kernel
theorem dX5_shorten_20 : decode cX5_shorten 20 = .ok (.istore 4, 2) := by decide +kernel
theorem dX5_shorten_22 : decode cX5_shorten 22 = .ok (.aload_n 0, 1) := by decide +kernel
theorem dX5_shorten_23 : decode cX5_shorten 23 = .ok (.getfield 9, 3) := by decide +kernel
theorem dX5_shorten_26 : decode cX5_shorten 26 = .ok (.iload_n 2, 1) := by decide +kernel
theorem dX5_shorten_27 : decode cX5_shorten 27 = .ok (.iaload, 1) := by decide +kernel
theorem dX5_shorten_28 : decode cX5_shorten 28 = .ok (.iconst (-1), 1) := by decide +kernel
theorem dX5_shorten_29 : decode cX5_shorten 29 = .ok (.if_icmp .eq 16, 3) := by decide +kernel
theorem dX5_shorten_32 : decode cX5_shorten 32 = .ok (.aload_n 0, 1) := by decide +kernel
theorem dX5_shorten_33 : decode cX5_shorten 33 = .ok (.getfield 9, 3) := by decide +kernel
theorem dX5_shorten_36 : decode cX5_shorten 36 = .ok (.iload_n 2, 1) := by decide +kernel
theorem dX5_shorten_37 : decode cX5_shorten 37 = .ok (.iaload, 1) := by decide +kernel
theorem dX5_shorten_38 : decode cX5_shorten 38 = .ok (.iload 4, 2) := by decide +kernel
theorem dX5_shorten_40 : decode cX5_shorten 40 = .ok (.if_icmp .gt 5, 3) := by decide +kernel
theorem dX5_shorten_43 : decode cX5_shorten 43 = .ok (.iconst 0, 1) := by decide +kernel
theorem dX5_shorten_44 : decode cX5_shorten 44 = .ok (.ireturn, 1) := by decide +kernel
theorem dX5_shorten_45 : decode cX5_shorten 45 = .ok (.aload_n 0, 1) := by decide +kernel
theorem dX5_shorten_46 : decode cX5_shorten 46 = .ok (.getfield 9, 3) := by decide +kernel
theorem dX5_shorten_49 : decode cX5_shorten 49 = .ok (.iload_n 2, 1) := by decide +kernel
theorem dX5_shorten_50 : decode cX5_shorten 50 = .ok (.iload 4, 2) := by decide +kernel
theorem dX5_shorten_52 : decode cX5_shorten 52 = .ok (.iastore, 1) := by decide +kernel
theorem dX5_shorten_53 : decode cX5_shorten 53 = .ok (.iconst 1, 1) := by decide +kernel
theorem dX5_shorten_54 : decode cX5_shorten 54 = .ok (.ireturn, 1) := by decide +kernel
theorem dX5_separate_0 : decode cX5_separate 0 = .ok (.iconst 0, 1) := by decide +kernel
theorem dX5_separate_1 : decode cX5_separate 1 = .ok (.istore_n 1, 1) := by decide +kernel
theorem dX5_separate_2 : decode cX5_separate 2 = .ok (.iload_n 1, 1) := by decide +kernel
theorem dX5_separate_3 : decode cX5_separate 3 = .ok (.bipush 10, 2) := by decide +kernel
theorem dX5_separate_5 : decode cX5_separate 5 = .ok (.if_icmp .ge 16, 3) := by decide +kernel
theorem dX5_separate_8 : decode cX5_separate 8 = .ok (.aload_n 0, 1) := by decide +kernel
theorem dX5_separate_9 : decode cX5_separate 9 = .ok (.getfield 15, 3) := by decide +kernel
theorem dX5_separate_12 : decode cX5_separate 12 = .ok (.iload_n 1, 1) := by decide +kernel
theorem dX5_separate_13 : decode cX5_separate 13 = .ok (.iload_n 1, 1) := by decide +kernel
theorem dX5_separate_14 : decode cX5_separate 14 = .ok (.iastore, 1) := by decide +kernel
theorem dX5_separate_15 : decode cX5_separate 15 = .ok (.iinc 1 1, 3) := by decide +kernel
theorem dX5_separate_18 : decode cX5_separate 18 = .ok (.goto (-16), 3) := by decide +kernel
theorem dX5_separate_21 : decode cX5_separate 21 = .ok (.return_, 1) := by decide +kernel
theorem dX5_join_0 : decode cX5_join 0 = .ok (.aload_n 0, 1) := by decide +kernel
theorem dX5_join_1 : decode cX5_join 1 = .ok (.getfield 15, 3) := by decide +kernel
theorem dX5_join_4 : decode cX5_join 4 = .ok (.iload_n 1, 1) := by decide +kernel
theorem dX5_join_5 : decode cX5_join 5 = .ok (.iaload, 1) := by decide +kernel
theorem dX5_join_6 : decode cX5_join 6 = .ok (.istore_n 3, 1) := by decide +kernel
theorem dX5_join_7 : decode cX5_join 7 = .ok (.aload_n 0, 1) := by decide +kernel
theorem dX5_join_8 : decode cX5_join 8 = .ok (.getfield 15, 3) := by decide +kernel
theorem dX5_join_11 : decode cX5_join 11 = .ok (.iload_n 2, 1) := by decide +kernel
theorem dX5_join_12 : decode cX5_join 12 = .ok (.iaload, 1) := by decide +kernel
theorem dX5_join_13 : decode cX5_join 13 = .ok (.istore 4, 2) := by decide +kernel
theorem dX5_join_15 : decode cX5_join 15 = .ok (.iload_n 3, 1) := by decide +kernel
theorem dX5_join_16 : decode cX5_join 16 = .ok (.iload 4, 2) := by decide +kernel
theorem dX5_join_18 : decode cX5_join 18 = .ok (.if_icmp .ne 5, 3) := by decide +kernel
theorem dX5_join_21 : decode cX5_join 21 = .ok (.iconst 0, 1) := by decide +kernel
theorem dX5_join_22 : decode cX5_join 22 = .ok (.ireturn, 1) := by decide +kernel
theorem dX5_join_23 : decode cX5_join 23 = .ok (.iconst 0, 1) := by decide +kernel
theorem dX5_join_24 : decode cX5_join 24 = .ok (.istore 5, 2) := by decide +kernel
theorem dX5_join_26 : decode cX5_join 26 = .ok (.iload 5, 2) := by decide +kernel
theorem dX5_join_28 : decode cX5_join 28 = .ok (.bipush 10, 2) := by decide +kernel
theorem dX5_join_30 : decode cX5_join 30 = .ok (.if_icmp .ge 29, 3) := by decide +kernel
theorem dX5_join_33 : decode cX5_join 33 = .ok (.aload_n 0, 1) := by decide +kernel
theorem dX5_join_34 : decode cX5_join 34 = .ok (.getfield 15, 3) := by decide +kernel
theorem dX5_join_37 : decode cX5_join 37 = .ok (.iload 5, 2) := by decide +kernel
theorem dX5_join_39 : decode cX5_join 39 = .ok (.iaload, 1) := by decide +kernel
theorem dX5_join_40 : decode cX5_join 40 = .ok (.iload 4, 2) := by decide +kernel
theorem dX5_join_42 : decode cX5_join 42 = .ok (.if_icmp .ne 11, 3) := by decide +kernel
theorem dX5_join_45 : decode cX5_join 45 = .ok (.aload_n 0, 1) := by decide +kernel
theorem dX5_join_46 : decode cX5_join 46 = .ok (.getfield 15, 3) := by decide +kernel
theorem dX5_join_49 : decode cX5_join 49 = .ok (.iload 5, 2) := by decide +kernel
theorem dX5_join_51 : decode cX5_join 51 = .ok (.iload_n 3, 1) := by decide +kernel
theorem dX5_join_52 : decode cX5_join 52 = .ok (.iastore, 1) := by decide +kernel
theorem dX5_join_53 : decode cX5_join 53 = .ok (.iinc 5 1, 3) := by decide +kernel
theorem dX5_join_56 : decode cX5_join 56 = .ok (.goto (-30), 3) := by decide +kernel
theorem dX5_join_59 : decode cX5_join 59 = .ok (.iconst 1, 1) := by decide +kernel
theorem dX5_join_60 : decode cX5_join 60 = .ok (.ireturn, 1) := by decide +kernel
theorem dX5_hasRoute_0 : decode cX5_hasRoute 0 = .ok (.iconst 0, 1) := by decide +kernel
theorem dX5_hasRoute_1 : decode cX5_hasRoute 1 = .ok (.istore 5, 2) := by decide +kernel
theorem dX5_hasRoute_3 : decode cX5_hasRoute 3 = .ok (.iload 5, 2) := by decide +kernel
theorem dX5_hasRoute_5 : decode cX5_hasRoute 5 = .ok (.bipush 10, 2) := by decide +kernel
theorem dX5_hasRoute_7 : decode cX5_hasRoute 7 = .ok (.if_icmp .ge 27, 3) := by decide +kernel
theorem dX5_hasRoute_10 : decode cX5_hasRoute 10 = .ok (.aload_n 0, 1) := by decide +kernel
theorem dX5_hasRoute_11 : decode cX5_hasRoute 11 = .ok (.getfield 18, 3) := by decide +kernel
theorem dX5_hasRoute_14 : decode cX5_hasRoute 14 = .ok (.iload 5, 2) := by decide +kernel
theorem dX5_hasRoute_16 : decode cX5_hasRoute 16 = .ok (.iload 5, 2) := by decide +kernel
theorem dX5_hasRoute_18 : decode cX5_hasRoute 18 = .ok (.iload_n 2, 1) := by decide +kernel
theorem dX5_hasRoute_19 : decode cX5_hasRoute 19 = .ok (.if_icmp .ne 7, 3) := by decide +kernel
theorem dX5_hasRoute_22 : decode cX5_hasRoute 22 = .ok (.iconst 1, 1) := by decide +kernel
theorem dX5_hasRoute_23 : decode cX5_hasRoute 23 = .ok (.goto 4, 3) := by decide +kernel
theorem dX5_hasRoute_26 : decode cX5_hasRoute 26 = .ok (.iconst 0, 1) := by decide +kernel
theorem dX5_hasRoute_27 : decode cX5_hasRoute 27 = .ok (.bastore, 1) := by decide +kernel
theorem dX5_hasRoute_28 : decode cX5_hasRoute 28 = .ok (.iinc 5 1, 3) := by decide +kernel
theorem dX5_hasRoute_31 : decode cX5_hasRoute 31 = .ok (.goto (-28), 3) := by decide +kernel
theorem dX5_hasRoute_34 : decode cX5_hasRoute 34 = .ok (.iconst 1, 1) := by decide +kernel
theorem dX5_hasRoute_35 : decode cX5_hasRoute 35 = .ok (.istore 5, 2) := by decide +kernel
theorem dX5_hasRoute_37 : decode cX5_hasRoute 37 = .ok (.iconst 0, 1) := by decide +kernel
theorem dX5_hasRoute_38 : decode cX5_hasRoute 38 = .ok (.istore 6, 2) := by decide +kernel
theorem dX5_hasRoute_40 : decode cX5_hasRoute 40 = .ok (.iload 5, 2) := by decide +kernel
theorem dX5_hasRoute_42 : decode cX5_hasRoute 42 = .ok (.ifCond .eq 112, 3) := by decide +kernel
theorem dX5_hasRoute_45 : decode cX5_hasRoute 45 = .ok (.aload_n 0, 1) := by decide +kernel
theorem dX5_hasRoute_46 : decode cX5_hasRoute 46 = .ok (.getfield 18, 3) := by decide +kernel
theorem dX5_hasRoute_49 : decode cX5_hasRoute 49 = .ok (.iload_n 3, 1) := by decide +kernel
theorem dX5_hasRoute_50 : decode cX5_hasRoute 50 = .ok (.baload, 1) := by decide +kernel
theorem dX5_hasRoute_51 : decode cX5_hasRoute 51 = .ok (.ifCond .ne 103, 3) := by decide +kernel
theorem dX5_hasRoute_54 : decode cX5_hasRoute 54 = .ok (.iload 6, 2) := by decide +kernel
theorem dX5_hasRoute_56 : decode cX5_hasRoute 56 = .ok (.bipush 10, 2) := by decide +kernel
theorem dX5_hasRoute_58 : decode cX5_hasRoute 58 = .ok (.if_icmp .ge 96, 3) := by decide +kernel
theorem dX5_hasRoute_61 : decode cX5_hasRoute 61 = .ok (.iconst 0, 1) := by decide +kernel
theorem dX5_hasRoute_62 : decode cX5_hasRoute 62 = .ok (.istore 5, 2) := by decide +kernel
theorem dX5_hasRoute_64 : decode cX5_hasRoute 64 = .ok (.iconst 0, 1) := by decide +kernel
theorem dX5_hasRoute_65 : decode cX5_hasRoute 65 = .ok (.istore 7, 2) := by decide +kernel
theorem dX5_hasRoute_67 : decode cX5_hasRoute 67 = .ok (.iload 7, 2) := by decide +kernel
theorem dX5_hasRoute_69 : decode cX5_hasRoute 69 = .ok (.aload_n 1, 1) := by decide +kernel
theorem dX5_hasRoute_70 : decode cX5_hasRoute 70 = .ok (.getfield 40, 3) := by decide +kernel
theorem dX5_hasRoute_73 : decode cX5_hasRoute 73 = .ok (.if_icmp .ge 75, 3) := by decide +kernel
theorem dX5_hasRoute_76 : decode cX5_hasRoute 76 = .ok (.aload_n 1, 1) := by decide +kernel
theorem dX5_hasRoute_77 : decode cX5_hasRoute 77 = .ok (.getfield 43, 3) := by decide +kernel
theorem dX5_hasRoute_80 : decode cX5_hasRoute 80 = .ok (.iload 7, 2) := by decide +kernel
theorem dX5_hasRoute_82 : decode cX5_hasRoute 82 = .ok (.iaload, 1) := by decide +kernel
theorem dX5_hasRoute_83 : decode cX5_hasRoute 83 = .ok (.istore 8, 2) := by decide +kernel
theorem dX5_hasRoute_85 : decode cX5_hasRoute 85 = .ok (.aload_n 1, 1) := by decide +kernel
theorem dX5_hasRoute_86 : decode cX5_hasRoute 86 = .ok (.getfield 46, 3) := by decide +kernel
theorem dX5_hasRoute_89 : decode cX5_hasRoute 89 = .ok (.iload 7, 2) := by decide +kernel
theorem dX5_hasRoute_91 : decode cX5_hasRoute 91 = .ok (.iaload, 1) := by decide +kernel
theorem dX5_hasRoute_92 : decode cX5_hasRoute 92 = .ok (.istore 9, 2) := by decide +kernel
theorem dX5_hasRoute_94 : decode cX5_hasRoute 94 = .ok (.aload_n 1, 1) := by decide +kernel
theorem dX5_hasRoute_95 : decode cX5_hasRoute 95 = .ok (.getfield 63, 3) := by decide +kernel
theorem dX5_hasRoute_98 : decode cX5_hasRoute 98 = .ok (.iload 7, 2) := by decide +kernel
theorem dX5_hasRoute_100 : decode cX5_hasRoute 100 = .ok (.iaload, 1) := by decide +kernel
theorem dX5_hasRoute_101 : decode cX5_hasRoute 101 = .ok (.iload 4, 2) := by decide +kernel
theorem dX5_hasRoute_103 : decode cX5_hasRoute 103 = .ok (.if_icmp .gt 39, 3) := by decide +kernel
theorem dX5_hasRoute_106 : decode cX5_hasRoute 106 = .ok (.aload_n 0, 1) := by decide +kernel
theorem dX5_hasRoute_107 : decode cX5_hasRoute 107 = .ok (.getfield 18, 3) := by decide +kernel
theorem dX5_hasRoute_110 : decode cX5_hasRoute 110 = .ok (.iload 8, 2) := by decide +kernel
theorem dX5_hasRoute_112 : decode cX5_hasRoute 112 = .ok (.baload, 1) := by decide +kernel
theorem dX5_hasRoute_113 : decode cX5_hasRoute 113 = .ok (.aload_n 0, 1) := by decide +kernel
theorem dX5_hasRoute_114 : decode cX5_hasRoute 114 = .ok (.getfield 18, 3) := by decide +kernel
theorem dX5_hasRoute_117 : decode cX5_hasRoute 117 = .ok (.iload 9, 2) := by decide +kernel
theorem dX5_hasRoute_119 : decode cX5_hasRoute 119 = .ok (.baload, 1) := by decide +kernel
theorem dX5_hasRoute_120 : decode cX5_hasRoute 120 = .ok (.if_icmp .eq 22, 3) := by decide +kernel
theorem dX5_hasRoute_123 : decode cX5_hasRoute 123 = .ok (.aload_n 0, 1) := by decide +kernel
theorem dX5_hasRoute_124 : decode cX5_hasRoute 124 = .ok (.getfield 18, 3) := by decide +kernel
theorem dX5_hasRoute_127 : decode cX5_hasRoute 127 = .ok (.iload 8, 2) := by decide +kernel
theorem dX5_hasRoute_129 : decode cX5_hasRoute 129 = .ok (.iconst 1, 1) := by decide +kernel
theorem dX5_hasRoute_130 : decode cX5_hasRoute 130 = .ok (.bastore, 1) := by decide +kernel
theorem dX5_hasRoute_131 : decode cX5_hasRoute 131 = .ok (.aload_n 0, 1) := by decide +kernel
theorem dX5_hasRoute_132 : decode cX5_hasRoute 132 = .ok (.getfield 18, 3) := by decide +kernel
theorem dX5_hasRoute_135 : decode cX5_hasRoute 135 = .ok (.iload 9, 2) := by decide +kernel
theorem dX5_hasRoute_137 : decode cX5_hasRoute 137 = .ok (.iconst 1, 1) := by decide +kernel
theorem dX5_hasRoute_138 : decode cX5_hasRoute 138 = .ok (.bastore, 1) := by decide +kernel
theorem dX5_hasRoute_139 : decode cX5_hasRoute 139 = .ok (.iconst 1, 1) := by decide +kernel
theorem dX5_hasRoute_140 : decode cX5_hasRoute 140 = .ok (.istore 5, 2) := by decide +kernel
theorem dX5_hasRoute_142 : decode cX5_hasRoute 142 = .ok (.iinc 7 1, 3) := by decide +kernel
theorem dX5_hasRoute_145 : decode cX5_hasRoute 145 = .ok (.goto (-78), 3) := by decide +kernel
theorem dX5_hasRoute_148 : decode cX5_hasRoute 148 = .ok (.iinc 6 1, 3) := by decide +kernel
theorem dX5_hasRoute_151 : decode cX5_hasRoute 151 = .ok (.goto (-111), 3) := by decide +kernel
theorem dX5_hasRoute_154 : decode cX5_hasRoute 154 = .ok (.aload_n 0, 1) := by decide +kernel
theorem dX5_hasRoute_155 : decode cX5_hasRoute 155 = .ok (.getfield 18, 3) := by decide +kernel
theorem dX5_hasRoute_158 : decode cX5_hasRoute 158 = .ok (.iload_n 3, 1) := by decide +kernel
theorem dX5_hasRoute_159 : decode cX5_hasRoute 159 = .ok (.baload, 1) := by decide +kernel
theorem dX5_hasRoute_160 : decode cX5_hasRoute 160 = .ok (.ireturn, 1) := by decide +kernel
theorem dX6_init_0 : decode cX6_init 0 = .ok (.aload_n 0, 1) := by decide +kernel
theorem dX6_init_1 : decode cX6_init 1 = .ok (.invokespecial 3, 3) := by decide +kernel
theorem dX6_init_4 : decode cX6_init 4 = .ok (.aload_n 0, 1) := by decide +kernel
theorem dX6_init_5 : decode cX6_init 5 = .ok (.getstatic 9, 3) := by decide +kernel
theorem dX6_init_8 : decode cX6_init 8 = .ok (.putfield 15, 3) := by decide +kernel
theorem dX6_init_11 : decode cX6_init 11 = .ok (.aload_n 0, 1) := by decide +kernel
theorem dX6_init_12 : decode cX6_init 12 = .ok (.iconst 4, 1) := by decide +kernel
theorem dX6_init_13 : decode cX6_init 13 = .ok (.newarray .int, 2) := by decide +kernel
theorem dX6_init_15 : decode cX6_init 15 = .ok (.putfield 20, 3) := by decide +kernel
theorem dX6_init_18 : decode cX6_init 18 = .ok (.aload_n 0, 1) := by decide +kernel
theorem dX6_init_19 : decode cX6_init 19 = .ok (.bipush 60, 2) := by decide +kernel
theorem dX6_init_21 : decode cX6_init 21 = .ok (.newarray .char, 2) := by decide +kernel
theorem dX6_init_23 : decode cX6_init 23 = .ok (.putfield 24, 3) := by decide +kernel
theorem dX6_init_26 : decode cX6_init 26 = .ok (.return_, 1) := by decide +kernel
theorem dX6_isFull_0 : decode cX6_isFull 0 = .ok (.aload_n 0, 1) := by decide +kernel
theorem dX6_isFull_1 : decode cX6_isFull 1 = .ok (.getfield 28, 3) := by decide +kernel
theorem dX6_isFull_4 : decode cX6_isFull 4 = .ok (.bipush 60, 2) := by decide +kernel
theorem dX6_isFull_6 : decode cX6_isFull 6 = .ok (.if_icmp .lt 7, 3) := by decide +kernel
theorem dX6_isFull_9 : decode cX6_isFull 9 = .ok (.iconst 1, 1) := by decide +kernel
theorem dX6_isFull_10 : decode cX6_isFull 10 = .ok (.goto 4, 3) := by decide +kernel
theorem dX6_isFull_13 : decode cX6_isFull 13 = .ok (.iconst 0, 1) := by decide +kernel
theorem dX6_isFull_14 : decode cX6_isFull 14 = .ok (.ireturn, 1) := by decide +kernel
set_option maxRecDepth 20000 in
theorem ggX6_append_X6_isFull : GoodIn wsX6_append wsX6_isFull := goodIn_r _ [7, 2, 8, 9, 10, 11, 12] (by decide +kernel) (by decide +kernel)
set_option maxRecDepth 20000 in
theorem gX6_append_X6_isFull : GoodIn wsX6_append (wsV RX6 32 RX6 yX6_isFull wsX6_isFull) := goodIn_app (goodIn_of _ (by decide +kernel)) ggX6_append_X6_isFull
theorem dX6_append_0 : decode cX6_append 0 = .ok (.aload_n 0, 1) := by decide +kernel
theorem dX6_append_1 : decode cX6_append 1 = .ok (.invokevirtual 32, 3) := by decide +kernel
theorem dX6_append_4 : decode cX6_append 4 = .ok (.ifCond .ne 23, 3) := by decide +kernel
theorem dX6_append_7 : decode cX6_append 7 = .ok (.aload_n 0, 1) := by decide +kernel
theorem dX6_append_8 : decode cX6_append 8 = .ok (.getfield 24, 3) := by decide +kernel
theorem dX6_append_11 : decode cX6_append 11 = .ok (.aload_n 0, 1) := by decide +kernel
theorem dX6_append_12 : decode cX6_append 12 = .ok (.getfield 28, 3) := by decide +kernel
theorem dX6_append_15 : decode cX6_append 15 = .ok (.iload_n 1, 1) := by decide +kernel
theorem dX6_append_16 : decode cX6_append 16 = .ok (.castore, 1) := by decide +kernel
theorem dX6_append_17 : decode cX6_append 17 = .ok (.aload_n 0, 1) := by decide +kernel
theorem dX6_append_18 : decode cX6_append 18 = .ok (.dup, 1) := by decide +kernel
theorem dX6_append_19 : decode cX6_append 19 = .ok (.getfield 28, 3) := by decide +kernel
theorem dX6_append_22 : decode cX6_append 22 = .ok (.iconst 1, 1) := by decide +kernel
theorem dX6_append_23 : decode cX6_append 23 = .ok (.iadd, 1) := by decide +kernel
theorem dX6_append_24 : decode cX6_append 24 = .ok (.putfield 28, 3) := by decide +kernel
theorem dX6_append_27 : decode cX6_append 27 = .ok (.aload_n 0, 1) := by decide +kernel
theorem dX6_append_28 : decode cX6_append 28 = .ok (.getfield 28, 3) := by decide +kernel
theorem dX6_append_31 : decode cX6_append 31 = .ok (.ireturn, 1) := by decide +kernel
theorem dX6_clear_0 : decode cX6_clear 0 = .ok (.aload_n 0, 1) := by decide +kernel
theorem dX6_clear_1 : decode cX6_clear 1 = .ok (.iconst 0, 1) := by decide +kernel
theorem dX6_clear_2 : decode cX6_clear 2 = .ok (.putfield 28, 3) := by decide +kernel
theorem dX6_clear_5 : decode cX6_clear 5 = .ok (.return_, 1) := by decide +kernel
theorem dX6_rewind_0 : decode cX6_rewind 0 = .ok (.aload_n 0, 1) := by decide +kernel
theorem dX6_rewind_1 : decode cX6_rewind 1 = .ok (.iconst 0, 1) := by decide +kernel
theorem dX6_rewind_2 : decode cX6_rewind 2 = .ok (.putfield 36, 3) := by decide +kernel
theorem dX6_rewind_5 : decode cX6_rewind 5 = .ok (.return_, 1) := by decide +kernel
set_option maxRecDepth 20000 in
theorem ggX6_countCommands_X6_rewind : GoodIn wsX6_countCommands wsX6_rewind := goodIn_r _ [7, 1, 94, 95, 96, 97, 98] (by decide +kernel) (by decide +kernel)
set_option maxRecDepth 20000 in
theorem gX6_countCommands_X6_rewind : GoodIn wsX6_countCommands (wsV RX6 39 RX6 yX6_rewind wsX6_rewind) := goodIn_app (goodIn_of _ (by decide +kernel)) ggX6_countCommands_X6_rewind
set_option maxRecDepth 20000 in
theorem ggX6_countCommands_X6_readNext : GoodIn wsX6_countCommands wsX6_readNext := goodIn_ca (goodIn_r _ [11, 1, 12, 13, 14, 6, 15, 2, 16, 17, 18, 19, 20, 21, 22, 23, 24, 25, 26, 27, 28, 29, 30, 31, 32, 33, 34, 35, 36, 37, 38, 39, 40, 41, 42, 43, 44, 45, 46, 47, 48, 49, 50, 51, 52, 53, 54, 55, 56, 57, 58, 59, 60, 61, 62, 63, 64, 65, 66, 67, 68, 69, 70, 71, 72, 73, 74, 75, 76, 77, 78, 79, 80, 81, 82, 83, 84, 85, 86, 87, 88, 89, 90, 91, 92, 93, 94, 95, 96, 97, 98, 99, 100, 101, 102] (by decide +kernel) (by decide +kernel)) (goodIn_sub (fun _ h => List.mem_cons_of_mem _ (List.mem_append_right _ h)) (by decide +kernel))
set_option maxRecDepth 20000 in
theorem gX6_countCommands_X6_readNext : GoodIn wsX6_countCommands (wsV RX6 42 RX6 yX6_readNext wsX6_readNext) := goodIn_app (goodIn_of _ (by decide +kernel)) ggX6_countCommands_X6_readNext
theorem dX6_countCommands_0 : decode cX6_countCommands 0 = .ok (.aload_n 0, 1) := by decide +kernel
theorem dX6_countCommands_1 : decode cX6_countCommands 1 = .ok (.invokevirtual 39, 3) := by decide +kernel
theorem dX6_countCommands_4 : decode cX6_countCommands 4 = .ok (.iconst 1, 1) := by decide +kernel
theorem dX6_countCommands_5 : decode cX6_countCommands 5 = .ok (.istore_n 1, 1) := by decide +kernel
theorem dX6_countCommands_6 : decode cX6_countCommands 6 = .ok (.iload_n 1, 1) := by decide +kernel
theorem dX6_countCommands_7 : decode cX6_countCommands 7 = .ok (.bipush 60, 2) := by decide +kernel
theorem dX6_countCommands_9 : decode cX6_countCommands 9 = .ok (.if_icmp .gt 31, 3) := by decide +kernel
theorem dX6_countCommands_12 : decode cX6_countCommands 12 = .ok (.aload_n 0, 1) := by decide +kernel
theorem dX6_countCommands_13 : decode cX6_countCommands 13 = .ok (.invokevirtual 42, 3) := by decide +kernel
theorem dX6_countCommands_16 : decode cX6_countCommands 16 = .ok (.ifCond .ne 5, 3) := by decide +kernel
theorem dX6_countCommands_19 : decode cX6_countCommands 19 = .ok (.iconst (-1), 1) := by decide +kernel
theorem dX6_countCommands_20 : decode cX6_countCommands 20 = .ok (.ireturn, 1) := by decide +kernel
theorem dX6_countCommands_21 : decode cX6_countCommands 21 = .ok (.aload_n 0, 1) := by decide +kernel
theorem dX6_countCommands_22 : decode cX6_countCommands 22 = .ok (.getfield 36, 3) := by decide +kernel
theorem dX6_countCommands_25 : decode cX6_countCommands 25 = .ok (.aload_n 0, 1) := by decide +kernel
theorem dX6_countCommands_26 : decode cX6_countCommands 26 = .ok (.getfield 28, 3) := by decide +kernel
theorem dX6_countCommands_29 : decode cX6_countCommands 29 = .ok (.if_icmp .ne 5, 3) := by decide +kernel
theorem dX6_countCommands_32 : decode cX6_countCommands 32 = .ok (.iload_n 1, 1) := by decide +kernel
theorem dX6_countCommands_33 : decode cX6_countCommands 33 = .ok (.ireturn, 1) := by decide +kernel
theorem dX6_countCommands_34 : decode cX6_countCommands 34 = .ok (.iinc 1 1, 3) := by decide +kernel
theorem dX6_countCommands_37 : decode cX6_countCommands 37 = .ok (.goto (-31), 3) := by decide +kernel
theorem dX6_countCommands_40 : decode cX6_countCommands 40 = .ok (.iconst (-1), 1) := by decide +kernel
theorem dX6_countCommands_41 : decode cX6_countCommands 41 = .ok (.ireturn, 1) := by decide +kernel
set_option maxRecDepth 20000 in
theorem ggX6_readNext_X6_take : GoodIn wsX6_readNext wsX6_take := goodIn_ca (goodIn_r _ [6, 1, 7, 8, 86, 87, 88, 89, 90] (by decide +kernel) (by decide +kernel)) (goodIn_sub (fun _ h => List.mem_cons_of_mem _ (List.mem_append_right _ h)) (by decide +kernel))
set_option maxRecDepth 20000 in
theorem gX6_readNext_X6_take : GoodIn wsX6_readNext (wsV RX6 45 RX6 yX6_take wsX6_take) := goodIn_app (goodIn_of _ (by decide +kernel)) ggX6_readNext_X6_take
set_option maxRecDepth 20000 in
theorem ggX6_readNext_X6_readWord : GoodIn wsX6_readNext wsX6_readWord := goodIn_ca (goodIn_r _ [12, 13, 14, 15, 1, 16, 17, 18, 19, 20, 21, 22, 5, 23, 7, 8, 24, 25, 26, 27, 28, 29, 30, 31, 32, 33, 34, 35, 36, 37, 38, 39, 40, 41, 42, 43, 44, 45, 46, 47, 48, 49, 50, 51, 52, 53, 54, 55, 56, 57, 58, 59, 60, 61, 62, 63, 64, 65, 66, 67, 68, 69, 70, 71, 72, 86, 87, 88, 89, 90, 91, 92, 93, 94] (by decide +kernel) (by decide +kernel)) (goodIn_sub (fun _ h => List.mem_cons_of_mem _ (List.mem_append_right _ h)) (by decide +kernel))
set_option maxRecDepth 20000 in
theorem gX6_readNext_X6_readWord : GoodIn wsX6_readNext (wsV RX6 49 RX6 yX6_readWord wsX6_readWord) := goodIn_app (goodIn_of _ (by decide +kernel)) ggX6_readNext_X6_readWord
set_option maxRecDepth 20000 in
theorem ggX6_readNext_X6_readValues : GoodIn wsX6_readNext wsX6_readValues := goodIn_ca (goodIn_r _ [76, 15, 77, 24, 25, 26, 27, 28, 29, 30, 31, 32, 33, 34, 35, 2, 3, 4, 5, 6, 1, 7, 8, 36, 37, 38, 39, 40, 41, 42, 43, 44, 45, 46, 47, 48, 49, 50, 51, 52, 53, 54, 55, 56, 57, 58, 59, 60, 61, 62, 63, 64, 65, 66, 67, 68, 69, 70, 71, 72, 78, 79, 80, 81, 82, 83, 84, 85, 86, 87, 88, 89, 90, 91, 92, 93, 94] (by decide +kernel) (by decide +kernel)) (goodIn_sub (fun _ h => List.mem_cons_of_mem _ (List.mem_append_right _ h)) (by decide +kernel))
set_option maxRecDepth 20000 in
theorem gX6_readNext_X6_readValues : GoodIn wsX6_readNext (wsV RX6 52 RX6 yX6_readValues wsX6_readValues) := goodIn_app (goodIn_of _ (by decide +kernel)) ggX6_readNext_X6_readValues
theorem dX6_readNext_0 : decode cX6_readNext 0 = .ok (.aload_n 0, 1) := by decide +kernel
theorem dX6_readNext_1 : decode cX6_readNext 1 = .ok (.getfield 36, 3) := by decide +kernel
theorem dX6_readNext_4 : decode cX6_readNext 4 = .ok (.ifCond .le 14, 3) := by decide +kernel
theorem dX6_readNext_7 : decode cX6_readNext 7 = .ok (.aload_n 0, 1) := by decide +kernel
theorem dX6_readNext_8 : decode cX6_readNext 8 = .ok (.bipush 59, 2) := by decide +kernel
theorem dX6_readNext_10 : decode cX6_readNext 10 = .ok (.invokevirtual 45, 3) := by decide +kernel
theorem dX6_readNext_13 : decode cX6_readNext 13 = .ok (.ifCond .ne 5, 3) := by decide +kernel
theorem dX6_readNext_16 : decode cX6_readNext 16 = .ok (.iconst 0, 1) := by decide +kernel
theorem dX6_readNext_17 : decode cX6_readNext 17 = .ok (.ireturn, 1) := by decide +kernel
theorem dX6_readNext_18 : decode cX6_readNext 18 = .ok (.aload_n 0, 1) := by decide +kernel
theorem dX6_readNext_19 : decode cX6_readNext 19 = .ok (.invokevirtual 49, 3) := by decide +kernel
theorem dX6_readNext_22 : decode cX6_readNext 22 = .ok (.ifCond .eq 14, 3) := by decide +kernel
theorem dX6_readNext_25 : decode cX6_readNext 25 = .ok (.aload_n 0, 1) := by decide +kernel
theorem dX6_readNext_26 : decode cX6_readNext 26 = .ok (.invokevirtual 52, 3) := by decide +kernel
theorem dX6_readNext_29 : decode cX6_readNext 29 = .ok (.ifCond .eq 7, 3) := by decide +kernel
theorem dX6_readNext_32 : decode cX6_readNext 32 = .ok (.iconst 1, 1) := by decide +kernel
theorem dX6_readNext_33 : decode cX6_readNext 33 = .ok (.goto 4, 3) := by decide +kernel
theorem dX6_readNext_36 : decode cX6_readNext 36 = .ok (.iconst 0, 1) := by decide +kernel
theorem dX6_readNext_37 : decode cX6_readNext 37 = .ok (.ireturn, 1) := by decide +kernel
theorem dX6_take_0 : decode cX6_take 0 = .ok (.aload_n 0, 1) := by decide +kernel
theorem dX6_take_1 : decode cX6_take 1 = .ok (.getfield 36, 3) := by decide +kernel
theorem dX6_take_4 : decode cX6_take 4 = .ok (.aload_n 0, 1) := by decide +kernel
theorem dX6_take_5 : decode cX6_take 5 = .ok (.getfield 28, 3) := by decide +kernel
theorem dX6_take_8 : decode cX6_take 8 = .ok (.if_icmp .ge 16, 3) := by decide +kernel
theorem dX6_take_11 : decode cX6_take 11 = .ok (.aload_n 0, 1) := by decide +kernel
theorem dX6_take_12 : decode cX6_take 12 = .ok (.getfield 24, 3) := by decide +kernel
theorem dX6_take_15 : decode cX6_take 15 = .ok (.aload_n 0, 1) := by decide +kernel
theorem dX6_take_16 : decode cX6_take 16 = .ok (.getfield 36, 3) := by decide +kernel
theorem dX6_take_19 : decode cX6_take 19 = .ok (.caload, 1) := by decide +kernel
theorem dX6_take_20 : decode cX6_take 20 = .ok (.iload_n 1, 1) := by decide +kernel
theorem dX6_take_21 : decode cX6_take 21 = .ok (.if_icmp .eq 5, 3) := by decide +kernel
theorem dX6_take_24 : decode cX6_take 24 = .ok (.iconst 0, 1) := by decide +kernel
theorem dX6_take_25 : decode cX6_take 25 = .ok (.ireturn, 1) := by decide +kernel
theorem dX6_take_26 : decode cX6_take 26 = .ok (.aload_n 0, 1) := by decide +kernel
theorem dX6_take_27 : decode cX6_take 27 = .ok (.dup, 1) := by decide +kernel
theorem dX6_take_28 : decode cX6_take 28 = .ok (.getfield 36, 3) := by decide +kernel
theorem dX6_take_31 : decode cX6_take 31 = .ok (.iconst 1, 1) := by decide +kernel
theorem dX6_take_32 : decode cX6_take 32 = .ok (.iadd, 1) := by decide +kernel
theorem dX6_take_33 : decode cX6_take 33 = .ok (.putfield 36, 3) := by decide +kernel
theorem dX6_take_36 : decode cX6_take 36 = .ok (.iconst 1, 1) := by decide +kernel
theorem dX6_take_37 : decode cX6_take 37 = .ok (.ireturn, 1) := by decide +kernel
set_option maxRecDepth 20000 in
theorem ggX6_readWord_X6_countMatching : GoodIn wsX6_readWord wsX6_countMatching := goodIn_ca (goodIn_r _ [13, 4, 14, 15, 16, 17, 18, 19, 20, 21, 22, 23, 24, 25, 26, 27, 28, 29, 30, 31, 32, 33, 34, 35, 36, 37, 38, 39, 40, 41, 42, 43, 44, 45, 46, 47, 48, 49, 50, 51, 52, 53, 54, 55, 56, 57, 58, 59, 60, 61, 62, 63, 64, 65, 66, 67, 68, 69, 70, 71, 72, 73] (by decide +kernel) (by decide +kernel)) (goodIn_sub (fun _ h => List.mem_cons_of_mem _ (List.mem_append_right _ h)) (by decide +kernel))
set_option maxRecDepth 20000 in
theorem gX6_readWord_X6_countMatching : GoodIn wsX6_readWord (wsV RX6 63 RX6 yX6_countMatching wsX6_countMatching) := goodIn_app (goodIn_of _ (by decide +kernel)) ggX6_readWord_X6_countMatching
set_option maxRecDepth 20000 in
theorem ggX6_readWord_J0_length_8abf5 : GoodIn wsX6_readWord wsJ0_length_8abf5 := goodIn_r _ [20, 21, 22, 23, 24, 19, 25, 26, 27, 70, 71, 72, 73] (by decide +kernel) (by decide +kernel)
set_option maxRecDepth 20000 in
theorem gX6_readWord_J0_length_8abf5 : GoodIn wsX6_readWord (wsV RX6 67 RJ0 yJ0_length_8abf5 wsJ0_length_8abf5) := goodIn_app (goodIn_of _ (by decide +kernel)) ggX6_readWord_J0_length_8abf5
theorem dX6_readWord_0 : decode cX6_readWord 0 = .ok (.iconst 0, 1) := by decide +kernel
theorem dX6_readWord_1 : decode cX6_readWord 1 = .ok (.istore_n 1, 1) := by decide +kernel
theorem dX6_readWord_2 : decode cX6_readWord 2 = .ok (.iconst 0, 1) := by decide +kernel
theorem dX6_readWord_3 : decode cX6_readWord 3 = .ok (.istore_n 2, 1) := by decide +kernel
theorem dX6_readWord_4 : decode cX6_readWord 4 = .ok (.iload_n 2, 1) := by decide +kernel
theorem dX6_readWord_5 : decode cX6_readWord 5 = .ok (.getstatic 55, 3) := by decide +kernel
theorem dX6_readWord_8 : decode cX6_readWord 8 = .ok (.arraylength, 1) := by decide +kernel
theorem dX6_readWord_9 : decode cX6_readWord 9 = .ok (.if_icmp .ge 63, 3) := by decide +kernel
theorem dX6_readWord_12 : decode cX6_readWord 12 = .ok (.getstatic 55, 3) := by decide +kernel
theorem dX6_readWord_15 : decode cX6_readWord 15 = .ok (.iload_n 2, 1) := by decide +kernel
theorem dX6_readWord_16 : decode cX6_readWord 16 = .ok (.aaload, 1) := by decide +kernel
theorem dX6_readWord_17 : decode cX6_readWord 17 = .ok (.getfield 59, 3) := by decide +kernel
theorem dX6_readWord_20 : decode cX6_readWord 20 = .ok (.astore_n 3, 1) := by decide +kernel
theorem dX6_readWord_21 : decode cX6_readWord 21 = .ok (.aload_n 0, 1) := by decide +kernel
theorem dX6_readWord_22 : decode cX6_readWord 22 = .ok (.aload_n 3, 1) := by decide +kernel
theorem dX6_readWord_23 : decode cX6_readWord 23 = .ok (.invokevirtual 63, 3) := by decide +kernel
theorem dX6_readWord_26 : decode cX6_readWord 26 = .ok (.istore 4, 2) := by decide +kernel
theorem dX6_readWord_28 : decode cX6_readWord 28 = .ok (.iload 4, 2) := by decide +kernel
theorem dX6_readWord_30 : decode cX6_readWord 30 = .ok (.aload_n 3, 1) := by decide +kernel
theorem dX6_readWord_31 : decode cX6_readWord 31 = .ok (.invokevirtual 67, 3) := by decide +kernel
theorem dX6_readWord_34 : decode cX6_readWord 34 = .ok (.if_icmp .ne 25, 3) := by decide +kernel
theorem dX6_readWord_37 : decode cX6_readWord 37 = .ok (.aload_n 0, 1) := by decide +kernel
theorem dX6_readWord_38 : decode cX6_readWord 38 = .ok (.getstatic 55, 3) := by decide +kernel
theorem dX6_readWord_41 : decode cX6_readWord 41 = .ok (.iload_n 2, 1) := by decide +kernel
theorem dX6_readWord_42 : decode cX6_readWord 42 = .ok (.aaload, 1) := by decide +kernel
theorem dX6_readWord_43 : decode cX6_readWord 43 = .ok (.putfield 15, 3) := by decide +kernel
theorem dX6_readWord_46 : decode cX6_readWord 46 = .ok (.aload_n 0, 1) := by decide +kernel
theorem dX6_readWord_47 : decode cX6_readWord 47 = .ok (.dup, 1) := by decide +kernel
theorem dX6_readWord_48 : decode cX6_readWord 48 = .ok (.getfield 36, 3) := by decide +kernel
theorem dX6_readWord_51 : decode cX6_readWord 51 = .ok (.iload 4, 2) := by decide +kernel
theorem dX6_readWord_53 : decode cX6_readWord 53 = .ok (.iadd, 1) := by decide +kernel
theorem dX6_readWord_54 : decode cX6_readWord 54 = .ok (.putfield 36, 3) := by decide +kernel
theorem dX6_readWord_57 : decode cX6_readWord 57 = .ok (.iconst 1, 1) := by decide +kernel
theorem dX6_readWord_58 : decode cX6_readWord 58 = .ok (.ireturn, 1) := by decide +kernel
theorem dX6_readWord_59 : decode cX6_readWord 59 = .ok (.iload_n 1, 1) := by decide +kernel
theorem dX6_readWord_60 : decode cX6_readWord 60 = .ok (.iload 4, 2) := by decide +kernel
theorem dX6_readWord_62 : decode cX6_readWord 62 = .ok (.invokestatic 72, 3) := by decide +kernel
theorem dX6_readWord_65 : decode cX6_readWord 65 = .ok (.istore_n 1, 1) := by decide +kernel
theorem dX6_readWord_66 : decode cX6_readWord 66 = .ok (.iinc 2 1, 3) := by decide +kernel
theorem dX6_readWord_69 : decode cX6_readWord 69 = .ok (.goto (-65), 3) := by decide +kernel
theorem dX6_readWord_72 : decode cX6_readWord 72 = .ok (.aload_n 0, 1) := by decide +kernel
theorem dX6_readWord_73 : decode cX6_readWord 73 = .ok (.dup, 1) := by decide +kernel
theorem dX6_readWord_74 : decode cX6_readWord 74 = .ok (.getfield 36, 3) := by decide +kernel
theorem dX6_readWord_77 : decode cX6_readWord 77 = .ok (.iload_n 1, 1) := by decide +kernel
theorem dX6_readWord_78 : decode cX6_readWord 78 = .ok (.iadd, 1) := by decide +kernel
theorem dX6_readWord_79 : decode cX6_readWord 79 = .ok (.putfield 36, 3) := by decide +kernel
theorem dX6_readWord_82 : decode cX6_readWord 82 = .ok (.iconst 0, 1) := by decide +kernel
theorem dX6_readWord_83 : decode cX6_readWord 83 = .ok (.ireturn, 1) := by decide +kernel
set_option maxRecDepth 20000 in
theorem ggX6_countMatching_J0_length_8abf5 : GoodIn wsX6_countMatching wsJ0_length_8abf5 := goodIn_r _ [8, 9, 10, 11, 12, 7, 13, 14, 15, 58, 59, 60, 61] (by decide +kernel) (by decide +kernel)
set_option maxRecDepth 20000 in
theorem gX6_countMatching_J0_length_8abf5 : GoodIn wsX6_countMatching (wsV RX6 67 RJ0 yJ0_length_8abf5 wsJ0_length_8abf5) := goodIn_app (goodIn_of _ (by decide +kernel)) ggX6_countMatching_J0_length_8abf5
set_option maxRecDepth 20000 in
theorem ggX6_countMatching_J0_charAt_5068e : GoodIn wsX6_countMatching wsJ0_charAt_5068e := goodIn_r _ [19, 9, 20, 21, 22, 7, 23, 14, 15, 24, 25, 26, 27, 28, 29, 30, 31, 32, 33, 34, 35, 36, 37, 38, 39, 40, 41, 42, 43, 44, 45, 46, 47, 48, 49, 50, 51, 52, 58, 59, 60, 61] (by decide +kernel) (by decide +kernel)
set_option maxRecDepth 20000 in
theorem gX6_countMatching_J0_charAt_5068e : GoodIn wsX6_countMatching (wsV RX6 78 RJ0 yJ0_charAt_5068e wsJ0_charAt_5068e) := goodIn_app (goodIn_of _ (by decide +kernel)) ggX6_countMatching_J0_charAt_5068e
theorem dX6_countMatching_0 : decode cX6_countMatching 0 = .ok (.iconst 0, 1) := by decide +kernel
theorem dX6_countMatching_1 : decode cX6_countMatching 1 = .ok (.istore_n 2, 1) := by decide +kernel
theorem dX6_countMatching_2 : decode cX6_countMatching 2 = .ok (.iload_n 2, 1) := by decide +kernel
theorem dX6_countMatching_3 : decode cX6_countMatching 3 = .ok (.aload_n 1, 1) := by decide +kernel
theorem dX6_countMatching_4 : decode cX6_countMatching 4 = .ok (.invokevirtual 67, 3) := by decide +kernel
theorem dX6_countMatching_7 : decode cX6_countMatching 7 = .ok (.if_icmp .ge 41, 3) := by decide +kernel
theorem dX6_countMatching_10 : decode cX6_countMatching 10 = .ok (.aload_n 0, 1) := by decide +kernel
theorem dX6_countMatching_11 : decode cX6_countMatching 11 = .ok (.getfield 36, 3) := by decide +kernel
theorem dX6_countMatching_14 : decode cX6_countMatching 14 = .ok (.iload_n 2, 1) := by decide +kernel
theorem dX6_countMatching_15 : decode cX6_countMatching 15 = .ok (.iadd, 1) := by decide +kernel
theorem dX6_countMatching_16 : decode cX6_countMatching 16 = .ok (.aload_n 0, 1) := by decide +kernel
theorem dX6_countMatching_17 : decode cX6_countMatching 17 = .ok (.getfield 28, 3) := by decide +kernel
theorem dX6_countMatching_20 : decode cX6_countMatching 20 = .ok (.if_icmp .ge 28, 3) := by decide +kernel
theorem dX6_countMatching_23 : decode cX6_countMatching 23 = .ok (.aload_n 0, 1) := by decide +kernel
theorem dX6_countMatching_24 : decode cX6_countMatching 24 = .ok (.getfield 24, 3) := by decide +kernel
theorem dX6_countMatching_27 : decode cX6_countMatching 27 = .ok (.aload_n 0, 1) := by decide +kernel
theorem dX6_countMatching_28 : decode cX6_countMatching 28 = .ok (.getfield 36, 3) := by decide +kernel
theorem dX6_countMatching_31 : decode cX6_countMatching 31 = .ok (.iload_n 2, 1) := by decide +kernel
theorem dX6_countMatching_32 : decode cX6_countMatching 32 = .ok (.iadd, 1) := by decide +kernel
theorem dX6_countMatching_33 : decode cX6_countMatching 33 = .ok (.caload, 1) := by decide +kernel
theorem dX6_countMatching_34 : decode cX6_countMatching 34 = .ok (.aload_n 1, 1) := by decide +kernel
theorem dX6_countMatching_35 : decode cX6_countMatching 35 = .ok (.iload_n 2, 1) := by decide +kernel
theorem dX6_countMatching_36 : decode cX6_countMatching 36 = .ok (.invokevirtual 78, 3) := by decide +kernel
theorem dX6_countMatching_39 : decode cX6_countMatching 39 = .ok (.if_icmp .ne 9, 3) := by decide +kernel
theorem dX6_countMatching_42 : decode cX6_countMatching 42 = .ok (.iinc 2 1, 3) := by decide +kernel
theorem dX6_countMatching_45 : decode cX6_countMatching 45 = .ok (.goto (-43), 3) := by decide +kernel
theorem dX6_countMatching_48 : decode cX6_countMatching 48 = .ok (.iload_n 2, 1) := by decide +kernel
theorem dX6_countMatching_49 : decode cX6_countMatching 49 = .ok (.ireturn, 1) := by decide +kernel
set_option maxRecDepth 20000 in
theorem ggX6_readValues_J0_length_8abf5 : GoodIn wsX6_readValues wsJ0_length_8abf5 := goodIn_r _ [7, 8, 9, 10, 11, 6, 12, 13, 14, 73, 74, 75, 76] (by decide +kernel) (by decide +kernel)
set_option maxRecDepth 20000 in
theorem gX6_readValues_J0_length_8abf5 : GoodIn wsX6_readValues (wsV RX6 67 RJ0 yJ0_length_8abf5 wsJ0_length_8abf5) := goodIn_app (goodIn_of _ (by decide +kernel)) ggX6_readValues_J0_length_8abf5
set_option maxRecDepth 20000 in
theorem ggX6_readValues_X6_take : GoodIn wsX6_readValues wsX6_take := goodIn_ca (goodIn_r _ [19, 20, 21, 22, 68, 69, 70, 71, 72] (by decide +kernel) (by decide +kernel)) (goodIn_sub (fun _ h => List.mem_cons_of_mem _ (List.mem_append_right _ h)) (by decide +kernel))
set_option maxRecDepth 20000 in
theorem gX6_readValues_X6_take : GoodIn wsX6_readValues (wsV RX6 45 RX6 yX6_take wsX6_take) := goodIn_app (goodIn_of _ (by decide +kernel)) ggX6_readValues_X6_take
set_option maxRecDepth 20000 in
theorem ggX6_readValues_J0_charAt_5068e : GoodIn wsX6_readValues wsJ0_charAt_5068e := goodIn_r _ [26, 8, 27, 28, 29, 6, 30, 13, 14, 31, 32, 33, 34, 35, 36, 37, 38, 39, 40, 41, 42, 43, 44, 45, 46, 47, 48, 49, 50, 51, 52, 53, 54, 55, 56, 57, 58, 59, 73, 74, 75, 76] (by decide +kernel) (by decide +kernel)
set_option maxRecDepth 20000 in
theorem gX6_readValues_J0_charAt_5068e : GoodIn wsX6_readValues (wsV RX6 78 RJ0 yJ0_charAt_5068e wsJ0_charAt_5068e) := goodIn_app (goodIn_of _ (by decide +kernel)) ggX6_readValues_J0_charAt_5068e
set_option maxRecDepth 20000 in
theorem ggX6_readValues_X6_readNumber : GoodIn wsX6_readValues wsX6_readNumber := goodIn_ca (goodIn_r _ [63, 20, 21, 22, 64, 65, 66, 18, 67, 68, 69, 70, 71, 72] (by decide +kernel) (by decide +kernel)) (goodIn_sub (fun _ h => List.mem_cons_of_mem _ (List.mem_append_right _ h)) (by decide +kernel))
set_option maxRecDepth 20000 in
theorem gX6_readValues_X6_readNumber : GoodIn wsX6_readValues (wsV RX6 85 RX6 yX6_readNumber wsX6_readNumber) := goodIn_app (goodIn_of _ (by decide +kernel)) ggX6_readValues_X6_readNumber
theorem dX6_readValues_0 : decode cX6_readValues 0 = .ok (.aload_n 0, 1) := by decide +kernel
theorem dX6_readValues_1 : decode cX6_readValues 1 = .ok (.getfield 15, 3) := by decide +kernel
theorem dX6_readValues_4 : decode cX6_readValues 4 = .ok (.getfield 82, 3) := by decide +kernel
theorem dX6_readValues_7 : decode cX6_readValues 7 = .ok (.astore_n 1, 1) := by decide +kernel
theorem dX6_readValues_8 : decode cX6_readValues 8 = .ok (.iconst 0, 1) := by decide +kernel
theorem dX6_readValues_9 : decode cX6_readValues 9 = .ok (.istore_n 2, 1) := by decide +kernel
theorem dX6_readValues_10 : decode cX6_readValues 10 = .ok (.iload_n 2, 1) := by decide +kernel
theorem dX6_readValues_11 : decode cX6_readValues 11 = .ok (.aload_n 1, 1) := by decide +kernel
theorem dX6_readValues_12 : decode cX6_readValues 12 = .ok (.invokevirtual 67, 3) := by decide +kernel
theorem dX6_readValues_15 : decode cX6_readValues 15 = .ok (.if_icmp .ge 41, 3) := by decide +kernel
theorem dX6_readValues_18 : decode cX6_readValues 18 = .ok (.iload_n 2, 1) := by decide +kernel
theorem dX6_readValues_19 : decode cX6_readValues 19 = .ok (.iconst 4, 1) := by decide +kernel
theorem dX6_readValues_20 : decode cX6_readValues 20 = .ok (.if_icmp .ge 36, 3) := by decide +kernel
theorem dX6_readValues_23 : decode cX6_readValues 23 = .ok (.aload_n 0, 1) := by decide +kernel
theorem dX6_readValues_24 : decode cX6_readValues 24 = .ok (.bipush 32, 2) := by decide +kernel
theorem dX6_readValues_26 : decode cX6_readValues 26 = .ok (.invokevirtual 45, 3) := by decide +kernel
theorem dX6_readValues_29 : decode cX6_readValues 29 = .ok (.ifCond .eq 19, 3) := by decide +kernel
theorem dX6_readValues_32 : decode cX6_readValues 32 = .ok (.aload_n 0, 1) := by decide +kernel
theorem dX6_readValues_33 : decode cX6_readValues 33 = .ok (.iload_n 2, 1) := by decide +kernel
theorem dX6_readValues_34 : decode cX6_readValues 34 = .ok (.aload_n 1, 1) := by decide +kernel
theorem dX6_readValues_35 : decode cX6_readValues 35 = .ok (.iload_n 2, 1) := by decide +kernel
theorem dX6_readValues_36 : decode cX6_readValues 36 = .ok (.invokevirtual 78, 3) := by decide +kernel
theorem dX6_readValues_39 : decode cX6_readValues 39 = .ok (.bipush 48, 2) := by decide +kernel
theorem dX6_readValues_41 : decode cX6_readValues 41 = .ok (.isub, 1) := by decide +kernel
theorem dX6_readValues_42 : decode cX6_readValues 42 = .ok (.invokevirtual 85, 3) := by decide +kernel
theorem dX6_readValues_45 : decode cX6_readValues 45 = .ok (.ifCond .ne 5, 3) := by decide +kernel
theorem dX6_readValues_48 : decode cX6_readValues 48 = .ok (.iconst 0, 1) := by decide +kernel
theorem dX6_readValues_49 : decode cX6_readValues 49 = .ok (.ireturn, 1) := by decide +kernel
theorem dX6_readValues_50 : decode cX6_readValues 50 = .ok (.iinc 2 1, 3) := by decide +kernel
theorem dX6_readValues_53 : decode cX6_readValues 53 = .ok (.goto (-43), 3) := by decide +kernel
theorem dX6_readValues_56 : decode cX6_readValues 56 = .ok (.iconst 1, 1) := by decide +kernel
theorem dX6_readValues_57 : decode cX6_readValues 57 = .ok (.ireturn, 1) := by decide +kernel
set_option maxRecDepth 20000 in
theorem ggX6_readNumber_X6_isDigit : GoodIn wsX6_readNumber wsX6_isDigit := goodIn_r _ [8] (by decide +kernel) (by decide +kernel)
set_option maxRecDepth 20000 in
theorem gX6_readNumber_X6_isDigit : GoodIn wsX6_readNumber (va_wsS RX6 89 yX6_isDigit wsX6_isDigit) := goodIn_app (goodIn_of _ (by decide +kernel)) ggX6_readNumber_X6_isDigit
theorem dX6_readNumber_0 : decode cX6_readNumber 0 = .ok (.iconst 0, 1) := by decide +kernel
theorem dX6_readNumber_1 : decode cX6_readNumber 1 = .ok (.istore_n 3, 1) := by decide +kernel
theorem dX6_readNumber_2 : decode cX6_readNumber 2 = .ok (.iconst 0, 1) := by decide +kernel
theorem dX6_readNumber_3 : decode cX6_readNumber 3 = .ok (.istore 4, 2) := by decide +kernel
theorem dX6_readNumber_5 : decode cX6_readNumber 5 = .ok (.iload 4, 2) := by decide +kernel
theorem dX6_readNumber_7 : decode cX6_readNumber 7 = .ok (.iload_n 2, 1) := by decide +kernel
theorem dX6_readNumber_8 : decode cX6_readNumber 8 = .ok (.if_icmp .ge 63, 3) := by decide +kernel
theorem dX6_readNumber_11 : decode cX6_readNumber 11 = .ok (.aload_n 0, 1) := by decide +kernel
theorem dX6_readNumber_12 : decode cX6_readNumber 12 = .ok (.getfield 36, 3) := by decide +kernel
theorem dX6_readNumber_15 : decode cX6_readNumber 15 = .ok (.aload_n 0, 1) := by decide +kernel
theorem dX6_readNumber_16 : decode cX6_readNumber 16 = .ok (.getfield 28, 3) := by decide +kernel
theorem dX6_readNumber_19 : decode cX6_readNumber 19 = .ok (.if_icmp .ge 52, 3) := by decide +kernel
theorem dX6_readNumber_22 : decode cX6_readNumber 22 = .ok (.aload_n 0, 1) := by decide +kernel
theorem dX6_readNumber_23 : decode cX6_readNumber 23 = .ok (.getfield 24, 3) := by decide +kernel
theorem dX6_readNumber_26 : decode cX6_readNumber 26 = .ok (.aload_n 0, 1) := by decide +kernel
theorem dX6_readNumber_27 : decode cX6_readNumber 27 = .ok (.getfield 36, 3) := by decide +kernel
theorem dX6_readNumber_30 : decode cX6_readNumber 30 = .ok (.caload, 1) := by decide +kernel
theorem dX6_readNumber_31 : decode cX6_readNumber 31 = .ok (.invokestatic 89, 3) := by decide +kernel
theorem dX6_readNumber_34 : decode cX6_readNumber 34 = .ok (.ifCond .eq 37, 3) := by decide +kernel
theorem dX6_readNumber_37 : decode cX6_readNumber 37 = .ok (.iload_n 3, 1) := by decide +kernel
theorem dX6_readNumber_38 : decode cX6_readNumber 38 = .ok (.bipush 10, 2) := by decide +kernel
theorem dX6_readNumber_40 : decode cX6_readNumber 40 = .ok (.imul, 1) := by decide +kernel
theorem dX6_readNumber_41 : decode cX6_readNumber 41 = .ok (.aload_n 0, 1) := by decide +kernel
theorem dX6_readNumber_42 : decode cX6_readNumber 42 = .ok (.getfield 24, 3) := by decide +kernel
theorem dX6_readNumber_45 : decode cX6_readNumber 45 = .ok (.aload_n 0, 1) := by decide +kernel
theorem dX6_readNumber_46 : decode cX6_readNumber 46 = .ok (.getfield 36, 3) := by decide +kernel
theorem dX6_readNumber_49 : decode cX6_readNumber 49 = .ok (.caload, 1) := by decide +kernel
theorem dX6_readNumber_50 : decode cX6_readNumber 50 = .ok (.bipush 48, 2) := by decide +kernel
theorem dX6_readNumber_52 : decode cX6_readNumber 52 = .ok (.isub, 1) := by decide +kernel
theorem dX6_readNumber_53 : decode cX6_readNumber 53 = .ok (.iadd, 1) := by decide +kernel
theorem dX6_readNumber_54 : decode cX6_readNumber 54 = .ok (.istore_n 3, 1) := by decide +kernel
theorem dX6_readNumber_55 : decode cX6_readNumber 55 = .ok (.aload_n 0, 1) := by decide +kernel
theorem dX6_readNumber_56 : decode cX6_readNumber 56 = .ok (.dup, 1) := by decide +kernel
theorem dX6_readNumber_57 : decode cX6_readNumber 57 = .ok (.getfield 36, 3) := by decide +kernel
theorem dX6_readNumber_60 : decode cX6_readNumber 60 = .ok (.iconst 1, 1) := by decide +kernel
theorem dX6_readNumber_61 : decode cX6_readNumber 61 = .ok (.iadd, 1) := by decide +kernel
theorem dX6_readNumber_62 : decode cX6_readNumber 62 = .ok (.putfield 36, 3) := by decide +kernel
theorem dX6_readNumber_65 : decode cX6_readNumber 65 = .ok (.iinc 4 1, 3) := by decide +kernel
theorem dX6_readNumber_68 : decode cX6_readNumber 68 = .ok (.goto (-63), 3) := by decide +kernel
theorem dX6_readNumber_71 : decode cX6_readNumber 71 = .ok (.aload_n 0, 1) := by decide +kernel
theorem dX6_readNumber_72 : decode cX6_readNumber 72 = .ok (.getfield 20, 3) := by decide +kernel
theorem dX6_readNumber_75 : decode cX6_readNumber 75 = .ok (.iload_n 1, 1) := by decide +kernel
theorem dX6_readNumber_76 : decode cX6_readNumber 76 = .ok (.iload_n 3, 1) := by decide +kernel
theorem dX6_readNumber_77 : decode cX6_readNumber 77 = .ok (.iastore, 1) := by decide +kernel
theorem dX6_readNumber_78 : decode cX6_readNumber 78 = .ok (.iload 4, 2) := by decide +kernel
theorem dX6_readNumber_80 : decode cX6_readNumber 80 = .ok (.ifCond .le 7, 3) := by decide +kernel
theorem dX6_readNumber_83 : decode cX6_readNumber 83 = .ok (.iconst 1, 1) := by decide +kernel
theorem dX6_readNumber_84 : decode cX6_readNumber 84 = .ok (.goto 4, 3) := by decide +kernel
theorem dX6_readNumber_87 : decode cX6_readNumber 87 = .ok (.iconst 0, 1) := by decide +kernel
theorem dX6_readNumber_88 : decode cX6_readNumber 88 = .ok (.ireturn, 1) := by decide +kernel
theorem dX6_isDigit_0 : decode cX6_isDigit 0 = .ok (.iload_n 0, 1) := by decide +kernel
theorem dX6_isDigit_1 : decode cX6_isDigit 1 = .ok (.bipush 48, 2) := by decide +kernel
theorem dX6_isDigit_3 : decode cX6_isDigit 3 = .ok (.if_icmp .lt 13, 3) := by decide +kernel
theorem dX6_isDigit_6 : decode cX6_isDigit 6 = .ok (.iload_n 0, 1) := by decide +kernel
theorem dX6_isDigit_7 : decode cX6_isDigit 7 = .ok (.bipush 57, 2) := by decide +kernel
theorem dX6_isDigit_9 : decode cX6_isDigit 9 = .ok (.if_icmp .gt 7, 3) := by decide +kernel
theorem dX6_isDigit_12 : decode cX6_isDigit 12 = .ok (.iconst 1, 1) := by decide +kernel
theorem dX6_isDigit_13 : decode cX6_isDigit 13 = .ok (.goto 4, 3) := by decide +kernel
theorem dX6_isDigit_16 : decode cX6_isDigit 16 = .ok (.iconst 0, 1) := by decide +kernel
theorem dX6_isDigit_17 : decode cX6_isDigit 17 = .ok (.ireturn, 1) := by decide +kernel
theorem dX7_init_0 : decode cX7_init 0 = .ok (.aload_n 0, 1) := by decide +kernel
theorem dX7_init_1 : decode cX7_init 1 = .ok (.invokespecial 3, 3) := by decide +kernel
theorem dX7_init_4 : decode cX7_init 4 = .ok (.aload_n 0, 1) := by decide +kernel
theorem dX7_init_5 : decode cX7_init 5 = .ok (.bipush 6, 2) := by decide +kernel
theorem dX7_init_7 : decode cX7_init 7 = .ok (.newarray .boolean, 2) := by decide +kernel
theorem dX7_init_9 : decode cX7_init 9 = .ok (.putfield 9, 3) := by decide +kernel
theorem dX7_init_12 : decode cX7_init 12 = .ok (.aload_n 0, 1) := by decide +kernel
theorem dX7_init_13 : decode cX7_init 13 = .ok (.bipush 6, 2) := by decide +kernel
theorem dX7_init_15 : decode cX7_init 15 = .ok (.newarray .int, 2) := by decide +kernel
theorem dX7_init_17 : decode cX7_init 17 = .ok (.putfield 15, 3) := by decide +kernel
theorem dX7_init_20 : decode cX7_init 20 = .ok (.aload_n 0, 1) := by decide +kernel
theorem dX7_init_21 : decode cX7_init 21 = .ok (.bipush 6, 2) := by decide +kernel
theorem dX7_init_23 : decode cX7_init 23 = .ok (.newarray .int, 2) := by decide +kernel
theorem dX7_init_25 : decode cX7_init 25 = .ok (.putfield 19, 3) := by decide +kernel
theorem dX7_init_28 : decode cX7_init 28 = .ok (.aload_n 0, 1) := by decide +kernel
theorem dX7_init_29 : decode cX7_init 29 = .ok (.bipush 6, 2) := by decide +kernel
theorem dX7_init_31 : decode cX7_init 31 = .ok (.newarray .int, 2) := by decide +kernel
theorem dX7_init_33 : decode cX7_init 33 = .ok (.putfield 22, 3) := by decide +kernel
theorem dX7_init_36 : decode cX7_init 36 = .ok (.return_, 1) := by decide +kernel
theorem dX7_cost_0 : decode cX7_cost 0 = .ok (.bipush 60, 2) := by decide +kernel
theorem dX7_cost_2 : decode cX7_cost 2 = .ok (.iload_n 0, 1) := by decide +kernel
theorem dX7_cost_3 : decode cX7_cost 3 = .ok (.imul, 1) := by decide +kernel
theorem dX7_cost_4 : decode cX7_cost 4 = .ok (.iload_n 0, 1) := by decide +kernel
theorem dX7_cost_5 : decode cX7_cost 5 = .ok (.imul, 1) := by decide +kernel
theorem dX7_cost_6 : decode cX7_cost 6 = .ok (.ireturn, 1) := by decide +kernel
theorem dX7_clear_0 : decode cX7_clear 0 = .ok (.iconst 0, 1) := by decide +kernel
theorem dX7_clear_1 : decode cX7_clear 1 = .ok (.istore_n 1, 1) := by decide +kernel
theorem dX7_clear_2 : decode cX7_clear 2 = .ok (.iload_n 1, 1) := by decide +kernel
theorem dX7_clear_3 : decode cX7_clear 3 = .ok (.bipush 6, 2) := by decide +kernel
theorem dX7_clear_5 : decode cX7_clear 5 = .ok (.if_icmp .ge 16, 3) := by decide +kernel
theorem dX7_clear_8 : decode cX7_clear 8 = .ok (.aload_n 0, 1) := by decide +kernel
theorem dX7_clear_9 : decode cX7_clear 9 = .ok (.getfield 9, 3) := by decide +kernel
theorem dX7_clear_12 : decode cX7_clear 12 = .ok (.iload_n 1, 1) := by decide +kernel
theorem dX7_clear_13 : decode cX7_clear 13 = .ok (.iconst 0, 1) := by decide +kernel
theorem dX7_clear_14 : decode cX7_clear 14 = .ok (.bastore, 1) := by decide +kernel
theorem dX7_clear_15 : decode cX7_clear 15 = .ok (.iinc 1 1, 3) := by decide +kernel
theorem dX7_clear_18 : decode cX7_clear 18 = .ok (.goto (-16), 3) := by decide +kernel
theorem dX7_clear_21 : decode cX7_clear 21 = .ok (.return_, 1) := by decide +kernel
theorem dX7_enter_0 : decode cX7_enter 0 = .ok (.aload_n 0, 1) := by decide +kernel
theorem dX7_enter_1 : decode cX7_enter 1 = .ok (.getfield 19, 3) := by decide +kernel
theorem dX7_enter_4 : decode cX7_enter 4 = .ok (.iload_n 1, 1) := by decide +kernel
theorem dX7_enter_5 : decode cX7_enter 5 = .ok (.iload_n 2, 1) := by decide +kernel
theorem dX7_enter_6 : decode cX7_enter 6 = .ok (.iastore, 1) := by decide +kernel
theorem dX7_enter_7 : decode cX7_enter 7 = .ok (.aload_n 0, 1) := by decide +kernel
theorem dX7_enter_8 : decode cX7_enter 8 = .ok (.getfield 9, 3) := by decide +kernel
theorem dX7_enter_11 : decode cX7_enter 11 = .ok (.iload_n 1, 1) := by decide +kernel
theorem dX7_enter_12 : decode cX7_enter 12 = .ok (.iload_n 2, 1) := by decide +kernel
theorem dX7_enter_13 : decode cX7_enter 13 = .ok (.iconst (-1), 1) := by decide +kernel
theorem dX7_enter_14 : decode cX7_enter 14 = .ok (.if_icmp .eq 7, 3) := by decide +kernel
theorem dX7_enter_17 : decode cX7_enter 17 = .ok (.iconst 1, 1) := by decide +kernel
theorem dX7_enter_18 : decode cX7_enter 18 = .ok (.goto 4, 3) := by decide +kernel
theorem dX7_enter_21 : decode cX7_enter 21 = .ok (.iconst 0, 1) := by decide +kernel
theorem dX7_enter_22 : decode cX7_enter 22 = .ok (.bastore, 1) := by decide +kernel
theorem dX7_enter_23 : decode cX7_enter 23 = .ok (.return_, 1) := by decide +kernel
theorem dX7_greatestNeed_0 : decode cX7_greatestNeed 0 = .ok (.iconst 0, 1) := by decide +kernel
theorem dX7_greatestNeed_1 : decode cX7_greatestNeed 1 = .ok (.istore_n 1, 1) := by decide +kernel
theorem dX7_greatestNeed_2 : decode cX7_greatestNeed 2 = .ok (.iconst 0, 1) := by decide +kernel
theorem dX7_greatestNeed_3 : decode cX7_greatestNeed 3 = .ok (.istore_n 2, 1) := by decide +kernel
theorem dX7_greatestNeed_4 : decode cX7_greatestNeed 4 = .ok (.iload_n 2, 1) := by decide +kernel
theorem dX7_greatestNeed_5 : decode cX7_greatestNeed 5 = .ok (.bipush 6, 2) := by decide +kernel
theorem dX7_greatestNeed_7 : decode cX7_greatestNeed 7 = .ok (.if_icmp .ge 35, 3) := by decide +kernel
theorem dX7_greatestNeed_10 : decode cX7_greatestNeed 10 = .ok (.aload_n 0, 1) := by decide +kernel
theorem dX7_greatestNeed_11 : decode cX7_greatestNeed 11 = .ok (.getfield 9, 3) := by decide +kernel
theorem dX7_greatestNeed_14 : decode cX7_greatestNeed 14 = .ok (.iload_n 2, 1) := by decide +kernel
theorem dX7_greatestNeed_15 : decode cX7_greatestNeed 15 = .ok (.baload, 1) := by decide +kernel
theorem dX7_greatestNeed_16 : decode cX7_greatestNeed 16 = .ok (.ifCond .eq 20, 3) := by decide +kernel
theorem dX7_greatestNeed_19 : decode cX7_greatestNeed 19 = .ok (.aload_n 0, 1) := by decide +kernel
theorem dX7_greatestNeed_20 : decode cX7_greatestNeed 20 = .ok (.getfield 19, 3) := by decide +kernel
theorem dX7_greatestNeed_23 : decode cX7_greatestNeed 23 = .ok (.iload_n 2, 1) := by decide +kernel
theorem dX7_greatestNeed_24 : decode cX7_greatestNeed 24 = .ok (.iaload, 1) := by decide +kernel
theorem dX7_greatestNeed_25 : decode cX7_greatestNeed 25 = .ok (.iload_n 1, 1) := by decide +kernel
theorem dX7_greatestNeed_26 : decode cX7_greatestNeed 26 = .ok (.if_icmp .le 10, 3) := by decide +kernel
theorem dX7_greatestNeed_29 : decode cX7_greatestNeed 29 = .ok (.aload_n 0, 1) := by decide +kernel
theorem dX7_greatestNeed_30 : decode cX7_greatestNeed 30 = .ok (.getfield 19, 3) := by decide +kernel
theorem dX7_greatestNeed_33 : decode cX7_greatestNeed 33 = .ok (.iload_n 2, 1) := by decide +kernel
theorem dX7_greatestNeed_34 : decode cX7_greatestNeed 34 = .ok (.iaload, 1) := by decide +kernel
theorem dX7_greatestNeed_35 : decode cX7_greatestNeed 35 = .ok (.istore_n 1, 1) := by decide +kernel
theorem dX7_greatestNeed_36 : decode cX7_greatestNeed 36 = .ok (.iinc 2 1, 3) := by decide +kernel
theorem dX7_greatestNeed_39 : decode cX7_greatestNeed 39 = .ok (.goto (-35), 3) := by decide +kernel
theorem dX7_greatestNeed_42 : decode cX7_greatestNeed 42 = .ok (.iload_n 1, 1) := by decide +kernel
theorem dX7_greatestNeed_43 : decode cX7_greatestNeed 43 = .ok (.ireturn, 1) := by decide +kernel
set_option maxRecDepth 20000 in
theorem ggX7_divide_X7_greatestNeed : GoodIn wsX7_divide wsX7_greatestNeed := goodIn_ca (goodIn_r _ [7, 2, 8, 24, 25, 26, 27, 28] (by decide +kernel) (by decide +kernel)) (goodIn_sub (fun _ h => List.mem_cons_of_mem _ (List.mem_append_left _ (List.mem_append_right _ h))) (by decide +kernel))
set_option maxRecDepth 20000 in
theorem gX7_divide_X7_greatestNeed : GoodIn wsX7_divide (wsV RX7 25 RX7 yX7_greatestNeed wsX7_greatestNeed) := goodIn_app (goodIn_of _ (by decide +kernel)) ggX7_divide_X7_greatestNeed
set_option maxRecDepth 20000 in
theorem ggX7_divide_X7_leastNeedAbove : GoodIn wsX7_divide wsX7_leastNeedAbove := goodIn_ca (goodIn_r _ [12, 2, 8, 24, 25, 26, 27, 28] (by decide +kernel) (by decide +kernel)) (goodIn_sub (fun _ h => List.mem_cons_of_mem _ (List.mem_append_left _ (List.mem_append_right _ h))) (by decide +kernel))
set_option maxRecDepth 20000 in
theorem gX7_divide_X7_leastNeedAbove : GoodIn wsX7_divide (wsV RX7 29 RX7 yX7_leastNeedAbove wsX7_leastNeedAbove) := goodIn_app (goodIn_of _ (by decide +kernel)) ggX7_divide_X7_leastNeedAbove
set_option maxRecDepth 20000 in
theorem ggX7_divide_X7_countNeeding : GoodIn wsX7_divide wsX7_countNeeding := goodIn_ca (goodIn_r _ [16, 2, 8, 24, 25, 26, 27, 28] (by decide +kernel) (by decide +kernel)) (goodIn_sub (fun _ h => List.mem_cons_of_mem _ (List.mem_append_left _ (List.mem_append_right _ h))) (by decide +kernel))
set_option maxRecDepth 20000 in
theorem gX7_divide_X7_countNeeding : GoodIn wsX7_divide (wsV RX7 33 RX7 yX7_countNeeding wsX7_countNeeding) := goodIn_app (goodIn_of _ (by decide +kernel)) ggX7_divide_X7_countNeeding
set_option maxRecDepth 20000 in
theorem ggX7_divide_X7_cost : GoodIn wsX7_divide wsX7_cost := goodIn_r _ [19] (by decide +kernel) (by decide +kernel)
set_option maxRecDepth 20000 in
theorem gX7_divide_X7_cost : GoodIn wsX7_divide (va_wsS RX7 37 yX7_cost wsX7_cost) := goodIn_app (goodIn_of _ (by decide +kernel)) ggX7_divide_X7_cost
set_option maxRecDepth 20000 in
theorem ggX7_divide_X7_addToShares : GoodIn wsX7_divide wsX7_addToShares := goodIn_ca (goodIn_r _ [23, 2, 8, 1, 24, 25, 26, 27, 28] (by decide +kernel) (by decide +kernel)) (goodIn_sub (fun _ h => List.mem_cons_of_mem _ (List.mem_append_left _ (List.mem_append_right _ h))) (by decide +kernel))
set_option maxRecDepth 20000 in
theorem gX7_divide_X7_addToShares : GoodIn wsX7_divide (wsV RX7 40 RX7 yX7_addToShares wsX7_addToShares) := goodIn_app (goodIn_of _ (by decide +kernel)) ggX7_divide_X7_addToShares
theorem dX7_divide_0 : decode cX7_divide 0 = .ok (.iconst 0, 1) := by decide +kernel
theorem dX7_divide_1 : decode cX7_divide 1 = .ok (.istore_n 1, 1) := by decide +kernel
theorem dX7_divide_2 : decode cX7_divide 2 = .ok (.iload_n 1, 1) := by decide +kernel
theorem dX7_divide_3 : decode cX7_divide 3 = .ok (.bipush 6, 2) := by decide +kernel
theorem dX7_divide_5 : decode cX7_divide 5 = .ok (.if_icmp .ge 29, 3) := by decide +kernel
theorem dX7_divide_8 : decode cX7_divide 8 = .ok (.aload_n 0, 1) := by decide +kernel
theorem dX7_divide_9 : decode cX7_divide 9 = .ok (.getfield 15, 3) := by decide +kernel
theorem dX7_divide_12 : decode cX7_divide 12 = .ok (.iload_n 1, 1) := by decide +kernel
theorem dX7_divide_13 : decode cX7_divide 13 = .ok (.aload_n 0, 1) := by decide +kernel
theorem dX7_divide_14 : decode cX7_divide 14 = .ok (.getfield 9, 3) := by decide +kernel
theorem dX7_divide_17 : decode cX7_divide 17 = .ok (.iload_n 1, 1) := by decide +kernel
theorem dX7_divide_18 : decode cX7_divide 18 = .ok (.baload, 1) := by decide +kernel
theorem dX7_divide_19 : decode cX7_divide 19 = .ok (.ifCond .eq 7, 3) := by decide +kernel
theorem dX7_divide_22 : decode cX7_divide 22 = .ok (.iconst 0, 1) := by decide +kernel
theorem dX7_divide_23 : decode cX7_divide 23 = .ok (.goto 4, 3) := by decide +kernel
theorem dX7_divide_26 : decode cX7_divide 26 = .ok (.iconst (-1), 1) := by decide +kernel
theorem dX7_divide_27 : decode cX7_divide 27 = .ok (.iastore, 1) := by decide +kernel
theorem dX7_divide_28 : decode cX7_divide 28 = .ok (.iinc 1 1, 3) := by decide +kernel
theorem dX7_divide_31 : decode cX7_divide 31 = .ok (.goto (-29), 3) := by decide +kernel
theorem dX7_divide_34 : decode cX7_divide 34 = .ok (.iconst 0, 1) := by decide +kernel
theorem dX7_divide_35 : decode cX7_divide 35 = .ok (.istore_n 1, 1) := by decide +kernel
theorem dX7_divide_36 : decode cX7_divide 36 = .ok (.aload_n 0, 1) := by decide +kernel
theorem dX7_divide_37 : decode cX7_divide 37 = .ok (.invokevirtual 25, 3) := by decide +kernel
theorem dX7_divide_40 : decode cX7_divide 40 = .ok (.istore_n 2, 1) := by decide +kernel
theorem dX7_divide_41 : decode cX7_divide 41 = .ok (.iconst 0, 1) := by decide +kernel
theorem dX7_divide_42 : decode cX7_divide 42 = .ok (.istore_n 3, 1) := by decide +kernel
theorem dX7_divide_43 : decode cX7_divide 43 = .ok (.iload_n 1, 1) := by decide +kernel
theorem dX7_divide_44 : decode cX7_divide 44 = .ok (.iload_n 2, 1) := by decide +kernel
theorem dX7_divide_45 : decode cX7_divide 45 = .ok (.if_icmp .ge 58, 3) := by decide +kernel
theorem dX7_divide_48 : decode cX7_divide 48 = .ok (.iload_n 3, 1) := by decide +kernel
theorem dX7_divide_49 : decode cX7_divide 49 = .ok (.bipush 6, 2) := by decide +kernel
theorem dX7_divide_51 : decode cX7_divide 51 = .ok (.if_icmp .ge 52, 3) := by decide +kernel
theorem dX7_divide_54 : decode cX7_divide 54 = .ok (.aload_n 0, 1) := by decide +kernel
theorem dX7_divide_55 : decode cX7_divide 55 = .ok (.iload_n 1, 1) := by decide +kernel
theorem dX7_divide_56 : decode cX7_divide 56 = .ok (.iload_n 2, 1) := by decide +kernel
theorem dX7_divide_57 : decode cX7_divide 57 = .ok (.invokevirtual 29, 3) := by decide +kernel
theorem dX7_divide_60 : decode cX7_divide 60 = .ok (.istore 4, 2) := by decide +kernel
theorem dX7_divide_62 : decode cX7_divide 62 = .ok (.aload_n 0, 1) := by decide +kernel
theorem dX7_divide_63 : decode cX7_divide 63 = .ok (.iload 4, 2) := by decide +kernel
theorem dX7_divide_65 : decode cX7_divide 65 = .ok (.invokevirtual 33, 3) := by decide +kernel
theorem dX7_divide_68 : decode cX7_divide 68 = .ok (.istore 5, 2) := by decide +kernel
theorem dX7_divide_70 : decode cX7_divide 70 = .ok (.iload 5, 2) := by decide +kernel
theorem dX7_divide_72 : decode cX7_divide 72 = .ok (.ifCond .le 22, 3) := by decide +kernel
theorem dX7_divide_75 : decode cX7_divide 75 = .ok (.aload_n 0, 1) := by decide +kernel
theorem dX7_divide_76 : decode cX7_divide 76 = .ok (.iload 4, 2) := by decide +kernel
theorem dX7_divide_78 : decode cX7_divide 78 = .ok (.iload 4, 2) := by decide +kernel
theorem dX7_divide_80 : decode cX7_divide 80 = .ok (.invokestatic 37, 3) := by decide +kernel
theorem dX7_divide_83 : decode cX7_divide 83 = .ok (.iload_n 1, 1) := by decide +kernel
theorem dX7_divide_84 : decode cX7_divide 84 = .ok (.invokestatic 37, 3) := by decide +kernel
theorem dX7_divide_87 : decode cX7_divide 87 = .ok (.isub, 1) := by decide +kernel
theorem dX7_divide_88 : decode cX7_divide 88 = .ok (.iload 5, 2) := by decide +kernel
theorem dX7_divide_90 : decode cX7_divide 90 = .ok (.idiv, 1) := by decide +kernel
theorem dX7_divide_91 : decode cX7_divide 91 = .ok (.invokevirtual 40, 3) := by decide +kernel
theorem dX7_divide_94 : decode cX7_divide 94 = .ok (.iload 4, 2) := by decide +kernel
theorem dX7_divide_96 : decode cX7_divide 96 = .ok (.istore_n 1, 1) := by decide +kernel
theorem dX7_divide_97 : decode cX7_divide 97 = .ok (.iinc 3 1, 3) := by decide +kernel
theorem dX7_divide_100 : decode cX7_divide 100 = .ok (.goto (-57), 3) := by decide +kernel
theorem dX7_divide_103 : decode cX7_divide 103 = .ok (.return_, 1) := by decide +kernel
set_option maxRecDepth 20000 in
theorem ggX7_meanOverOrders_X7_firstOrder : GoodIn wsX7_meanOverOrders wsX7_firstOrder := goodIn_ca (goodIn_r _ [6, 7, 1, 8, 29, 30, 31, 32, 33] (by decide +kernel) (by decide +kernel)) (goodIn_sub (fun _ h => List.mem_cons_of_mem _ (List.mem_append_left _ (List.mem_append_right _ h))) (by decide +kernel))
set_option maxRecDepth 20000 in
theorem gX7_meanOverOrders_X7_firstOrder : GoodIn wsX7_meanOverOrders (wsV RX7 44 RX7 yX7_firstOrder wsX7_firstOrder) := goodIn_app (goodIn_of _ (by decide +kernel)) ggX7_meanOverOrders_X7_firstOrder
set_option maxRecDepth 20000 in
theorem ggX7_meanOverOrders_X7_increaseBy : GoodIn wsX7_meanOverOrders wsX7_increaseBy := goodIn_ca (goodIn_r _ [12, 7, 13, 8, 14, 15, 16, 17, 18, 19, 5, 20, 29, 30, 31, 32, 33] (by decide +kernel) (by decide +kernel)) (goodIn_sub (fun _ h => List.mem_cons_of_mem _ (List.mem_append_left _ (List.mem_append_right _ h))) (by decide +kernel))
set_option maxRecDepth 20000 in
theorem gX7_meanOverOrders_X7_increaseBy : GoodIn wsX7_meanOverOrders (wsV RX7 47 RX7 yX7_increaseBy wsX7_increaseBy) := goodIn_app (goodIn_of _ (by decide +kernel)) ggX7_meanOverOrders_X7_increaseBy
set_option maxRecDepth 20000 in
theorem ggX7_meanOverOrders_X7_nextOrder : GoodIn wsX7_meanOverOrders wsX7_nextOrder := goodIn_ca (goodIn_r _ [24, 7, 8, 25, 26, 27, 5, 28, 29, 30, 31, 32, 33] (by decide +kernel) (by decide +kernel)) (goodIn_sub (fun _ h => List.mem_cons_of_mem _ (List.mem_append_left _ (List.mem_append_right _ h))) (by decide +kernel))
set_option maxRecDepth 20000 in
theorem gX7_meanOverOrders_X7_nextOrder : GoodIn wsX7_meanOverOrders (wsV RX7 50 RX7 yX7_nextOrder wsX7_nextOrder) := goodIn_app (goodIn_of _ (by decide +kernel)) ggX7_meanOverOrders_X7_nextOrder
theorem dX7_meanOverOrders_0 : decode cX7_meanOverOrders 0 = .ok (.aload_n 0, 1) := by decide +kernel
theorem dX7_meanOverOrders_1 : decode cX7_meanOverOrders 1 = .ok (.getfield 9, 3) := by decide +kernel
theorem dX7_meanOverOrders_4 : decode cX7_meanOverOrders 4 = .ok (.iload_n 1, 1) := by decide +kernel
theorem dX7_meanOverOrders_5 : decode cX7_meanOverOrders 5 = .ok (.baload, 1) := by decide +kernel
theorem dX7_meanOverOrders_6 : decode cX7_meanOverOrders 6 = .ok (.ifCond .ne 5, 3) := by decide +kernel
theorem dX7_meanOverOrders_9 : decode cX7_meanOverOrders 9 = .ok (.iconst (-1), 1) := by decide +kernel
theorem dX7_meanOverOrders_10 : decode cX7_meanOverOrders 10 = .ok (.ireturn, 1) := by decide +kernel
theorem dX7_meanOverOrders_11 : decode cX7_meanOverOrders 11 = .ok (.aload_n 0, 1) := by decide +kernel
theorem dX7_meanOverOrders_12 : decode cX7_meanOverOrders 12 = .ok (.invokevirtual 44, 3) := by decide +kernel
theorem dX7_meanOverOrders_15 : decode cX7_meanOverOrders 15 = .ok (.iconst 0, 1) := by decide +kernel
theorem dX7_meanOverOrders_16 : decode cX7_meanOverOrders 16 = .ok (.istore_n 2, 1) := by decide +kernel
theorem dX7_meanOverOrders_17 : decode cX7_meanOverOrders 17 = .ok (.iconst 0, 1) := by decide +kernel
theorem dX7_meanOverOrders_18 : decode cX7_meanOverOrders 18 = .ok (.istore_n 3, 1) := by decide +kernel
theorem dX7_meanOverOrders_19 : decode cX7_meanOverOrders 19 = .ok (.iconst 1, 1) := by decide +kernel
theorem dX7_meanOverOrders_20 : decode cX7_meanOverOrders 20 = .ok (.istore 4, 2) := by decide +kernel
theorem dX7_meanOverOrders_22 : decode cX7_meanOverOrders 22 = .ok (.iload 4, 2) := by decide +kernel
theorem dX7_meanOverOrders_24 : decode cX7_meanOverOrders 24 = .ok (.ifCond .eq 30, 3) := by decide +kernel
theorem dX7_meanOverOrders_27 : decode cX7_meanOverOrders 27 = .ok (.iload_n 3, 1) := by decide +kernel
theorem dX7_meanOverOrders_28 : decode cX7_meanOverOrders 28 = .ok (.sipush 720, 3) := by decide +kernel
theorem dX7_meanOverOrders_31 : decode cX7_meanOverOrders 31 = .ok (.if_icmp .ge 23, 3) := by decide +kernel
theorem dX7_meanOverOrders_34 : decode cX7_meanOverOrders 34 = .ok (.iload_n 2, 1) := by decide +kernel
theorem dX7_meanOverOrders_35 : decode cX7_meanOverOrders 35 = .ok (.aload_n 0, 1) := by decide +kernel
theorem dX7_meanOverOrders_36 : decode cX7_meanOverOrders 36 = .ok (.iload_n 1, 1) := by decide +kernel
theorem dX7_meanOverOrders_37 : decode cX7_meanOverOrders 37 = .ok (.invokevirtual 47, 3) := by decide +kernel
theorem dX7_meanOverOrders_40 : decode cX7_meanOverOrders 40 = .ok (.iadd, 1) := by decide +kernel
theorem dX7_meanOverOrders_41 : decode cX7_meanOverOrders 41 = .ok (.istore_n 2, 1) := by decide +kernel
theorem dX7_meanOverOrders_42 : decode cX7_meanOverOrders 42 = .ok (.iinc 3 1, 3) := by decide +kernel
theorem dX7_meanOverOrders_45 : decode cX7_meanOverOrders 45 = .ok (.aload_n 0, 1) := by decide +kernel
theorem dX7_meanOverOrders_46 : decode cX7_meanOverOrders 46 = .ok (.invokevirtual 50, 3) := by decide +kernel
theorem dX7_meanOverOrders_49 : decode cX7_meanOverOrders 49 = .ok (.istore 4, 2) := by decide +kernel
theorem dX7_meanOverOrders_51 : decode cX7_meanOverOrders 51 = .ok (.goto (-29), 3) := by decide +kernel
theorem dX7_meanOverOrders_54 : decode cX7_meanOverOrders 54 = .ok (.iload_n 3, 1) := by decide +kernel
theorem dX7_meanOverOrders_55 : decode cX7_meanOverOrders 55 = .ok (.ifCond .le 9, 3) := by decide +kernel
theorem dX7_meanOverOrders_58 : decode cX7_meanOverOrders 58 = .ok (.iload_n 2, 1) := by decide +kernel
theorem dX7_meanOverOrders_59 : decode cX7_meanOverOrders 59 = .ok (.iload_n 3, 1) := by decide +kernel
theorem dX7_meanOverOrders_60 : decode cX7_meanOverOrders 60 = .ok (.idiv, 1) := by decide +kernel
theorem dX7_meanOverOrders_61 : decode cX7_meanOverOrders 61 = .ok (.goto 4, 3) := by decide +kernel
theorem dX7_meanOverOrders_64 : decode cX7_meanOverOrders 64 = .ok (.iconst (-1), 1) := by decide +kernel
theorem dX7_meanOverOrders_65 : decode cX7_meanOverOrders 65 = .ok (.ireturn, 1) := by decide +kernel
set_option maxRecDepth 20000 in
theorem ggX7_dropThoseWhoCannotPay_X7_divide : GoodIn wsX7_dropThoseWhoCannotPay wsX7_divide := goodIn_ca (goodIn_ca (goodIn_r _ [6, 7, 1, 8, 9, 10, 5, 11, 12, 13, 14, 15, 16, 17, 18, 19, 20, 21, 22, 23, 24, 25, 26, 27, 34, 35, 36, 37, 38] (by decide +kernel) (by decide +kernel)) (goodIn_sub (fun _ h => List.mem_cons_of_mem _ (List.mem_append_left _ (List.mem_append_right _ h))) (by decide +kernel))) (goodIn_sub (fun _ h => List.mem_cons_of_mem _ (List.mem_append_right _ h)) (by decide +kernel))
set_option maxRecDepth 20000 in
theorem gX7_dropThoseWhoCannotPay_X7_divide : GoodIn wsX7_dropThoseWhoCannotPay (wsV RX7 54 RX7 yX7_divide wsX7_divide) := goodIn_app (goodIn_of _ (by decide +kernel)) ggX7_dropThoseWhoCannotPay_X7_divide
set_option maxRecDepth 20000 in
theorem ggX7_dropThoseWhoCannotPay_X7_firstWhoCannotPay : GoodIn wsX7_dropThoseWhoCannotPay wsX7_firstWhoCannotPay := goodIn_ca (goodIn_r _ [31, 32, 1, 33, 7, 39, 40, 41, 42, 43, 44, 34, 35, 36, 37, 38] (by decide +kernel) (by decide +kernel)) (goodIn_sub (fun _ h => List.mem_cons_of_mem _ (List.mem_append_left _ (List.mem_append_right _ h))) (by decide +kernel))
set_option maxRecDepth 20000 in
theorem gX7_dropThoseWhoCannotPay_X7_firstWhoCannotPay : GoodIn wsX7_dropThoseWhoCannotPay (wsV RX7 57 RX7 yX7_firstWhoCannotPay wsX7_firstWhoCannotPay) := goodIn_app (goodIn_of _ (by decide +kernel)) ggX7_dropThoseWhoCannotPay_X7_firstWhoCannotPay
theorem dX7_dropThoseWhoCannotPay_0 : decode cX7_dropThoseWhoCannotPay 0 = .ok (.aload_n 0, 1) := by decide +kernel
theorem dX7_dropThoseWhoCannotPay_1 : decode cX7_dropThoseWhoCannotPay 1 = .ok (.invokevirtual 54, 3) := by decide +kernel
theorem dX7_dropThoseWhoCannotPay_4 : decode cX7_dropThoseWhoCannotPay 4 = .ok (.aload_n 0, 1) := by decide +kernel
theorem dX7_dropThoseWhoCannotPay_5 : decode cX7_dropThoseWhoCannotPay 5 = .ok (.aload_n 1, 1) := by decide +kernel
theorem dX7_dropThoseWhoCannotPay_6 : decode cX7_dropThoseWhoCannotPay 6 = .ok (.invokevirtual 57, 3) := by decide +kernel
theorem dX7_dropThoseWhoCannotPay_9 : decode cX7_dropThoseWhoCannotPay 9 = .ok (.istore_n 2, 1) := by decide +kernel
theorem dX7_dropThoseWhoCannotPay_10 : decode cX7_dropThoseWhoCannotPay 10 = .ok (.iconst 0, 1) := by decide +kernel
theorem dX7_dropThoseWhoCannotPay_11 : decode cX7_dropThoseWhoCannotPay 11 = .ok (.istore_n 3, 1) := by decide +kernel
theorem dX7_dropThoseWhoCannotPay_12 : decode cX7_dropThoseWhoCannotPay 12 = .ok (.iload_n 2, 1) := by decide +kernel
theorem dX7_dropThoseWhoCannotPay_13 : decode cX7_dropThoseWhoCannotPay 13 = .ok (.iconst (-1), 1) := by decide +kernel
theorem dX7_dropThoseWhoCannotPay_14 : decode cX7_dropThoseWhoCannotPay 14 = .ok (.if_icmp .eq 32, 3) := by decide +kernel
theorem dX7_dropThoseWhoCannotPay_17 : decode cX7_dropThoseWhoCannotPay 17 = .ok (.iload_n 3, 1) := by decide +kernel
theorem dX7_dropThoseWhoCannotPay_18 : decode cX7_dropThoseWhoCannotPay 18 = .ok (.bipush 6, 2) := by decide +kernel
theorem dX7_dropThoseWhoCannotPay_20 : decode cX7_dropThoseWhoCannotPay 20 = .ok (.if_icmp .ge 26, 3) := by decide +kernel
theorem dX7_dropThoseWhoCannotPay_23 : decode cX7_dropThoseWhoCannotPay 23 = .ok (.aload_n 0, 1) := by decide +kernel
theorem dX7_dropThoseWhoCannotPay_24 : decode cX7_dropThoseWhoCannotPay 24 = .ok (.getfield 9, 3) := by decide +kernel
theorem dX7_dropThoseWhoCannotPay_27 : decode cX7_dropThoseWhoCannotPay 27 = .ok (.iload_n 2, 1) := by decide +kernel
theorem dX7_dropThoseWhoCannotPay_28 : decode cX7_dropThoseWhoCannotPay 28 = .ok (.iconst 0, 1) := by decide +kernel
theorem dX7_dropThoseWhoCannotPay_29 : decode cX7_dropThoseWhoCannotPay 29 = .ok (.bastore, 1) := by decide +kernel
theorem dX7_dropThoseWhoCannotPay_30 : decode cX7_dropThoseWhoCannotPay 30 = .ok (.aload_n 0, 1) := by decide +kernel
theorem dX7_dropThoseWhoCannotPay_31 : decode cX7_dropThoseWhoCannotPay 31 = .ok (.invokevirtual 54, 3) := by decide +kernel
theorem dX7_dropThoseWhoCannotPay_34 : decode cX7_dropThoseWhoCannotPay 34 = .ok (.aload_n 0, 1) := by decide +kernel
theorem dX7_dropThoseWhoCannotPay_35 : decode cX7_dropThoseWhoCannotPay 35 = .ok (.aload_n 1, 1) := by decide +kernel
theorem dX7_dropThoseWhoCannotPay_36 : decode cX7_dropThoseWhoCannotPay 36 = .ok (.invokevirtual 57, 3) := by decide +kernel
theorem dX7_dropThoseWhoCannotPay_39 : decode cX7_dropThoseWhoCannotPay 39 = .ok (.istore_n 2, 1) := by decide +kernel
theorem dX7_dropThoseWhoCannotPay_40 : decode cX7_dropThoseWhoCannotPay 40 = .ok (.iinc 3 1, 3) := by decide +kernel
theorem dX7_dropThoseWhoCannotPay_43 : decode cX7_dropThoseWhoCannotPay 43 = .ok (.goto (-31), 3) := by decide +kernel
theorem dX7_dropThoseWhoCannotPay_46 : decode cX7_dropThoseWhoCannotPay 46 = .ok (.return_, 1) := by decide +kernel
theorem dX7_firstWhoCannotPay_0 : decode cX7_firstWhoCannotPay 0 = .ok (.iconst 0, 1) := by decide +kernel
theorem dX7_firstWhoCannotPay_1 : decode cX7_firstWhoCannotPay 1 = .ok (.istore_n 2, 1) := by decide +kernel
theorem dX7_firstWhoCannotPay_2 : decode cX7_firstWhoCannotPay 2 = .ok (.iload_n 2, 1) := by decide +kernel
theorem dX7_firstWhoCannotPay_3 : decode cX7_firstWhoCannotPay 3 = .ok (.aload_n 1, 1) := by decide +kernel
theorem dX7_firstWhoCannotPay_4 : decode cX7_firstWhoCannotPay 4 = .ok (.getfield 61, 3) := by decide +kernel
theorem dX7_firstWhoCannotPay_7 : decode cX7_firstWhoCannotPay 7 = .ok (.if_icmp .ge 35, 3) := by decide +kernel
theorem dX7_firstWhoCannotPay_10 : decode cX7_firstWhoCannotPay 10 = .ok (.aload_n 0, 1) := by decide +kernel
theorem dX7_firstWhoCannotPay_11 : decode cX7_firstWhoCannotPay 11 = .ok (.getfield 9, 3) := by decide +kernel
theorem dX7_firstWhoCannotPay_14 : decode cX7_firstWhoCannotPay 14 = .ok (.iload_n 2, 1) := by decide +kernel
theorem dX7_firstWhoCannotPay_15 : decode cX7_firstWhoCannotPay 15 = .ok (.baload, 1) := by decide +kernel
theorem dX7_firstWhoCannotPay_16 : decode cX7_firstWhoCannotPay 16 = .ok (.ifCond .eq 20, 3) := by decide +kernel
theorem dX7_firstWhoCannotPay_19 : decode cX7_firstWhoCannotPay 19 = .ok (.aload_n 1, 1) := by decide +kernel
theorem dX7_firstWhoCannotPay_20 : decode cX7_firstWhoCannotPay 20 = .ok (.getfield 67, 3) := by decide +kernel
theorem dX7_firstWhoCannotPay_23 : decode cX7_firstWhoCannotPay 23 = .ok (.iload_n 2, 1) := by decide +kernel
theorem dX7_firstWhoCannotPay_24 : decode cX7_firstWhoCannotPay 24 = .ok (.iaload, 1) := by decide +kernel
theorem dX7_firstWhoCannotPay_25 : decode cX7_firstWhoCannotPay 25 = .ok (.aload_n 0, 1) := by decide +kernel
theorem dX7_firstWhoCannotPay_26 : decode cX7_firstWhoCannotPay 26 = .ok (.getfield 15, 3) := by decide +kernel
theorem dX7_firstWhoCannotPay_29 : decode cX7_firstWhoCannotPay 29 = .ok (.iload_n 2, 1) := by decide +kernel
theorem dX7_firstWhoCannotPay_30 : decode cX7_firstWhoCannotPay 30 = .ok (.iaload, 1) := by decide +kernel
theorem dX7_firstWhoCannotPay_31 : decode cX7_firstWhoCannotPay 31 = .ok (.if_icmp .ge 5, 3) := by decide +kernel
theorem dX7_firstWhoCannotPay_34 : decode cX7_firstWhoCannotPay 34 = .ok (.iload_n 2, 1) := by decide +kernel
theorem dX7_firstWhoCannotPay_35 : decode cX7_firstWhoCannotPay 35 = .ok (.ireturn, 1) := by decide +kernel
theorem dX7_firstWhoCannotPay_36 : decode cX7_firstWhoCannotPay 36 = .ok (.iinc 2 1, 3) := by decide +kernel
theorem dX7_firstWhoCannotPay_39 : decode cX7_firstWhoCannotPay 39 = .ok (.goto (-37), 3) := by decide +kernel
theorem dX7_firstWhoCannotPay_42 : decode cX7_firstWhoCannotPay 42 = .ok (.iconst (-1), 1) := by decide +kernel
theorem dX7_firstWhoCannotPay_43 : decode cX7_firstWhoCannotPay 43 = .ok (.ireturn, 1) := by decide +kernel
theorem dX7_leastNeedAbove_0 : decode cX7_leastNeedAbove 0 = .ok (.iload_n 2, 1) := by decide +kernel
theorem dX7_leastNeedAbove_1 : decode cX7_leastNeedAbove 1 = .ok (.istore_n 3, 1) := by decide +kernel
theorem dX7_leastNeedAbove_2 : decode cX7_leastNeedAbove 2 = .ok (.iconst 0, 1) := by decide +kernel
theorem dX7_leastNeedAbove_3 : decode cX7_leastNeedAbove 3 = .ok (.istore 4, 2) := by decide +kernel
theorem dX7_leastNeedAbove_5 : decode cX7_leastNeedAbove 5 = .ok (.iload 4, 2) := by decide +kernel
theorem dX7_leastNeedAbove_7 : decode cX7_leastNeedAbove 7 = .ok (.bipush 6, 2) := by decide +kernel
theorem dX7_leastNeedAbove_9 : decode cX7_leastNeedAbove 9 = .ok (.if_icmp .ge 49, 3) := by decide +kernel
theorem dX7_leastNeedAbove_12 : decode cX7_leastNeedAbove 12 = .ok (.aload_n 0, 1) := by decide +kernel
theorem dX7_leastNeedAbove_13 : decode cX7_leastNeedAbove 13 = .ok (.getfield 9, 3) := by decide +kernel
theorem dX7_leastNeedAbove_16 : decode cX7_leastNeedAbove 16 = .ok (.iload 4, 2) := by decide +kernel
theorem dX7_leastNeedAbove_18 : decode cX7_leastNeedAbove 18 = .ok (.baload, 1) := by decide +kernel
theorem dX7_leastNeedAbove_19 : decode cX7_leastNeedAbove 19 = .ok (.ifCond .eq 33, 3) := by decide +kernel
theorem dX7_leastNeedAbove_22 : decode cX7_leastNeedAbove 22 = .ok (.aload_n 0, 1) := by decide +kernel
theorem dX7_leastNeedAbove_23 : decode cX7_leastNeedAbove 23 = .ok (.getfield 19, 3) := by decide +kernel
theorem dX7_leastNeedAbove_26 : decode cX7_leastNeedAbove 26 = .ok (.iload 4, 2) := by decide +kernel
theorem dX7_leastNeedAbove_28 : decode cX7_leastNeedAbove 28 = .ok (.iaload, 1) := by decide +kernel
theorem dX7_leastNeedAbove_29 : decode cX7_leastNeedAbove 29 = .ok (.iload_n 1, 1) := by decide +kernel
theorem dX7_leastNeedAbove_30 : decode cX7_leastNeedAbove 30 = .ok (.if_icmp .le 22, 3) := by decide +kernel
theorem dX7_leastNeedAbove_33 : decode cX7_leastNeedAbove 33 = .ok (.aload_n 0, 1) := by decide +kernel
theorem dX7_leastNeedAbove_34 : decode cX7_leastNeedAbove 34 = .ok (.getfield 19, 3) := by decide +kernel
theorem dX7_leastNeedAbove_37 : decode cX7_leastNeedAbove 37 = .ok (.iload 4, 2) := by decide +kernel
theorem dX7_leastNeedAbove_39 : decode cX7_leastNeedAbove 39 = .ok (.iaload, 1) := by decide +kernel
theorem dX7_leastNeedAbove_40 : decode cX7_leastNeedAbove 40 = .ok (.iload_n 3, 1) := by decide +kernel
theorem dX7_leastNeedAbove_41 : decode cX7_leastNeedAbove 41 = .ok (.if_icmp .ge 11, 3) := by decide +kernel
theorem dX7_leastNeedAbove_44 : decode cX7_leastNeedAbove 44 = .ok (.aload_n 0, 1) := by decide +kernel
theorem dX7_leastNeedAbove_45 : decode cX7_leastNeedAbove 45 = .ok (.getfield 19, 3) := by decide +kernel
theorem dX7_leastNeedAbove_48 : decode cX7_leastNeedAbove 48 = .ok (.iload 4, 2) := by decide +kernel
theorem dX7_leastNeedAbove_50 : decode cX7_leastNeedAbove 50 = .ok (.iaload, 1) := by decide +kernel
theorem dX7_leastNeedAbove_51 : decode cX7_leastNeedAbove 51 = .ok (.istore_n 3, 1) := by decide +kernel
theorem dX7_leastNeedAbove_52 : decode cX7_leastNeedAbove 52 = .ok (.iinc 4 1, 3) := by decide +kernel
theorem dX7_leastNeedAbove_55 : decode cX7_leastNeedAbove 55 = .ok (.goto (-50), 3) := by decide +kernel
theorem dX7_leastNeedAbove_58 : decode cX7_leastNeedAbove 58 = .ok (.iload_n 3, 1) := by decide +kernel
theorem dX7_leastNeedAbove_59 : decode cX7_leastNeedAbove 59 = .ok (.ireturn, 1) := by decide +kernel
theorem dX7_addToShares_0 : decode cX7_addToShares 0 = .ok (.iconst 0, 1) := by decide +kernel
theorem dX7_addToShares_1 : decode cX7_addToShares 1 = .ok (.istore_n 3, 1) := by decide +kernel
theorem dX7_addToShares_2 : decode cX7_addToShares 2 = .ok (.iload_n 3, 1) := by decide +kernel
theorem dX7_addToShares_3 : decode cX7_addToShares 3 = .ok (.bipush 6, 2) := by decide +kernel
theorem dX7_addToShares_5 : decode cX7_addToShares 5 = .ok (.if_icmp .ge 38, 3) := by decide +kernel
theorem dX7_addToShares_8 : decode cX7_addToShares 8 = .ok (.aload_n 0, 1) := by decide +kernel
theorem dX7_addToShares_9 : decode cX7_addToShares 9 = .ok (.getfield 9, 3) := by decide +kernel
theorem dX7_addToShares_12 : decode cX7_addToShares 12 = .ok (.iload_n 3, 1) := by decide +kernel
theorem dX7_addToShares_13 : decode cX7_addToShares 13 = .ok (.baload, 1) := by decide +kernel
theorem dX7_addToShares_14 : decode cX7_addToShares 14 = .ok (.ifCond .eq 23, 3) := by decide +kernel
theorem dX7_addToShares_17 : decode cX7_addToShares 17 = .ok (.aload_n 0, 1) := by decide +kernel
theorem dX7_addToShares_18 : decode cX7_addToShares 18 = .ok (.getfield 19, 3) := by decide +kernel
theorem dX7_addToShares_21 : decode cX7_addToShares 21 = .ok (.iload_n 3, 1) := by decide +kernel
theorem dX7_addToShares_22 : decode cX7_addToShares 22 = .ok (.iaload, 1) := by decide +kernel
theorem dX7_addToShares_23 : decode cX7_addToShares 23 = .ok (.iload_n 1, 1) := by decide +kernel
theorem dX7_addToShares_24 : decode cX7_addToShares 24 = .ok (.if_icmp .lt 13, 3) := by decide +kernel
theorem dX7_addToShares_27 : decode cX7_addToShares 27 = .ok (.aload_n 0, 1) := by decide +kernel
theorem dX7_addToShares_28 : decode cX7_addToShares 28 = .ok (.getfield 15, 3) := by decide +kernel
theorem dX7_addToShares_31 : decode cX7_addToShares 31 = .ok (.iload_n 3, 1) := by decide +kernel
theorem dX7_addToShares_32 : decode cX7_addToShares 32 = .ok (.dup2, 1) := by decide +kernel
theorem dX7_addToShares_33 : decode cX7_addToShares 33 = .ok (.iaload, 1) := by decide +kernel
theorem dX7_addToShares_34 : decode cX7_addToShares 34 = .ok (.iload_n 2, 1) := by decide +kernel
theorem dX7_addToShares_35 : decode cX7_addToShares 35 = .ok (.iadd, 1) := by decide +kernel
theorem dX7_addToShares_36 : decode cX7_addToShares 36 = .ok (.iastore, 1) := by decide +kernel
theorem dX7_addToShares_37 : decode cX7_addToShares 37 = .ok (.iinc 3 1, 3) := by decide +kernel
theorem dX7_addToShares_40 : decode cX7_addToShares 40 = .ok (.goto (-38), 3) := by decide +kernel
theorem dX7_addToShares_43 : decode cX7_addToShares 43 = .ok (.return_, 1) := by decide +kernel
theorem dX7_countNeeding_0 : decode cX7_countNeeding 0 = .ok (.iconst 0, 1) := by decide +kernel
theorem dX7_countNeeding_1 : decode cX7_countNeeding 1 = .ok (.istore_n 2, 1) := by decide +kernel
theorem dX7_countNeeding_2 : decode cX7_countNeeding 2 = .ok (.iconst 0, 1) := by decide +kernel
theorem dX7_countNeeding_3 : decode cX7_countNeeding 3 = .ok (.istore_n 3, 1) := by decide +kernel
theorem dX7_countNeeding_4 : decode cX7_countNeeding 4 = .ok (.iload_n 3, 1) := by decide +kernel
theorem dX7_countNeeding_5 : decode cX7_countNeeding 5 = .ok (.bipush 6, 2) := by decide +kernel
theorem dX7_countNeeding_7 : decode cX7_countNeeding 7 = .ok (.if_icmp .ge 31, 3) := by decide +kernel
theorem dX7_countNeeding_10 : decode cX7_countNeeding 10 = .ok (.aload_n 0, 1) := by decide +kernel
theorem dX7_countNeeding_11 : decode cX7_countNeeding 11 = .ok (.getfield 9, 3) := by decide +kernel
theorem dX7_countNeeding_14 : decode cX7_countNeeding 14 = .ok (.iload_n 3, 1) := by decide +kernel
theorem dX7_countNeeding_15 : decode cX7_countNeeding 15 = .ok (.baload, 1) := by decide +kernel
theorem dX7_countNeeding_16 : decode cX7_countNeeding 16 = .ok (.ifCond .eq 16, 3) := by decide +kernel
theorem dX7_countNeeding_19 : decode cX7_countNeeding 19 = .ok (.aload_n 0, 1) := by decide +kernel
theorem dX7_countNeeding_20 : decode cX7_countNeeding 20 = .ok (.getfield 19, 3) := by decide +kernel
theorem dX7_countNeeding_23 : decode cX7_countNeeding 23 = .ok (.iload_n 3, 1) := by decide +kernel
theorem dX7_countNeeding_24 : decode cX7_countNeeding 24 = .ok (.iaload, 1) := by decide +kernel
theorem dX7_countNeeding_25 : decode cX7_countNeeding 25 = .ok (.iload_n 1, 1) := by decide +kernel
theorem dX7_countNeeding_26 : decode cX7_countNeeding 26 = .ok (.if_icmp .lt 6, 3) := by decide +kernel
theorem dX7_countNeeding_29 : decode cX7_countNeeding 29 = .ok (.iinc 2 1, 3) := by decide +kernel
theorem dX7_countNeeding_32 : decode cX7_countNeeding 32 = .ok (.iinc 3 1, 3) := by decide +kernel
theorem dX7_countNeeding_35 : decode cX7_countNeeding 35 = .ok (.goto (-31), 3) := by decide +kernel
theorem dX7_countNeeding_38 : decode cX7_countNeeding 38 = .ok (.iload_n 2, 1) := by decide +kernel
theorem dX7_countNeeding_39 : decode cX7_countNeeding 39 = .ok (.ireturn, 1) := by decide +kernel
set_option maxRecDepth 20000 in
theorem ggX7_increaseBy_X7_cost : GoodIn wsX7_increaseBy wsX7_cost := goodIn_r _ [11] (by decide +kernel) (by decide +kernel)
set_option maxRecDepth 20000 in
theorem gX7_increaseBy_X7_cost : GoodIn wsX7_increaseBy (va_wsS RX7 37 yX7_cost wsX7_cost) := goodIn_app (goodIn_of _ (by decide +kernel)) ggX7_increaseBy_X7_cost
theorem dX7_increaseBy_0 : decode cX7_increaseBy 0 = .ok (.iconst 0, 1) := by decide +kernel
theorem dX7_increaseBy_1 : decode cX7_increaseBy 1 = .ok (.istore_n 2, 1) := by decide +kernel
theorem dX7_increaseBy_2 : decode cX7_increaseBy 2 = .ok (.iconst 0, 1) := by decide +kernel
theorem dX7_increaseBy_3 : decode cX7_increaseBy 3 = .ok (.istore_n 3, 1) := by decide +kernel
theorem dX7_increaseBy_4 : decode cX7_increaseBy 4 = .ok (.iload_n 3, 1) := by decide +kernel
theorem dX7_increaseBy_5 : decode cX7_increaseBy 5 = .ok (.aload_n 0, 1) := by decide +kernel
theorem dX7_increaseBy_6 : decode cX7_increaseBy 6 = .ok (.getfield 70, 3) := by decide +kernel
theorem dX7_increaseBy_9 : decode cX7_increaseBy 9 = .ok (.if_icmp .ge 50, 3) := by decide +kernel
theorem dX7_increaseBy_12 : decode cX7_increaseBy 12 = .ok (.iload_n 2, 1) := by decide +kernel
theorem dX7_increaseBy_13 : decode cX7_increaseBy 13 = .ok (.aload_n 0, 1) := by decide +kernel
theorem dX7_increaseBy_14 : decode cX7_increaseBy 14 = .ok (.getfield 19, 3) := by decide +kernel
theorem dX7_increaseBy_17 : decode cX7_increaseBy 17 = .ok (.aload_n 0, 1) := by decide +kernel
theorem dX7_increaseBy_18 : decode cX7_increaseBy 18 = .ok (.getfield 22, 3) := by decide +kernel
theorem dX7_increaseBy_21 : decode cX7_increaseBy 21 = .ok (.iload_n 3, 1) := by decide +kernel
theorem dX7_increaseBy_22 : decode cX7_increaseBy 22 = .ok (.iaload, 1) := by decide +kernel
theorem dX7_increaseBy_23 : decode cX7_increaseBy 23 = .ok (.iaload, 1) := by decide +kernel
theorem dX7_increaseBy_24 : decode cX7_increaseBy 24 = .ok (.invokestatic 73, 3) := by decide +kernel
theorem dX7_increaseBy_27 : decode cX7_increaseBy 27 = .ok (.istore 4, 2) := by decide +kernel
theorem dX7_increaseBy_29 : decode cX7_increaseBy 29 = .ok (.aload_n 0, 1) := by decide +kernel
theorem dX7_increaseBy_30 : decode cX7_increaseBy 30 = .ok (.getfield 22, 3) := by decide +kernel
theorem dX7_increaseBy_33 : decode cX7_increaseBy 33 = .ok (.iload_n 3, 1) := by decide +kernel
theorem dX7_increaseBy_34 : decode cX7_increaseBy 34 = .ok (.iaload, 1) := by decide +kernel
theorem dX7_increaseBy_35 : decode cX7_increaseBy 35 = .ok (.iload_n 1, 1) := by decide +kernel
theorem dX7_increaseBy_36 : decode cX7_increaseBy 36 = .ok (.if_icmp .ne 14, 3) := by decide +kernel
theorem dX7_increaseBy_39 : decode cX7_increaseBy 39 = .ok (.iload 4, 2) := by decide +kernel
theorem dX7_increaseBy_41 : decode cX7_increaseBy 41 = .ok (.invokestatic 37, 3) := by decide +kernel
theorem dX7_increaseBy_44 : decode cX7_increaseBy 44 = .ok (.iload_n 2, 1) := by decide +kernel
theorem dX7_increaseBy_45 : decode cX7_increaseBy 45 = .ok (.invokestatic 37, 3) := by decide +kernel
theorem dX7_increaseBy_48 : decode cX7_increaseBy 48 = .ok (.isub, 1) := by decide +kernel
theorem dX7_increaseBy_49 : decode cX7_increaseBy 49 = .ok (.ireturn, 1) := by decide +kernel
theorem dX7_increaseBy_50 : decode cX7_increaseBy 50 = .ok (.iload 4, 2) := by decide +kernel
theorem dX7_increaseBy_52 : decode cX7_increaseBy 52 = .ok (.istore_n 2, 1) := by decide +kernel
theorem dX7_increaseBy_53 : decode cX7_increaseBy 53 = .ok (.iinc 3 1, 3) := by decide +kernel
theorem dX7_increaseBy_56 : decode cX7_increaseBy 56 = .ok (.goto (-52), 3) := by decide +kernel
theorem dX7_increaseBy_59 : decode cX7_increaseBy 59 = .ok (.iconst 0, 1) := by decide +kernel
theorem dX7_increaseBy_60 : decode cX7_increaseBy 60 = .ok (.ireturn, 1) := by decide +kernel
theorem dX7_firstOrder_0 : decode cX7_firstOrder 0 = .ok (.aload_n 0, 1) := by decide +kernel
theorem dX7_firstOrder_1 : decode cX7_firstOrder 1 = .ok (.iconst 0, 1) := by decide +kernel
theorem dX7_firstOrder_2 : decode cX7_firstOrder 2 = .ok (.putfield 70, 3) := by decide +kernel
theorem dX7_firstOrder_5 : decode cX7_firstOrder 5 = .ok (.iconst 0, 1) := by decide +kernel
theorem dX7_firstOrder_6 : decode cX7_firstOrder 6 = .ok (.istore_n 1, 1) := by decide +kernel
theorem dX7_firstOrder_7 : decode cX7_firstOrder 7 = .ok (.iload_n 1, 1) := by decide +kernel
theorem dX7_firstOrder_8 : decode cX7_firstOrder 8 = .ok (.bipush 6, 2) := by decide +kernel
theorem dX7_firstOrder_10 : decode cX7_firstOrder 10 = .ok (.if_icmp .ge 38, 3) := by decide +kernel
theorem dX7_firstOrder_13 : decode cX7_firstOrder 13 = .ok (.aload_n 0, 1) := by decide +kernel
theorem dX7_firstOrder_14 : decode cX7_firstOrder 14 = .ok (.getfield 9, 3) := by decide +kernel
theorem dX7_firstOrder_17 : decode cX7_firstOrder 17 = .ok (.iload_n 1, 1) := by decide +kernel
theorem dX7_firstOrder_18 : decode cX7_firstOrder 18 = .ok (.baload, 1) := by decide +kernel
theorem dX7_firstOrder_19 : decode cX7_firstOrder 19 = .ok (.ifCond .eq 23, 3) := by decide +kernel
theorem dX7_firstOrder_22 : decode cX7_firstOrder 22 = .ok (.aload_n 0, 1) := by decide +kernel
theorem dX7_firstOrder_23 : decode cX7_firstOrder 23 = .ok (.getfield 22, 3) := by decide +kernel
theorem dX7_firstOrder_26 : decode cX7_firstOrder 26 = .ok (.aload_n 0, 1) := by decide +kernel
theorem dX7_firstOrder_27 : decode cX7_firstOrder 27 = .ok (.getfield 70, 3) := by decide +kernel
theorem dX7_firstOrder_30 : decode cX7_firstOrder 30 = .ok (.iload_n 1, 1) := by decide +kernel
theorem dX7_firstOrder_31 : decode cX7_firstOrder 31 = .ok (.iastore, 1) := by decide +kernel
theorem dX7_firstOrder_32 : decode cX7_firstOrder 32 = .ok (.aload_n 0, 1) := by decide +kernel
theorem dX7_firstOrder_33 : decode cX7_firstOrder 33 = .ok (.dup, 1) := by decide +kernel
theorem dX7_firstOrder_34 : decode cX7_firstOrder 34 = .ok (.getfield 70, 3) := by decide +kernel
theorem dX7_firstOrder_37 : decode cX7_firstOrder 37 = .ok (.iconst 1, 1) := by decide +kernel
theorem dX7_firstOrder_38 : decode cX7_firstOrder 38 = .ok (.iadd, 1) := by decide +kernel
theorem dX7_firstOrder_39 : decode cX7_firstOrder 39 = .ok (.putfield 70, 3) := by decide +kernel
theorem dX7_firstOrder_42 : decode cX7_firstOrder 42 = .ok (.iinc 1 1, 3) := by decide +kernel
theorem dX7_firstOrder_45 : decode cX7_firstOrder 45 = .ok (.goto (-38), 3) := by decide +kernel
theorem dX7_firstOrder_48 : decode cX7_firstOrder 48 = .ok (.return_, 1) := by decide +kernel
set_option maxRecDepth 20000 in
theorem ggX7_nextOrder_X7_swap : GoodIn wsX7_nextOrder wsX7_swap := goodIn_ca (goodIn_r _ [7, 2, 8, 9, 10, 11, 12] (by decide +kernel) (by decide +kernel)) (goodIn_sub (fun _ h => List.mem_cons_of_mem _ (List.mem_append_right _ h)) (by decide +kernel))
set_option maxRecDepth 20000 in
theorem gX7_nextOrder_X7_swap : GoodIn wsX7_nextOrder (wsV RX7 78 RX7 yX7_swap wsX7_swap) := goodIn_app (goodIn_of _ (by decide +kernel)) ggX7_nextOrder_X7_swap
theorem dX7_nextOrder_0 : decode cX7_nextOrder 0 = .ok (.aload_n 0, 1) := by decide +kernel
theorem dX7_nextOrder_1 : decode cX7_nextOrder 1 = .ok (.getfield 70, 3) := by decide +kernel
theorem dX7_nextOrder_4 : decode cX7_nextOrder 4 = .ok (.iconst 2, 1) := by decide +kernel
theorem dX7_nextOrder_5 : decode cX7_nextOrder 5 = .ok (.isub, 1) := by decide +kernel
theorem dX7_nextOrder_6 : decode cX7_nextOrder 6 = .ok (.istore_n 1, 1) := by decide +kernel
theorem dX7_nextOrder_7 : decode cX7_nextOrder 7 = .ok (.iload_n 1, 1) := by decide +kernel
theorem dX7_nextOrder_8 : decode cX7_nextOrder 8 = .ok (.ifCond .lt 26, 3) := by decide +kernel
theorem dX7_nextOrder_11 : decode cX7_nextOrder 11 = .ok (.aload_n 0, 1) := by decide +kernel
theorem dX7_nextOrder_12 : decode cX7_nextOrder 12 = .ok (.getfield 22, 3) := by decide +kernel
theorem dX7_nextOrder_15 : decode cX7_nextOrder 15 = .ok (.iload_n 1, 1) := by decide +kernel
theorem dX7_nextOrder_16 : decode cX7_nextOrder 16 = .ok (.iaload, 1) := by decide +kernel
theorem dX7_nextOrder_17 : decode cX7_nextOrder 17 = .ok (.aload_n 0, 1) := by decide +kernel
theorem dX7_nextOrder_18 : decode cX7_nextOrder 18 = .ok (.getfield 22, 3) := by decide +kernel
theorem dX7_nextOrder_21 : decode cX7_nextOrder 21 = .ok (.iload_n 1, 1) := by decide +kernel
theorem dX7_nextOrder_22 : decode cX7_nextOrder 22 = .ok (.iconst 1, 1) := by decide +kernel
theorem dX7_nextOrder_23 : decode cX7_nextOrder 23 = .ok (.iadd, 1) := by decide +kernel
theorem dX7_nextOrder_24 : decode cX7_nextOrder 24 = .ok (.iaload, 1) := by decide +kernel
theorem dX7_nextOrder_25 : decode cX7_nextOrder 25 = .ok (.if_icmp .le 9, 3) := by decide +kernel
theorem dX7_nextOrder_28 : decode cX7_nextOrder 28 = .ok (.iinc 1 (-1), 3) := by decide +kernel
theorem dX7_nextOrder_31 : decode cX7_nextOrder 31 = .ok (.goto (-24), 3) := by decide +kernel
theorem dX7_nextOrder_34 : decode cX7_nextOrder 34 = .ok (.iload_n 1, 1) := by decide +kernel
theorem dX7_nextOrder_35 : decode cX7_nextOrder 35 = .ok (.ifCond .ge 5, 3) := by decide +kernel
theorem dX7_nextOrder_38 : decode cX7_nextOrder 38 = .ok (.iconst 0, 1) := by decide +kernel
theorem dX7_nextOrder_39 : decode cX7_nextOrder 39 = .ok (.ireturn, 1) := by decide +kernel
theorem dX7_nextOrder_40 : decode cX7_nextOrder 40 = .ok (.aload_n 0, 1) := by decide +kernel
theorem dX7_nextOrder_41 : decode cX7_nextOrder 41 = .ok (.getfield 70, 3) := by decide +kernel
theorem dX7_nextOrder_44 : decode cX7_nextOrder 44 = .ok (.iconst 1, 1) := by decide +kernel
theorem dX7_nextOrder_45 : decode cX7_nextOrder 45 = .ok (.isub, 1) := by decide +kernel
theorem dX7_nextOrder_46 : decode cX7_nextOrder 46 = .ok (.istore_n 2, 1) := by decide +kernel
theorem dX7_nextOrder_47 : decode cX7_nextOrder 47 = .ok (.iload_n 2, 1) := by decide +kernel
theorem dX7_nextOrder_48 : decode cX7_nextOrder 48 = .ok (.iload_n 1, 1) := by decide +kernel
theorem dX7_nextOrder_49 : decode cX7_nextOrder 49 = .ok (.if_icmp .le 24, 3) := by decide +kernel
theorem dX7_nextOrder_52 : decode cX7_nextOrder 52 = .ok (.aload_n 0, 1) := by decide +kernel
theorem dX7_nextOrder_53 : decode cX7_nextOrder 53 = .ok (.getfield 22, 3) := by decide +kernel
theorem dX7_nextOrder_56 : decode cX7_nextOrder 56 = .ok (.iload_n 2, 1) := by decide +kernel
theorem dX7_nextOrder_57 : decode cX7_nextOrder 57 = .ok (.iaload, 1) := by decide +kernel
theorem dX7_nextOrder_58 : decode cX7_nextOrder 58 = .ok (.aload_n 0, 1) := by decide +kernel
theorem dX7_nextOrder_59 : decode cX7_nextOrder 59 = .ok (.getfield 22, 3) := by decide +kernel
theorem dX7_nextOrder_62 : decode cX7_nextOrder 62 = .ok (.iload_n 1, 1) := by decide +kernel
theorem dX7_nextOrder_63 : decode cX7_nextOrder 63 = .ok (.iaload, 1) := by decide +kernel
theorem dX7_nextOrder_64 : decode cX7_nextOrder 64 = .ok (.if_icmp .ge 9, 3) := by decide +kernel
theorem dX7_nextOrder_67 : decode cX7_nextOrder 67 = .ok (.iinc 2 (-1), 3) := by decide +kernel
theorem dX7_nextOrder_70 : decode cX7_nextOrder 70 = .ok (.goto (-23), 3) := by decide +kernel
theorem dX7_nextOrder_73 : decode cX7_nextOrder 73 = .ok (.aload_n 0, 1) := by decide +kernel
theorem dX7_nextOrder_74 : decode cX7_nextOrder 74 = .ok (.iload_n 1, 1) := by decide +kernel
theorem dX7_nextOrder_75 : decode cX7_nextOrder 75 = .ok (.iload_n 2, 1) := by decide +kernel
theorem dX7_nextOrder_76 : decode cX7_nextOrder 76 = .ok (.invokevirtual 78, 3) := by decide +kernel
theorem dX7_nextOrder_79 : decode cX7_nextOrder 79 = .ok (.iload_n 1, 1) := by decide +kernel
theorem dX7_nextOrder_80 : decode cX7_nextOrder 80 = .ok (.iconst 1, 1) := by decide +kernel
theorem dX7_nextOrder_81 : decode cX7_nextOrder 81 = .ok (.iadd, 1) := by decide +kernel
theorem dX7_nextOrder_82 : decode cX7_nextOrder 82 = .ok (.istore_n 3, 1) := by decide +kernel
theorem dX7_nextOrder_83 : decode cX7_nextOrder 83 = .ok (.aload_n 0, 1) := by decide +kernel
theorem dX7_nextOrder_84 : decode cX7_nextOrder 84 = .ok (.getfield 70, 3) := by decide +kernel
theorem dX7_nextOrder_87 : decode cX7_nextOrder 87 = .ok (.iconst 1, 1) := by decide +kernel
theorem dX7_nextOrder_88 : decode cX7_nextOrder 88 = .ok (.isub, 1) := by decide +kernel
theorem dX7_nextOrder_89 : decode cX7_nextOrder 89 = .ok (.istore 4, 2) := by decide +kernel
theorem dX7_nextOrder_91 : decode cX7_nextOrder 91 = .ok (.iload_n 3, 1) := by decide +kernel
theorem dX7_nextOrder_92 : decode cX7_nextOrder 92 = .ok (.iload 4, 2) := by decide +kernel
theorem dX7_nextOrder_94 : decode cX7_nextOrder 94 = .ok (.if_icmp .ge 19, 3) := by decide +kernel
theorem dX7_nextOrder_97 : decode cX7_nextOrder 97 = .ok (.aload_n 0, 1) := by decide +kernel
theorem dX7_nextOrder_98 : decode cX7_nextOrder 98 = .ok (.iload_n 3, 1) := by decide +kernel
theorem dX7_nextOrder_99 : decode cX7_nextOrder 99 = .ok (.iload 4, 2) := by decide +kernel
theorem dX7_nextOrder_101 : decode cX7_nextOrder 101 = .ok (.invokevirtual 78, 3) := by decide +kernel
theorem dX7_nextOrder_104 : decode cX7_nextOrder 104 = .ok (.iinc 3 1, 3) := by decide +kernel
theorem dX7_nextOrder_107 : decode cX7_nextOrder 107 = .ok (.iinc 4 (-1), 3) := by decide +kernel
theorem dX7_nextOrder_110 : decode cX7_nextOrder 110 = .ok (.goto (-19), 3) := by decide +kernel
theorem dX7_nextOrder_113 : decode cX7_nextOrder 113 = .ok (.iconst 1, 1) := by decide +kernel
theorem dX7_nextOrder_114 : decode cX7_nextOrder 114 = .ok (.ireturn, 1) := by decide +kernel
theorem dX7_swap_0 : decode cX7_swap 0 = .ok (.aload_n 0, 1) := by decide +kernel
theorem dX7_swap_1 : decode cX7_swap 1 = .ok (.getfield 22, 3) := by decide +kernel
theorem dX7_swap_4 : decode cX7_swap 4 = .ok (.iload_n 1, 1) := by decide +kernel
theorem dX7_swap_5 : decode cX7_swap 5 = .ok (.iaload, 1) := by decide +kernel
theorem dX7_swap_6 : decode cX7_swap 6 = .ok (.istore_n 3, 1) := by decide +kernel
theorem dX7_swap_7 : decode cX7_swap 7 = .ok (.aload_n 0, 1) := by decide +kernel
theorem dX7_swap_8 : decode cX7_swap 8 = .ok (.getfield 22, 3) := by decide +kernel
theorem dX7_swap_11 : decode cX7_swap 11 = .ok (.iload_n 1, 1) := by decide +kernel
theorem dX7_swap_12 : decode cX7_swap 12 = .ok (.aload_n 0, 1) := by decide +kernel
theorem dX7_swap_13 : decode cX7_swap 13 = .ok (.getfield 22, 3) := by decide +kernel
theorem dX7_swap_16 : decode cX7_swap 16 = .ok (.iload_n 2, 1) := by decide +kernel
theorem dX7_swap_17 : decode cX7_swap 17 = .ok (.iaload, 1) := by decide +kernel
theorem dX7_swap_18 : decode cX7_swap 18 = .ok (.iastore, 1) := by decide +kernel
theorem dX7_swap_19 : decode cX7_swap 19 = .ok (.aload_n 0, 1) := by decide +kernel
theorem dX7_swap_20 : decode cX7_swap 20 = .ok (.getfield 22, 3) := by decide +kernel
theorem dX7_swap_23 : decode cX7_swap 23 = .ok (.iload_n 2, 1) := by decide +kernel
theorem dX7_swap_24 : decode cX7_swap 24 = .ok (.iload_n 3, 1) := by decide +kernel
theorem dX7_swap_25 : decode cX7_swap 25 = .ok (.iastore, 1) := by decide +kernel
theorem dX7_swap_26 : decode cX7_swap 26 = .ok (.return_, 1) := by decide +kernel
theorem dX8_init_0 : decode cX8_init 0 = .ok (.aload_n 0, 1) := by decide +kernel
theorem dX8_init_1 : decode cX8_init 1 = .ok (.invokespecial 3, 3) := by decide +kernel
theorem dX8_init_4 : decode cX8_init 4 = .ok (.aload_n 0, 1) := by decide +kernel
theorem dX8_init_5 : decode cX8_init 5 = .ok (.bipush 6, 2) := by decide +kernel
theorem dX8_init_7 : decode cX8_init 7 = .ok (.newarray .int, 2) := by decide +kernel
theorem dX8_init_9 : decode cX8_init 9 = .ok (.putfield 9, 3) := by decide +kernel
theorem dX8_init_12 : decode cX8_init 12 = .ok (.aload_n 0, 1) := by decide +kernel
theorem dX8_init_13 : decode cX8_init 13 = .ok (.bipush 6, 2) := by decide +kernel
theorem dX8_init_15 : decode cX8_init 15 = .ok (.newarray .int, 2) := by decide +kernel
theorem dX8_init_17 : decode cX8_init 17 = .ok (.putfield 15, 3) := by decide +kernel
theorem dX8_init_20 : decode cX8_init 20 = .ok (.aload_n 0, 1) := by decide +kernel
theorem dX8_init_21 : decode cX8_init 21 = .ok (.bipush 6, 2) := by decide +kernel
theorem dX8_init_23 : decode cX8_init 23 = .ok (.newarray .int, 2) := by decide +kernel
theorem dX8_init_25 : decode cX8_init 25 = .ok (.putfield 18, 3) := by decide +kernel
theorem dX8_init_28 : decode cX8_init 28 = .ok (.aload_n 0, 1) := by decide +kernel
theorem dX8_init_29 : decode cX8_init 29 = .ok (.bipush 6, 2) := by decide +kernel
theorem dX8_init_31 : decode cX8_init 31 = .ok (.newarray .int, 2) := by decide +kernel
theorem dX8_init_33 : decode cX8_init 33 = .ok (.putfield 21, 3) := by decide +kernel
theorem dX8_init_36 : decode cX8_init 36 = .ok (.aload_n 0, 1) := by decide +kernel
theorem dX8_init_37 : decode cX8_init 37 = .ok (.bipush 6, 2) := by decide +kernel
theorem dX8_init_39 : decode cX8_init 39 = .ok (.newarray .int, 2) := by decide +kernel
theorem dX8_init_41 : decode cX8_init 41 = .ok (.putfield 24, 3) := by decide +kernel
theorem dX8_init_44 : decode cX8_init 44 = .ok (.return_, 1) := by decide +kernel
theorem dX8_has_0 : decode cX8_has 0 = .ok (.iload_n 1, 1) := by decide +kernel
theorem dX8_has_1 : decode cX8_has 1 = .ok (.ifCond .lt 15, 3) := by decide +kernel
theorem dX8_has_4 : decode cX8_has 4 = .ok (.iload_n 1, 1) := by decide +kernel
theorem dX8_has_5 : decode cX8_has 5 = .ok (.aload_n 0, 1) := by decide +kernel
theorem dX8_has_6 : decode cX8_has 6 = .ok (.getfield 27, 3) := by decide +kernel
theorem dX8_has_9 : decode cX8_has 9 = .ok (.if_icmp .ge 7, 3) := by decide +kernel
theorem dX8_has_12 : decode cX8_has 12 = .ok (.iconst 1, 1) := by decide +kernel
theorem dX8_has_13 : decode cX8_has 13 = .ok (.goto 4, 3) := by decide +kernel
theorem dX8_has_16 : decode cX8_has 16 = .ok (.iconst 0, 1) := by decide +kernel
theorem dX8_has_17 : decode cX8_has 17 = .ok (.ireturn, 1) := by decide +kernel
theorem dX8_add_0 : decode cX8_add 0 = .ok (.aload_n 0, 1) := by decide +kernel
theorem dX8_add_1 : decode cX8_add 1 = .ok (.getfield 27, 3) := by decide +kernel
theorem dX8_add_4 : decode cX8_add 4 = .ok (.bipush 6, 2) := by decide +kernel
theorem dX8_add_6 : decode cX8_add 6 = .ok (.if_icmp .lt 4, 3) := by decide +kernel
theorem dX8_add_9 : decode cX8_add 9 = .ok (.return_, 1) := by decide +kernel
theorem dX8_add_10 : decode cX8_add 10 = .ok (.aload_n 0, 1) := by decide +kernel
theorem dX8_add_11 : decode cX8_add 11 = .ok (.getfield 9, 3) := by decide +kernel
theorem dX8_add_14 : decode cX8_add 14 = .ok (.aload_n 0, 1) := by decide +kernel
theorem dX8_add_15 : decode cX8_add 15 = .ok (.getfield 27, 3) := by decide +kernel
theorem dX8_add_18 : decode cX8_add 18 = .ok (.iload_n 1, 1) := by decide +kernel
theorem dX8_add_19 : decode cX8_add 19 = .ok (.iastore, 1) := by decide +kernel
theorem dX8_add_20 : decode cX8_add 20 = .ok (.aload_n 0, 1) := by decide +kernel
theorem dX8_add_21 : decode cX8_add 21 = .ok (.getfield 15, 3) := by decide +kernel
theorem dX8_add_24 : decode cX8_add 24 = .ok (.aload_n 0, 1) := by decide +kernel
theorem dX8_add_25 : decode cX8_add 25 = .ok (.getfield 27, 3) := by decide +kernel
theorem dX8_add_28 : decode cX8_add 28 = .ok (.iload_n 2, 1) := by decide +kernel
theorem dX8_add_29 : decode cX8_add 29 = .ok (.iastore, 1) := by decide +kernel
theorem dX8_add_30 : decode cX8_add 30 = .ok (.aload_n 0, 1) := by decide +kernel
theorem dX8_add_31 : decode cX8_add 31 = .ok (.getfield 18, 3) := by decide +kernel
theorem dX8_add_34 : decode cX8_add 34 = .ok (.aload_n 0, 1) := by decide +kernel
theorem dX8_add_35 : decode cX8_add 35 = .ok (.getfield 27, 3) := by decide +kernel
theorem dX8_add_38 : decode cX8_add 38 = .ok (.iload_n 3, 1) := by decide +kernel
theorem dX8_add_39 : decode cX8_add 39 = .ok (.iastore, 1) := by decide +kernel
theorem dX8_add_40 : decode cX8_add 40 = .ok (.aload_n 0, 1) := by decide +kernel
theorem dX8_add_41 : decode cX8_add 41 = .ok (.getfield 21, 3) := by decide +kernel
theorem dX8_add_44 : decode cX8_add 44 = .ok (.aload_n 0, 1) := by decide +kernel
theorem dX8_add_45 : decode cX8_add 45 = .ok (.getfield 27, 3) := by decide +kernel
theorem dX8_add_48 : decode cX8_add 48 = .ok (.iconst 0, 1) := by decide +kernel
theorem dX8_add_49 : decode cX8_add 49 = .ok (.iastore, 1) := by decide +kernel
theorem dX8_add_50 : decode cX8_add 50 = .ok (.aload_n 0, 1) := by decide +kernel
theorem dX8_add_51 : decode cX8_add 51 = .ok (.getfield 24, 3) := by decide +kernel
theorem dX8_add_54 : decode cX8_add 54 = .ok (.aload_n 0, 1) := by decide +kernel
theorem dX8_add_55 : decode cX8_add 55 = .ok (.getfield 27, 3) := by decide +kernel
theorem dX8_add_58 : decode cX8_add 58 = .ok (.iconst 0, 1) := by decide +kernel
theorem dX8_add_59 : decode cX8_add 59 = .ok (.iastore, 1) := by decide +kernel
theorem dX8_add_60 : decode cX8_add 60 = .ok (.aload_n 0, 1) := by decide +kernel
theorem dX8_add_61 : decode cX8_add 61 = .ok (.dup, 1) := by decide +kernel
theorem dX8_add_62 : decode cX8_add 62 = .ok (.getfield 27, 3) := by decide +kernel
theorem dX8_add_65 : decode cX8_add 65 = .ok (.iconst 1, 1) := by decide +kernel
theorem dX8_add_66 : decode cX8_add 66 = .ok (.iadd, 1) := by decide +kernel
theorem dX8_add_67 : decode cX8_add 67 = .ok (.putfield 27, 3) := by decide +kernel
theorem dX8_add_70 : decode cX8_add 70 = .ok (.return_, 1) := by decide +kernel
set_option maxRecDepth 20000 in
theorem ggX8_delete_X8_has : GoodIn wsX8_delete wsX8_has := goodIn_r _ [11, 1, 12, 13, 14, 15, 16, 17] (by decide +kernel) (by decide +kernel)
set_option maxRecDepth 20000 in
theorem gX8_delete_X8_has : GoodIn wsX8_delete (wsV RX8 31 RX8 yX8_has wsX8_has) := goodIn_app (goodIn_of _ (by decide +kernel)) ggX8_delete_X8_has
theorem dX8_delete_0 : decode cX8_delete 0 = .ok (.aload_n 0, 1) := by decide +kernel
theorem dX8_delete_1 : decode cX8_delete 1 = .ok (.iload_n 1, 1) := by decide +kernel
theorem dX8_delete_2 : decode cX8_delete 2 = .ok (.invokevirtual 31, 3) := by decide +kernel
theorem dX8_delete_5 : decode cX8_delete 5 = .ok (.ifCond .ne 4, 3) := by decide +kernel
theorem dX8_delete_8 : decode cX8_delete 8 = .ok (.return_, 1) := by decide +kernel
theorem dX8_delete_9 : decode cX8_delete 9 = .ok (.iload_n 1, 1) := by decide +kernel
theorem dX8_delete_10 : decode cX8_delete 10 = .ok (.iconst 1, 1) := by decide +kernel
theorem dX8_delete_11 : decode cX8_delete 11 = .ok (.iadd, 1) := by decide +kernel
theorem dX8_delete_12 : decode cX8_delete 12 = .ok (.istore_n 2, 1) := by decide +kernel
theorem dX8_delete_13 : decode cX8_delete 13 = .ok (.iload_n 2, 1) := by decide +kernel
theorem dX8_delete_14 : decode cX8_delete 14 = .ok (.aload_n 0, 1) := by decide +kernel
theorem dX8_delete_15 : decode cX8_delete 15 = .ok (.getfield 27, 3) := by decide +kernel
theorem dX8_delete_18 : decode cX8_delete 18 = .ok (.if_icmp .ge 79, 3) := by decide +kernel
theorem dX8_delete_21 : decode cX8_delete 21 = .ok (.aload_n 0, 1) := by decide +kernel
theorem dX8_delete_22 : decode cX8_delete 22 = .ok (.getfield 9, 3) := by decide +kernel
theorem dX8_delete_25 : decode cX8_delete 25 = .ok (.iload_n 2, 1) := by decide +kernel
theorem dX8_delete_26 : decode cX8_delete 26 = .ok (.iconst 1, 1) := by decide +kernel
theorem dX8_delete_27 : decode cX8_delete 27 = .ok (.isub, 1) := by decide +kernel
theorem dX8_delete_28 : decode cX8_delete 28 = .ok (.aload_n 0, 1) := by decide +kernel
theorem dX8_delete_29 : decode cX8_delete 29 = .ok (.getfield 9, 3) := by decide +kernel
theorem dX8_delete_32 : decode cX8_delete 32 = .ok (.iload_n 2, 1) := by decide +kernel
theorem dX8_delete_33 : decode cX8_delete 33 = .ok (.iaload, 1) := by decide +kernel
theorem dX8_delete_34 : decode cX8_delete 34 = .ok (.iastore, 1) := by decide +kernel
theorem dX8_delete_35 : decode cX8_delete 35 = .ok (.aload_n 0, 1) := by decide +kernel
theorem dX8_delete_36 : decode cX8_delete 36 = .ok (.getfield 15, 3) := by decide +kernel
theorem dX8_delete_39 : decode cX8_delete 39 = .ok (.iload_n 2, 1) := by decide +kernel
theorem dX8_delete_40 : decode cX8_delete 40 = .ok (.iconst 1, 1) := by decide +kernel
theorem dX8_delete_41 : decode cX8_delete 41 = .ok (.isub, 1) := by decide +kernel
theorem dX8_delete_42 : decode cX8_delete 42 = .ok (.aload_n 0, 1) := by decide +kernel
theorem dX8_delete_43 : decode cX8_delete 43 = .ok (.getfield 15, 3) := by decide +kernel
theorem dX8_delete_46 : decode cX8_delete 46 = .ok (.iload_n 2, 1) := by decide +kernel
theorem dX8_delete_47 : decode cX8_delete 47 = .ok (.iaload, 1) := by decide +kernel
theorem dX8_delete_48 : decode cX8_delete 48 = .ok (.iastore, 1) := by decide +kernel
theorem dX8_delete_49 : decode cX8_delete 49 = .ok (.aload_n 0, 1) := by decide +kernel
theorem dX8_delete_50 : decode cX8_delete 50 = .ok (.getfield 18, 3) := by decide +kernel
theorem dX8_delete_53 : decode cX8_delete 53 = .ok (.iload_n 2, 1) := by decide +kernel
theorem dX8_delete_54 : decode cX8_delete 54 = .ok (.iconst 1, 1) := by decide +kernel
theorem dX8_delete_55 : decode cX8_delete 55 = .ok (.isub, 1) := by decide +kernel
theorem dX8_delete_56 : decode cX8_delete 56 = .ok (.aload_n 0, 1) := by decide +kernel
theorem dX8_delete_57 : decode cX8_delete 57 = .ok (.getfield 18, 3) := by decide +kernel
theorem dX8_delete_60 : decode cX8_delete 60 = .ok (.iload_n 2, 1) := by decide +kernel
theorem dX8_delete_61 : decode cX8_delete 61 = .ok (.iaload, 1) := by decide +kernel
theorem dX8_delete_62 : decode cX8_delete 62 = .ok (.iastore, 1) := by decide +kernel
theorem dX8_delete_63 : decode cX8_delete 63 = .ok (.aload_n 0, 1) := by decide +kernel
theorem dX8_delete_64 : decode cX8_delete 64 = .ok (.getfield 21, 3) := by decide +kernel
theorem dX8_delete_67 : decode cX8_delete 67 = .ok (.iload_n 2, 1) := by decide +kernel
theorem dX8_delete_68 : decode cX8_delete 68 = .ok (.iconst 1, 1) := by decide +kernel
theorem dX8_delete_69 : decode cX8_delete 69 = .ok (.isub, 1) := by decide +kernel
theorem dX8_delete_70 : decode cX8_delete 70 = .ok (.aload_n 0, 1) := by decide +kernel
theorem dX8_delete_71 : decode cX8_delete 71 = .ok (.getfield 21, 3) := by decide +kernel
theorem dX8_delete_74 : decode cX8_delete 74 = .ok (.iload_n 2, 1) := by decide +kernel
theorem dX8_delete_75 : decode cX8_delete 75 = .ok (.iaload, 1) := by decide +kernel
theorem dX8_delete_76 : decode cX8_delete 76 = .ok (.iastore, 1) := by decide +kernel
theorem dX8_delete_77 : decode cX8_delete 77 = .ok (.aload_n 0, 1) := by decide +kernel
theorem dX8_delete_78 : decode cX8_delete 78 = .ok (.getfield 24, 3) := by decide +kernel
theorem dX8_delete_81 : decode cX8_delete 81 = .ok (.iload_n 2, 1) := by decide +kernel
theorem dX8_delete_82 : decode cX8_delete 82 = .ok (.iconst 1, 1) := by decide +kernel
theorem dX8_delete_83 : decode cX8_delete 83 = .ok (.isub, 1) := by decide +kernel
theorem dX8_delete_84 : decode cX8_delete 84 = .ok (.aload_n 0, 1) := by decide +kernel
theorem dX8_delete_85 : decode cX8_delete 85 = .ok (.getfield 24, 3) := by decide +kernel
theorem dX8_delete_88 : decode cX8_delete 88 = .ok (.iload_n 2, 1) := by decide +kernel
theorem dX8_delete_89 : decode cX8_delete 89 = .ok (.iaload, 1) := by decide +kernel
theorem dX8_delete_90 : decode cX8_delete 90 = .ok (.iastore, 1) := by decide +kernel
theorem dX8_delete_91 : decode cX8_delete 91 = .ok (.iinc 2 1, 3) := by decide +kernel
theorem dX8_delete_94 : decode cX8_delete 94 = .ok (.goto (-81), 3) := by decide +kernel
theorem dX8_delete_97 : decode cX8_delete 97 = .ok (.aload_n 0, 1) := by decide +kernel
theorem dX8_delete_98 : decode cX8_delete 98 = .ok (.dup, 1) := by decide +kernel
theorem dX8_delete_99 : decode cX8_delete 99 = .ok (.getfield 27, 3) := by decide +kernel
theorem dX8_delete_102 : decode cX8_delete 102 = .ok (.iconst 1, 1) := by decide +kernel
theorem dX8_delete_103 : decode cX8_delete 103 = .ok (.isub, 1) := by decide +kernel
theorem dX8_delete_104 : decode cX8_delete 104 = .ok (.putfield 27, 3) := by decide +kernel
theorem dX8_delete_107 : decode cX8_delete 107 = .ok (.return_, 1) := by decide +kernel
theorem dX8_totalMoney_0 : decode cX8_totalMoney 0 = .ok (.lconst 0, 1) := by decide +kernel
theorem dX8_totalMoney_1 : decode cX8_totalMoney 1 = .ok (.lstore_n 1, 1) := by decide +kernel
theorem dX8_totalMoney_2 : decode cX8_totalMoney 2 = .ok (.iconst 0, 1) := by decide +kernel
theorem dX8_totalMoney_3 : decode cX8_totalMoney 3 = .ok (.istore_n 3, 1) := by decide +kernel
theorem dX8_totalMoney_4 : decode cX8_totalMoney 4 = .ok (.iload_n 3, 1) := by decide +kernel
theorem dX8_totalMoney_5 : decode cX8_totalMoney 5 = .ok (.aload_n 0, 1) := by decide +kernel
theorem dX8_totalMoney_6 : decode cX8_totalMoney 6 = .ok (.getfield 27, 3) := by decide +kernel
theorem dX8_totalMoney_9 : decode cX8_totalMoney 9 = .ok (.if_icmp .ge 19, 3) := by decide +kernel
theorem dX8_totalMoney_12 : decode cX8_totalMoney 12 = .ok (.lload_n 1, 1) := by decide +kernel
theorem dX8_totalMoney_13 : decode cX8_totalMoney 13 = .ok (.aload_n 0, 1) := by decide +kernel
theorem dX8_totalMoney_14 : decode cX8_totalMoney 14 = .ok (.getfield 18, 3) := by decide +kernel
theorem dX8_totalMoney_17 : decode cX8_totalMoney 17 = .ok (.iload_n 3, 1) := by decide +kernel
theorem dX8_totalMoney_18 : decode cX8_totalMoney 18 = .ok (.iaload, 1) := by decide +kernel
theorem dX8_totalMoney_19 : decode cX8_totalMoney 19 = .ok (.i2l, 1) := by decide +kernel
theorem dX8_totalMoney_20 : decode cX8_totalMoney 20 = .ok (.ladd, 1) := by decide +kernel
theorem dX8_totalMoney_21 : decode cX8_totalMoney 21 = .ok (.lstore_n 1, 1) := by decide +kernel
theorem dX8_totalMoney_22 : decode cX8_totalMoney 22 = .ok (.iinc 3 1, 3) := by decide +kernel
theorem dX8_totalMoney_25 : decode cX8_totalMoney 25 = .ok (.goto (-21), 3) := by decide +kernel
theorem dX8_totalMoney_28 : decode cX8_totalMoney 28 = .ok (.lload_n 1, 1) := by decide +kernel
theorem dX8_totalMoney_29 : decode cX8_totalMoney 29 = .ok (.lreturn, 1) := by decide +kernel
theorem dX8_totalLitNights_0 : decode cX8_totalLitNights 0 = .ok (.iconst 0, 1) := by decide +kernel
theorem dX8_totalLitNights_1 : decode cX8_totalLitNights 1 = .ok (.istore_n 1, 1) := by decide +kernel
theorem dX8_totalLitNights_2 : decode cX8_totalLitNights 2 = .ok (.iconst 0, 1) := by decide +kernel
theorem dX8_totalLitNights_3 : decode cX8_totalLitNights 3 = .ok (.istore_n 2, 1) := by decide +kernel
theorem dX8_totalLitNights_4 : decode cX8_totalLitNights 4 = .ok (.iload_n 2, 1) := by decide +kernel
theorem dX8_totalLitNights_5 : decode cX8_totalLitNights 5 = .ok (.aload_n 0, 1) := by decide +kernel
theorem dX8_totalLitNights_6 : decode cX8_totalLitNights 6 = .ok (.getfield 27, 3) := by decide +kernel
theorem dX8_totalLitNights_9 : decode cX8_totalLitNights 9 = .ok (.if_icmp .ge 18, 3) := by decide +kernel
theorem dX8_totalLitNights_12 : decode cX8_totalLitNights 12 = .ok (.iload_n 1, 1) := by decide +kernel
theorem dX8_totalLitNights_13 : decode cX8_totalLitNights 13 = .ok (.aload_n 0, 1) := by decide +kernel
theorem dX8_totalLitNights_14 : decode cX8_totalLitNights 14 = .ok (.getfield 21, 3) := by decide +kernel
theorem dX8_totalLitNights_17 : decode cX8_totalLitNights 17 = .ok (.iload_n 2, 1) := by decide +kernel
theorem dX8_totalLitNights_18 : decode cX8_totalLitNights 18 = .ok (.iaload, 1) := by decide +kernel
theorem dX8_totalLitNights_19 : decode cX8_totalLitNights 19 = .ok (.iadd, 1) := by decide +kernel
theorem dX8_totalLitNights_20 : decode cX8_totalLitNights 20 = .ok (.istore_n 1, 1) := by decide +kernel
theorem dX8_totalLitNights_21 : decode cX8_totalLitNights 21 = .ok (.iinc 2 1, 3) := by decide +kernel
theorem dX8_totalLitNights_24 : decode cX8_totalLitNights 24 = .ok (.goto (-20), 3) := by decide +kernel
theorem dX8_totalLitNights_27 : decode cX8_totalLitNights 27 = .ok (.iload_n 1, 1) := by decide +kernel
theorem dX8_totalLitNights_28 : decode cX8_totalLitNights 28 = .ok (.ireturn, 1) := by decide +kernel
theorem dX8_totalDarkNights_0 : decode cX8_totalDarkNights 0 = .ok (.iconst 0, 1) := by decide +kernel
theorem dX8_totalDarkNights_1 : decode cX8_totalDarkNights 1 = .ok (.istore_n 1, 1) := by decide +kernel
theorem dX8_totalDarkNights_2 : decode cX8_totalDarkNights 2 = .ok (.iconst 0, 1) := by decide +kernel
theorem dX8_totalDarkNights_3 : decode cX8_totalDarkNights 3 = .ok (.istore_n 2, 1) := by decide +kernel
theorem dX8_totalDarkNights_4 : decode cX8_totalDarkNights 4 = .ok (.iload_n 2, 1) := by decide +kernel
theorem dX8_totalDarkNights_5 : decode cX8_totalDarkNights 5 = .ok (.aload_n 0, 1) := by decide +kernel
theorem dX8_totalDarkNights_6 : decode cX8_totalDarkNights 6 = .ok (.getfield 27, 3) := by decide +kernel
theorem dX8_totalDarkNights_9 : decode cX8_totalDarkNights 9 = .ok (.if_icmp .ge 18, 3) := by decide +kernel
theorem dX8_totalDarkNights_12 : decode cX8_totalDarkNights 12 = .ok (.iload_n 1, 1) := by decide +kernel
theorem dX8_totalDarkNights_13 : decode cX8_totalDarkNights 13 = .ok (.aload_n 0, 1) := by decide +kernel
theorem dX8_totalDarkNights_14 : decode cX8_totalDarkNights 14 = .ok (.getfield 24, 3) := by decide +kernel
theorem dX8_totalDarkNights_17 : decode cX8_totalDarkNights 17 = .ok (.iload_n 2, 1) := by decide +kernel
theorem dX8_totalDarkNights_18 : decode cX8_totalDarkNights 18 = .ok (.iaload, 1) := by decide +kernel
theorem dX8_totalDarkNights_19 : decode cX8_totalDarkNights 19 = .ok (.iadd, 1) := by decide +kernel
theorem dX8_totalDarkNights_20 : decode cX8_totalDarkNights 20 = .ok (.istore_n 1, 1) := by decide +kernel
theorem dX8_totalDarkNights_21 : decode cX8_totalDarkNights 21 = .ok (.iinc 2 1, 3) := by decide +kernel
theorem dX8_totalDarkNights_24 : decode cX8_totalDarkNights 24 = .ok (.goto (-20), 3) := by decide +kernel
theorem dX8_totalDarkNights_27 : decode cX8_totalDarkNights 27 = .ok (.iload_n 1, 1) := by decide +kernel
theorem dX8_totalDarkNights_28 : decode cX8_totalDarkNights 28 = .ok (.ireturn, 1) := by decide +kernel
set_option maxRecDepth 20000 in
theorem ggX8_atDarkRank_X8_darkRank : GoodIn wsX8_atDarkRank wsX8_darkRank := goodIn_ca (goodIn_r _ [6, 1, 7, 8, 9, 10, 11, 12, 13] (by decide +kernel) (by decide +kernel)) (goodIn_sub (fun _ h => List.mem_cons_of_mem _ (List.mem_append_right _ h)) (by decide +kernel))
set_option maxRecDepth 20000 in
theorem gX8_atDarkRank_X8_darkRank : GoodIn wsX8_atDarkRank (wsV RX8 35 RX8 yX8_darkRank wsX8_darkRank) := goodIn_app (goodIn_of _ (by decide +kernel)) ggX8_atDarkRank_X8_darkRank
theorem dX8_atDarkRank_0 : decode cX8_atDarkRank 0 = .ok (.iconst 0, 1) := by decide +kernel
theorem dX8_atDarkRank_1 : decode cX8_atDarkRank 1 = .ok (.istore_n 2, 1) := by decide +kernel
theorem dX8_atDarkRank_2 : decode cX8_atDarkRank 2 = .ok (.iload_n 2, 1) := by decide +kernel
theorem dX8_atDarkRank_3 : decode cX8_atDarkRank 3 = .ok (.aload_n 0, 1) := by decide +kernel
theorem dX8_atDarkRank_4 : decode cX8_atDarkRank 4 = .ok (.getfield 27, 3) := by decide +kernel
theorem dX8_atDarkRank_7 : decode cX8_atDarkRank 7 = .ok (.if_icmp .ge 20, 3) := by decide +kernel
theorem dX8_atDarkRank_10 : decode cX8_atDarkRank 10 = .ok (.aload_n 0, 1) := by decide +kernel
theorem dX8_atDarkRank_11 : decode cX8_atDarkRank 11 = .ok (.iload_n 2, 1) := by decide +kernel
theorem dX8_atDarkRank_12 : decode cX8_atDarkRank 12 = .ok (.invokevirtual 35, 3) := by decide +kernel
theorem dX8_atDarkRank_15 : decode cX8_atDarkRank 15 = .ok (.iload_n 1, 1) := by decide +kernel
theorem dX8_atDarkRank_16 : decode cX8_atDarkRank 16 = .ok (.if_icmp .ne 5, 3) := by decide +kernel
theorem dX8_atDarkRank_19 : decode cX8_atDarkRank 19 = .ok (.iload_n 2, 1) := by decide +kernel
theorem dX8_atDarkRank_20 : decode cX8_atDarkRank 20 = .ok (.ireturn, 1) := by decide +kernel
theorem dX8_atDarkRank_21 : decode cX8_atDarkRank 21 = .ok (.iinc 2 1, 3) := by decide +kernel
theorem dX8_atDarkRank_24 : decode cX8_atDarkRank 24 = .ok (.goto (-22), 3) := by decide +kernel
theorem dX8_atDarkRank_27 : decode cX8_atDarkRank 27 = .ok (.iconst (-1), 1) := by decide +kernel
theorem dX8_atDarkRank_28 : decode cX8_atDarkRank 28 = .ok (.ireturn, 1) := by decide +kernel
theorem dX8_copyFrom_0 : decode cX8_copyFrom 0 = .ok (.aload_n 0, 1) := by decide +kernel
theorem dX8_copyFrom_1 : decode cX8_copyFrom 1 = .ok (.aload_n 1, 1) := by decide +kernel
theorem dX8_copyFrom_2 : decode cX8_copyFrom 2 = .ok (.getfield 27, 3) := by decide +kernel
theorem dX8_copyFrom_5 : decode cX8_copyFrom 5 = .ok (.putfield 27, 3) := by decide +kernel
theorem dX8_copyFrom_8 : decode cX8_copyFrom 8 = .ok (.aload_n 1, 1) := by decide +kernel
theorem dX8_copyFrom_9 : decode cX8_copyFrom 9 = .ok (.getfield 9, 3) := by decide +kernel
theorem dX8_copyFrom_12 : decode cX8_copyFrom 12 = .ok (.iconst 0, 1) := by decide +kernel
theorem dX8_copyFrom_13 : decode cX8_copyFrom 13 = .ok (.aload_n 0, 1) := by decide +kernel
theorem dX8_copyFrom_14 : decode cX8_copyFrom 14 = .ok (.getfield 9, 3) := by decide +kernel
theorem dX8_copyFrom_17 : decode cX8_copyFrom 17 = .ok (.iconst 0, 1) := by decide +kernel
theorem dX8_copyFrom_18 : decode cX8_copyFrom 18 = .ok (.bipush 6, 2) := by decide +kernel
theorem dX8_copyFrom_20 : decode cX8_copyFrom 20 = .ok (.invokestatic 39, 3) := by decide +kernel
theorem dX8_copyFrom_23 : decode cX8_copyFrom 23 = .ok (.aload_n 1, 1) := by decide +kernel
theorem dX8_copyFrom_24 : decode cX8_copyFrom 24 = .ok (.getfield 15, 3) := by decide +kernel
theorem dX8_copyFrom_27 : decode cX8_copyFrom 27 = .ok (.iconst 0, 1) := by decide +kernel
theorem dX8_copyFrom_28 : decode cX8_copyFrom 28 = .ok (.aload_n 0, 1) := by decide +kernel
theorem dX8_copyFrom_29 : decode cX8_copyFrom 29 = .ok (.getfield 15, 3) := by decide +kernel
theorem dX8_copyFrom_32 : decode cX8_copyFrom 32 = .ok (.iconst 0, 1) := by decide +kernel
theorem dX8_copyFrom_33 : decode cX8_copyFrom 33 = .ok (.bipush 6, 2) := by decide +kernel
theorem dX8_copyFrom_35 : decode cX8_copyFrom 35 = .ok (.invokestatic 39, 3) := by decide +kernel
theorem dX8_copyFrom_38 : decode cX8_copyFrom 38 = .ok (.aload_n 1, 1) := by decide +kernel
theorem dX8_copyFrom_39 : decode cX8_copyFrom 39 = .ok (.getfield 18, 3) := by decide +kernel
theorem dX8_copyFrom_42 : decode cX8_copyFrom 42 = .ok (.iconst 0, 1) := by decide +kernel
theorem dX8_copyFrom_43 : decode cX8_copyFrom 43 = .ok (.aload_n 0, 1) := by decide +kernel
theorem dX8_copyFrom_44 : decode cX8_copyFrom 44 = .ok (.getfield 18, 3) := by decide +kernel
theorem dX8_copyFrom_47 : decode cX8_copyFrom 47 = .ok (.iconst 0, 1) := by decide +kernel
theorem dX8_copyFrom_48 : decode cX8_copyFrom 48 = .ok (.bipush 6, 2) := by decide +kernel
theorem dX8_copyFrom_50 : decode cX8_copyFrom 50 = .ok (.invokestatic 39, 3) := by decide +kernel
theorem dX8_copyFrom_53 : decode cX8_copyFrom 53 = .ok (.aload_n 1, 1) := by decide +kernel
theorem dX8_copyFrom_54 : decode cX8_copyFrom 54 = .ok (.getfield 21, 3) := by decide +kernel
theorem dX8_copyFrom_57 : decode cX8_copyFrom 57 = .ok (.iconst 0, 1) := by decide +kernel
theorem dX8_copyFrom_58 : decode cX8_copyFrom 58 = .ok (.aload_n 0, 1) := by decide +kernel
theorem dX8_copyFrom_59 : decode cX8_copyFrom 59 = .ok (.getfield 21, 3) := by decide +kernel
theorem dX8_copyFrom_62 : decode cX8_copyFrom 62 = .ok (.iconst 0, 1) := by decide +kernel
theorem dX8_copyFrom_63 : decode cX8_copyFrom 63 = .ok (.bipush 6, 2) := by decide +kernel
theorem dX8_copyFrom_65 : decode cX8_copyFrom 65 = .ok (.invokestatic 39, 3) := by decide +kernel
theorem dX8_copyFrom_68 : decode cX8_copyFrom 68 = .ok (.aload_n 1, 1) := by decide +kernel
theorem dX8_copyFrom_69 : decode cX8_copyFrom 69 = .ok (.getfield 24, 3) := by decide +kernel
theorem dX8_copyFrom_72 : decode cX8_copyFrom 72 = .ok (.iconst 0, 1) := by decide +kernel
theorem dX8_copyFrom_73 : decode cX8_copyFrom 73 = .ok (.aload_n 0, 1) := by decide +kernel
theorem dX8_copyFrom_74 : decode cX8_copyFrom 74 = .ok (.getfield 24, 3) := by decide +kernel
theorem dX8_copyFrom_77 : decode cX8_copyFrom 77 = .ok (.iconst 0, 1) := by decide +kernel
theorem dX8_copyFrom_78 : decode cX8_copyFrom 78 = .ok (.bipush 6, 2) := by decide +kernel
theorem dX8_copyFrom_80 : decode cX8_copyFrom 80 = .ok (.invokestatic 39, 3) := by decide +kernel
theorem dX8_copyFrom_83 : decode cX8_copyFrom 83 = .ok (.return_, 1) := by decide +kernel
theorem dX8_darkRank_0 : decode cX8_darkRank 0 = .ok (.iconst 0, 1) := by decide +kernel
theorem dX8_darkRank_1 : decode cX8_darkRank 1 = .ok (.istore_n 2, 1) := by decide +kernel
theorem dX8_darkRank_2 : decode cX8_darkRank 2 = .ok (.iconst 0, 1) := by decide +kernel
theorem dX8_darkRank_3 : decode cX8_darkRank 3 = .ok (.istore_n 3, 1) := by decide +kernel
theorem dX8_darkRank_4 : decode cX8_darkRank 4 = .ok (.iload_n 3, 1) := by decide +kernel
theorem dX8_darkRank_5 : decode cX8_darkRank 5 = .ok (.aload_n 0, 1) := by decide +kernel
theorem dX8_darkRank_6 : decode cX8_darkRank 6 = .ok (.getfield 27, 3) := by decide +kernel
theorem dX8_darkRank_9 : decode cX8_darkRank 9 = .ok (.if_icmp .ge 71, 3) := by decide +kernel
theorem dX8_darkRank_12 : decode cX8_darkRank 12 = .ok (.aload_n 0, 1) := by decide +kernel
theorem dX8_darkRank_13 : decode cX8_darkRank 13 = .ok (.getfield 24, 3) := by decide +kernel
theorem dX8_darkRank_16 : decode cX8_darkRank 16 = .ok (.iload_n 3, 1) := by decide +kernel
theorem dX8_darkRank_17 : decode cX8_darkRank 17 = .ok (.iaload, 1) := by decide +kernel
theorem dX8_darkRank_18 : decode cX8_darkRank 18 = .ok (.aload_n 0, 1) := by decide +kernel
theorem dX8_darkRank_19 : decode cX8_darkRank 19 = .ok (.getfield 24, 3) := by decide +kernel
theorem dX8_darkRank_22 : decode cX8_darkRank 22 = .ok (.iload_n 1, 1) := by decide +kernel
theorem dX8_darkRank_23 : decode cX8_darkRank 23 = .ok (.iaload, 1) := by decide +kernel
theorem dX8_darkRank_24 : decode cX8_darkRank 24 = .ok (.if_icmp .le 7, 3) := by decide +kernel
theorem dX8_darkRank_27 : decode cX8_darkRank 27 = .ok (.iconst 1, 1) := by decide +kernel
theorem dX8_darkRank_28 : decode cX8_darkRank 28 = .ok (.goto 4, 3) := by decide +kernel
theorem dX8_darkRank_31 : decode cX8_darkRank 31 = .ok (.iconst 0, 1) := by decide +kernel
theorem dX8_darkRank_32 : decode cX8_darkRank 32 = .ok (.istore 4, 2) := by decide +kernel
theorem dX8_darkRank_34 : decode cX8_darkRank 34 = .ok (.aload_n 0, 1) := by decide +kernel
theorem dX8_darkRank_35 : decode cX8_darkRank 35 = .ok (.getfield 24, 3) := by decide +kernel
theorem dX8_darkRank_38 : decode cX8_darkRank 38 = .ok (.iload_n 3, 1) := by decide +kernel
theorem dX8_darkRank_39 : decode cX8_darkRank 39 = .ok (.iaload, 1) := by decide +kernel
theorem dX8_darkRank_40 : decode cX8_darkRank 40 = .ok (.aload_n 0, 1) := by decide +kernel
theorem dX8_darkRank_41 : decode cX8_darkRank 41 = .ok (.getfield 24, 3) := by decide +kernel
theorem dX8_darkRank_44 : decode cX8_darkRank 44 = .ok (.iload_n 1, 1) := by decide +kernel
theorem dX8_darkRank_45 : decode cX8_darkRank 45 = .ok (.iaload, 1) := by decide +kernel
theorem dX8_darkRank_46 : decode cX8_darkRank 46 = .ok (.if_icmp .ne 12, 3) := by decide +kernel
theorem dX8_darkRank_49 : decode cX8_darkRank 49 = .ok (.iload_n 3, 1) := by decide +kernel
theorem dX8_darkRank_50 : decode cX8_darkRank 50 = .ok (.iload_n 1, 1) := by decide +kernel
theorem dX8_darkRank_51 : decode cX8_darkRank 51 = .ok (.if_icmp .ge 7, 3) := by decide +kernel
theorem dX8_darkRank_54 : decode cX8_darkRank 54 = .ok (.iconst 1, 1) := by decide +kernel
theorem dX8_darkRank_55 : decode cX8_darkRank 55 = .ok (.goto 4, 3) := by decide +kernel
theorem dX8_darkRank_58 : decode cX8_darkRank 58 = .ok (.iconst 0, 1) := by decide +kernel
theorem dX8_darkRank_59 : decode cX8_darkRank 59 = .ok (.istore 5, 2) := by decide +kernel
theorem dX8_darkRank_61 : decode cX8_darkRank 61 = .ok (.iload 4, 2) := by decide +kernel
theorem dX8_darkRank_63 : decode cX8_darkRank 63 = .ok (.ifCond .ne 8, 3) := by decide +kernel
theorem dX8_darkRank_66 : decode cX8_darkRank 66 = .ok (.iload 5, 2) := by decide +kernel
theorem dX8_darkRank_68 : decode cX8_darkRank 68 = .ok (.ifCond .eq 6, 3) := by decide +kernel
theorem dX8_darkRank_71 : decode cX8_darkRank 71 = .ok (.iinc 2 1, 3) := by decide +kernel
theorem dX8_darkRank_74 : decode cX8_darkRank 74 = .ok (.iinc 3 1, 3) := by decide +kernel
theorem dX8_darkRank_77 : decode cX8_darkRank 77 = .ok (.goto (-73), 3) := by decide +kernel
theorem dX8_darkRank_80 : decode cX8_darkRank 80 = .ok (.iload_n 2, 1) := by decide +kernel
theorem dX8_darkRank_81 : decode cX8_darkRank 81 = .ok (.ireturn, 1) := by decide +kernel
set_option maxRecDepth 20000 in
theorem ggX9_init_X1_init : GoodIn wsX9_init wsX1_init := goodIn_r _ [13, 14, 2, 3, 15, 16, 17, 18, 19, 20, 29, 30, 31, 32, 33, 34, 35] (by decide +kernel) (by decide +kernel)
set_option maxRecDepth 20000 in
theorem gX9_init_X1_init_n9 : GoodIn wsX9_init (wsX1_init) := ggX9_init_X1_init
set_option maxRecDepth 20000 in
theorem ggX9_init_X8_init : GoodIn wsX9_init wsX8_init := goodIn_r _ [22, 23, 2, 3, 15, 24, 25, 26, 27, 28, 44, 45, 46, 47, 48, 49] (by decide +kernel) (by decide +kernel)
set_option maxRecDepth 20000 in
theorem gX9_init_X8_init_n18 : GoodIn wsX9_init (wsX8_init) := ggX9_init_X8_init
theorem dX9_init_0 : decode cX9_init 0 = .ok (.aload_n 0, 1) := by decide +kernel
theorem dX9_init_1 : decode cX9_init 1 = .ok (.invokespecial 1, 3) := by decide +kernel
theorem dX9_init_4 : decode cX9_init 4 = .ok (.aload_n 0, 1) := by decide +kernel
theorem dX9_init_5 : decode cX9_init 5 = .ok (.new 7, 3) := by decide +kernel
theorem dX9_init_8 : decode cX9_init 8 = .ok (.dup, 1) := by decide +kernel
theorem dX9_init_9 : decode cX9_init 9 = .ok (.invokespecial 9, 3) := by decide +kernel
theorem dX9_init_12 : decode cX9_init 12 = .ok (.putfield 10, 3) := by decide +kernel
theorem dX9_init_15 : decode cX9_init 15 = .ok (.aload_n 0, 1) := by decide +kernel
theorem dX9_init_16 : decode cX9_init 16 = .ok (.new 16, 3) := by decide +kernel
theorem dX9_init_19 : decode cX9_init 19 = .ok (.dup, 1) := by decide +kernel
theorem dX9_init_20 : decode cX9_init 20 = .ok (.invokespecial 18, 3) := by decide +kernel
theorem dX9_init_23 : decode cX9_init 23 = .ok (.putfield 19, 3) := by decide +kernel
theorem dX9_init_26 : decode cX9_init 26 = .ok (.return_, 1) := by decide +kernel
set_option maxRecDepth 20000 in
theorem ggX9_copyFrom_X1_copyFrom : GoodIn wsX9_copyFrom wsX1_copyFrom := goodIn_r _ [13, 14, 15, 16, 17, 18, 19, 20, 21, 22, 23, 24, 45, 46, 47, 48, 49, 50, 51] (by decide +kernel) (by decide +kernel)
set_option maxRecDepth 20000 in
theorem gX9_copyFrom_X1_copyFrom : GoodIn wsX9_copyFrom (wsV RX9 23 RX1 yX1_copyFrom wsX1_copyFrom) := goodIn_app (goodIn_of _ (by decide +kernel)) ggX9_copyFrom_X1_copyFrom
set_option maxRecDepth 20000 in
theorem ggX9_copyFrom_X8_copyFrom : GoodIn wsX9_copyFrom wsX8_copyFrom := goodIn_r _ [29, 30, 31, 32, 18, 19, 20, 33, 34, 35, 36, 52, 53, 54, 55, 56, 57] (by decide +kernel) (by decide +kernel)
set_option maxRecDepth 20000 in
theorem gX9_copyFrom_X8_copyFrom : GoodIn wsX9_copyFrom (wsV RX9 27 RX8 yX8_copyFrom wsX8_copyFrom) := goodIn_app (goodIn_of _ (by decide +kernel)) ggX9_copyFrom_X8_copyFrom
theorem dX9_copyFrom_0 : decode cX9_copyFrom 0 = .ok (.aload_n 0, 1) := by decide +kernel
theorem dX9_copyFrom_1 : decode cX9_copyFrom 1 = .ok (.getfield 10, 3) := by decide +kernel
theorem dX9_copyFrom_4 : decode cX9_copyFrom 4 = .ok (.aload_n 1, 1) := by decide +kernel
theorem dX9_copyFrom_5 : decode cX9_copyFrom 5 = .ok (.getfield 10, 3) := by decide +kernel
theorem dX9_copyFrom_8 : decode cX9_copyFrom 8 = .ok (.invokevirtual 23, 3) := by decide +kernel
theorem dX9_copyFrom_11 : decode cX9_copyFrom 11 = .ok (.aload_n 0, 1) := by decide +kernel
theorem dX9_copyFrom_12 : decode cX9_copyFrom 12 = .ok (.getfield 19, 3) := by decide +kernel
theorem dX9_copyFrom_15 : decode cX9_copyFrom 15 = .ok (.aload_n 1, 1) := by decide +kernel
theorem dX9_copyFrom_16 : decode cX9_copyFrom 16 = .ok (.getfield 19, 3) := by decide +kernel
theorem dX9_copyFrom_19 : decode cX9_copyFrom 19 = .ok (.invokevirtual 27, 3) := by decide +kernel
theorem dX9_copyFrom_22 : decode cX9_copyFrom 22 = .ok (.aload_n 0, 1) := by decide +kernel
theorem dX9_copyFrom_23 : decode cX9_copyFrom 23 = .ok (.aload_n 1, 1) := by decide +kernel
theorem dX9_copyFrom_24 : decode cX9_copyFrom 24 = .ok (.getfield 30, 3) := by decide +kernel
theorem dX9_copyFrom_27 : decode cX9_copyFrom 27 = .ok (.putfield 30, 3) := by decide +kernel
theorem dX9_copyFrom_30 : decode cX9_copyFrom 30 = .ok (.aload_n 0, 1) := by decide +kernel
theorem dX9_copyFrom_31 : decode cX9_copyFrom 31 = .ok (.aload_n 1, 1) := by decide +kernel
theorem dX9_copyFrom_32 : decode cX9_copyFrom 32 = .ok (.getfield 34, 3) := by decide +kernel
theorem dX9_copyFrom_35 : decode cX9_copyFrom 35 = .ok (.putfield 34, 3) := by decide +kernel
theorem dX9_copyFrom_38 : decode cX9_copyFrom 38 = .ok (.aload_n 0, 1) := by decide +kernel
theorem dX9_copyFrom_39 : decode cX9_copyFrom 39 = .ok (.aload_n 1, 1) := by decide +kernel
theorem dX9_copyFrom_40 : decode cX9_copyFrom 40 = .ok (.getfield 37, 3) := by decide +kernel
theorem dX9_copyFrom_43 : decode cX9_copyFrom 43 = .ok (.putfield 37, 3) := by decide +kernel
theorem dX9_copyFrom_46 : decode cX9_copyFrom 46 = .ok (.aload_n 0, 1) := by decide +kernel
theorem dX9_copyFrom_47 : decode cX9_copyFrom 47 = .ok (.aload_n 1, 1) := by decide +kernel
theorem dX9_copyFrom_48 : decode cX9_copyFrom 48 = .ok (.getfield 40, 3) := by decide +kernel
theorem dX9_copyFrom_51 : decode cX9_copyFrom 51 = .ok (.putfield 40, 3) := by decide +kernel
theorem dX9_copyFrom_54 : decode cX9_copyFrom 54 = .ok (.aload_n 0, 1) := by decide +kernel
theorem dX9_copyFrom_55 : decode cX9_copyFrom 55 = .ok (.aload_n 1, 1) := by decide +kernel
theorem dX9_copyFrom_56 : decode cX9_copyFrom 56 = .ok (.getfield 44, 3) := by decide +kernel
theorem dX9_copyFrom_59 : decode cX9_copyFrom 59 = .ok (.putfield 44, 3) := by decide +kernel
theorem dX9_copyFrom_62 : decode cX9_copyFrom 62 = .ok (.aload_n 0, 1) := by decide +kernel
theorem dX9_copyFrom_63 : decode cX9_copyFrom 63 = .ok (.aload_n 1, 1) := by decide +kernel
theorem dX9_copyFrom_64 : decode cX9_copyFrom 64 = .ok (.getfield 47, 3) := by decide +kernel
theorem dX9_copyFrom_67 : decode cX9_copyFrom 67 = .ok (.putfield 47, 3) := by decide +kernel
theorem dX9_copyFrom_70 : decode cX9_copyFrom 70 = .ok (.return_, 1) := by decide +kernel
set_option maxRecDepth 20000 in
theorem ggX10_init_X4_init : GoodIn wsX10_init wsX4_init := goodIn_r _ [28, 29, 2, 3, 30, 17, 18, 31, 32, 33, 34, 35, 36, 37, 38, 39, 40, 41, 42, 43, 44, 45, 46, 47, 48, 49, 50, 51, 52, 53, 54, 55, 56, 57, 58, 59, 60, 61, 62, 63, 64, 65, 66, 67, 68, 69, 70, 71, 72, 73, 74, 75, 76, 77, 78, 79, 80, 81, 136, 137, 138, 139, 140, 141, 142, 143, 116, 117, 118, 148, 149, 150, 151, 152, 153, 154, 155, 156, 157, 158, 159, 160, 161, 162, 163, 164, 165, 166, 167, 168] (by decide +kernel) (by decide +kernel)
set_option maxRecDepth 20000 in
theorem gX10_init_X4_init_n9 : GoodIn wsX10_init (wsX4_init) := ggX10_init_X4_init
set_option maxRecDepth 20000 in
theorem ggX10_init_X6_init : GoodIn wsX10_init wsX6_init := goodIn_r _ [83, 84, 2, 3, 85, 86, 54, 87, 88, 89, 128, 129, 130, 131, 132] (by decide +kernel) (by decide +kernel)
set_option maxRecDepth 20000 in
theorem gX10_init_X6_init_n18 : GoodIn wsX10_init (wsX6_init) := ggX10_init_X6_init
set_option maxRecDepth 20000 in
theorem ggX10_init_X3_init : GoodIn wsX10_init wsX3_init := goodIn_r _ [92, 93, 2, 3, 94, 95, 17, 18, 40, 41, 42, 43, 44, 45, 46, 47, 48, 49, 50, 51, 52, 53, 54, 55, 56, 57, 58, 59, 60, 61, 62, 63, 64, 65, 66, 67, 133, 134, 135, 136, 137, 138, 139, 140, 141, 142, 143, 156, 157, 158, 159, 160, 161, 162, 163, 164, 165, 166, 167, 168] (by decide +kernel) (by decide +kernel)
set_option maxRecDepth 20000 in
theorem gX10_init_X3_init : GoodIn wsX10_init (wsX3_init) := ggX10_init_X3_init
set_option maxRecDepth 20000 in
theorem ggX10_init_X9_init : GoodIn wsX10_init wsX9_init := goodIn_r _ [41, 42, 2, 3, 43, 44, 45, 46, 47, 48, 49, 50, 51, 52, 53, 54, 55, 56, 57, 58, 59, 60, 61, 62, 63, 64, 65, 66, 67, 156, 157, 158, 159, 160, 161, 162, 136, 137, 138, 139, 140, 141, 142, 143, 163, 164, 165, 166, 167, 168] (by decide +kernel) (by decide +kernel)
set_option maxRecDepth 20000 in
theorem gX10_init_X9_init_n32 : GoodIn wsX10_init (wsX9_init) := ggX10_init_X9_init
set_option maxRecDepth 20000 in
theorem ggX10_init_J4_init_da8c8 : GoodIn wsX10_init wsJ4_init_da8c8 := goodIn_r _ [98, 99, 100, 101, 102, 103, 2, 3, 104, 105, 106, 107, 108, 109, 110, 111, 112, 113, 114, 115, 144, 145, 146, 147] (by decide +kernel) (by decide +kernel)
set_option maxRecDepth 20000 in
theorem gX10_init_J4_init_da8c8 : GoodIn wsX10_init (wsJ4_init_da8c8) := ggX10_init_J4_init_da8c8
theorem dX10_init_0 : decode cX10_init 0 = .ok (.aload_n 0, 1) := by decide +kernel
theorem dX10_init_1 : decode cX10_init 1 = .ok (.invokespecial 1, 3) := by decide +kernel
theorem dX10_init_4 : decode cX10_init 4 = .ok (.aload_n 0, 1) := by decide +kernel
theorem dX10_init_5 : decode cX10_init 5 = .ok (.new 7, 3) := by decide +kernel
theorem dX10_init_8 : decode cX10_init 8 = .ok (.dup, 1) := by decide +kernel
theorem dX10_init_9 : decode cX10_init 9 = .ok (.invokespecial 9, 3) := by decide +kernel
theorem dX10_init_12 : decode cX10_init 12 = .ok (.putfield 10, 3) := by decide +kernel
theorem dX10_init_15 : decode cX10_init 15 = .ok (.aload_n 0, 1) := by decide +kernel
theorem dX10_init_16 : decode cX10_init 16 = .ok (.new 16, 3) := by decide +kernel
theorem dX10_init_19 : decode cX10_init 19 = .ok (.dup, 1) := by decide +kernel
theorem dX10_init_20 : decode cX10_init 20 = .ok (.invokespecial 18, 3) := by decide +kernel
theorem dX10_init_23 : decode cX10_init 23 = .ok (.putfield 19, 3) := by decide +kernel
theorem dX10_init_26 : decode cX10_init 26 = .ok (.aload_n 0, 1) := by decide +kernel
theorem dX10_init_27 : decode cX10_init 27 = .ok (.new 23, 3) := by decide +kernel
theorem dX10_init_30 : decode cX10_init 30 = .ok (.dup, 1) := by decide +kernel
theorem dX10_init_31 : decode cX10_init 31 = .ok (.invokespecial 25, 3) := by decide +kernel
theorem dX10_init_34 : decode cX10_init 34 = .ok (.putfield 26, 3) := by decide +kernel
theorem dX10_init_37 : decode cX10_init 37 = .ok (.aload_n 0, 1) := by decide +kernel
theorem dX10_init_38 : decode cX10_init 38 = .ok (.new 30, 3) := by decide +kernel
theorem dX10_init_41 : decode cX10_init 41 = .ok (.dup, 1) := by decide +kernel
theorem dX10_init_42 : decode cX10_init 42 = .ok (.invokespecial 32, 3) := by decide +kernel
theorem dX10_init_45 : decode cX10_init 45 = .ok (.putfield 33, 3) := by decide +kernel
theorem dX10_init_48 : decode cX10_init 48 = .ok (.aload_n 0, 1) := by decide +kernel
theorem dX10_init_49 : decode cX10_init 49 = .ok (.new 30, 3) := by decide +kernel
theorem dX10_init_52 : decode cX10_init 52 = .ok (.dup, 1) := by decide +kernel
theorem dX10_init_53 : decode cX10_init 53 = .ok (.invokespecial 32, 3) := by decide +kernel
theorem dX10_init_56 : decode cX10_init 56 = .ok (.putfield 37, 3) := by decide +kernel
theorem dX10_init_59 : decode cX10_init 59 = .ok (.aload_n 0, 1) := by decide +kernel
theorem dX10_init_60 : decode cX10_init 60 = .ok (.new 40, 3) := by decide +kernel
theorem dX10_init_63 : decode cX10_init 63 = .ok (.dup, 1) := by decide +kernel
theorem dX10_init_64 : decode cX10_init 64 = .ok (.invokespecial 42, 3) := by decide +kernel
theorem dX10_init_67 : decode cX10_init 67 = .ok (.putfield 43, 3) := by decide +kernel
theorem dX10_init_70 : decode cX10_init 70 = .ok (.aload_n 0, 1) := by decide +kernel
theorem dX10_init_71 : decode cX10_init 71 = .ok (.iconst (-1), 1) := by decide +kernel
theorem dX10_init_72 : decode cX10_init 72 = .ok (.putfield 47, 3) := by decide +kernel
theorem dX10_init_75 : decode cX10_init 75 = .ok (.aload_n 0, 1) := by decide +kernel
theorem dX10_init_76 : decode cX10_init 76 = .ok (.iconst (-1), 1) := by decide +kernel
theorem dX10_init_77 : decode cX10_init 77 = .ok (.putfield 51, 3) := by decide +kernel
theorem dX10_init_80 : decode cX10_init 80 = .ok (.return_, 1) := by decide +kernel
set_option maxRecDepth 20000 in
theorem ggX10_addPort_X4_portFault : GoodIn wsX10_addPort wsX4_portFault := goodIn_r _ [8, 9, 10, 11, 92, 93, 94, 95, 96, 97, 98, 99, 100, 101, 102, 103, 104, 105, 106, 107, 108, 109] (by decide +kernel) (by decide +kernel)
set_option maxRecDepth 20000 in
theorem gX10_addPort_X4_portFault : GoodIn wsX10_addPort (wsV RX10 54 RX4 yX4_portFault wsX4_portFault) := goodIn_app (goodIn_of _ (by decide +kernel)) ggX10_addPort_X4_portFault
set_option maxRecDepth 20000 in
theorem ggX10_addPort_X10_refuse : GoodIn wsX10_addPort wsX10_refuse := goodIn_ca (goodIn_ca (goodIn_ca (goodIn_ca (goodIn_ca (goodIn_r _ [15, 16, 17, 18, 19, 20, 21, 22, 23, 24, 25] (by decide +kernel) (by decide +kernel)) (goodIn_sub (fun _ h => List.mem_cons_of_mem _ (List.mem_append_left _ (List.mem_append_left _ (List.mem_append_left _ (List.mem_append_left _ (List.mem_append_right _ h)))))) (by decide +kernel))) (goodIn_sub (fun _ h => List.mem_cons_of_mem _ (List.mem_append_left _ (List.mem_append_left _ (List.mem_append_left _ (List.mem_append_right _ h))))) (by decide +kernel))) (goodIn_sub (fun _ h => List.mem_cons_of_mem _ (List.mem_append_left _ (List.mem_append_left _ (List.mem_append_right _ h)))) (by decide +kernel))) (goodIn_sub (fun _ h => List.mem_cons_of_mem _ (List.mem_append_left _ (List.mem_append_right _ h))) (by decide +kernel))) (goodIn_sub (fun _ h => List.mem_cons_of_mem _ (List.mem_append_right _ h)) (by decide +kernel))
set_option maxRecDepth 20000 in
theorem gX10_addPort_X10_refuse : GoodIn wsX10_addPort (va_wsS RX10 58 yX10_refuse wsX10_refuse) := goodIn_app (goodIn_of _ (by decide +kernel)) ggX10_addPort_X10_refuse
set_option maxRecDepth 20000 in
theorem ggX10_addPort_X3_keep : GoodIn wsX10_addPort wsX3_keep := goodIn_r _ [30, 31, 32, 33, 34, 35, 36, 37, 38, 39, 40, 41, 42, 43, 44, 45, 46, 47, 48, 49, 50, 51, 52, 53, 54, 55, 56, 57, 58, 59, 60, 61, 62, 63, 64, 65, 66, 67, 68, 69, 70, 71, 72, 73, 74, 75, 76, 77, 78, 110, 111, 112, 95, 96, 97, 98, 99, 100, 101, 102, 103, 104, 105, 106, 107, 108, 109, 113, 114, 115, 116, 117, 118] (by decide +kernel) (by decide +kernel)
set_option maxRecDepth 20000 in
theorem gX10_addPort_X3_keep : GoodIn wsX10_addPort (wsV RX10 65 RX3 yX3_keep wsX3_keep) := goodIn_app (goodIn_of _ (by decide +kernel)) ggX10_addPort_X3_keep
set_option maxRecDepth 20000 in
theorem ggX10_addPort_X4_putPort : GoodIn wsX10_addPort wsX4_putPort := goodIn_r _ [82, 9, 10, 11, 92, 93, 94, 95, 96, 97, 98, 99, 100, 101, 102, 103, 104, 105, 106, 107, 108, 109] (by decide +kernel) (by decide +kernel)
set_option maxRecDepth 20000 in
theorem gX10_addPort_X4_putPort : GoodIn wsX10_addPort (wsV RX10 69 RX4 yX4_putPort wsX4_putPort) := goodIn_app (goodIn_of _ (by decide +kernel)) ggX10_addPort_X4_putPort
theorem dX10_addPort_0 : decode cX10_addPort 0 = .ok (.aload_n 0, 1) := by decide +kernel
theorem dX10_addPort_1 : decode cX10_addPort 1 = .ok (.getfield 10, 3) := by decide +kernel
theorem dX10_addPort_4 : decode cX10_addPort 4 = .ok (.invokevirtual 54, 3) := by decide +kernel
theorem dX10_addPort_7 : decode cX10_addPort 7 = .ok (.invokestatic 58, 3) := by decide +kernel
theorem dX10_addPort_10 : decode cX10_addPort 10 = .ok (.aload_n 0, 1) := by decide +kernel
theorem dX10_addPort_11 : decode cX10_addPort 11 = .ok (.getfield 26, 3) := by decide +kernel
theorem dX10_addPort_14 : decode cX10_addPort 14 = .ok (.aload_n 0, 1) := by decide +kernel
theorem dX10_addPort_15 : decode cX10_addPort 15 = .ok (.getfield 10, 3) := by decide +kernel
theorem dX10_addPort_18 : decode cX10_addPort 18 = .ok (.getfield 62, 3) := by decide +kernel
theorem dX10_addPort_21 : decode cX10_addPort 21 = .ok (.invokevirtual 65, 3) := by decide +kernel
theorem dX10_addPort_24 : decode cX10_addPort 24 = .ok (.aload_n 0, 1) := by decide +kernel
theorem dX10_addPort_25 : decode cX10_addPort 25 = .ok (.getfield 10, 3) := by decide +kernel
theorem dX10_addPort_28 : decode cX10_addPort 28 = .ok (.invokevirtual 69, 3) := by decide +kernel
theorem dX10_addPort_31 : decode cX10_addPort 31 = .ok (.ireturn, 1) := by decide +kernel
set_option maxRecDepth 20000 in
theorem ggX10_addLeg_X4_legFault : GoodIn wsX10_addLeg wsX4_legFault := goodIn_ca (goodIn_r _ [8, 9, 10, 11, 12, 13, 14, 15, 16, 17, 18, 19, 20, 21, 22, 23, 24, 25, 26, 27, 28, 29, 30, 31, 116, 117, 118, 119, 120, 121, 122, 123, 124, 125, 126, 127, 128, 129, 130, 131, 132, 133] (by decide +kernel) (by decide +kernel)) (goodIn_sub (fun _ h => List.mem_cons_of_mem _ (List.mem_append_left _ (List.mem_append_left _ (List.mem_append_left _ (List.mem_append_left _ (List.mem_append_left _ (List.mem_append_right _ h))))))) (by decide +kernel))
set_option maxRecDepth 20000 in
theorem gX10_addLeg_X4_legFault : GoodIn wsX10_addLeg (wsV RX10 72 RX4 yX4_legFault wsX4_legFault) := goodIn_app (goodIn_of _ (by decide +kernel)) ggX10_addLeg_X4_legFault
set_option maxRecDepth 20000 in
theorem ggX10_addLeg_X10_refuse : GoodIn wsX10_addLeg wsX10_refuse := goodIn_ca (goodIn_ca (goodIn_ca (goodIn_ca (goodIn_ca (goodIn_r _ [35, 36, 37, 38, 39, 40, 41, 42, 43, 44, 45] (by decide +kernel) (by decide +kernel)) (goodIn_sub (fun _ h => List.mem_cons_of_mem _ (List.mem_append_left _ (List.mem_append_left _ (List.mem_append_left _ (List.mem_append_left _ (List.mem_append_right _ h)))))) (by decide +kernel))) (goodIn_sub (fun _ h => List.mem_cons_of_mem _ (List.mem_append_left _ (List.mem_append_left _ (List.mem_append_left _ (List.mem_append_right _ h))))) (by decide +kernel))) (goodIn_sub (fun _ h => List.mem_cons_of_mem _ (List.mem_append_left _ (List.mem_append_left _ (List.mem_append_right _ h)))) (by decide +kernel))) (goodIn_sub (fun _ h => List.mem_cons_of_mem _ (List.mem_append_left _ (List.mem_append_right _ h))) (by decide +kernel))) (goodIn_sub (fun _ h => List.mem_cons_of_mem _ (List.mem_append_right _ h)) (by decide +kernel))
set_option maxRecDepth 20000 in
theorem gX10_addLeg_X10_refuse : GoodIn wsX10_addLeg (va_wsS RX10 58 yX10_refuse wsX10_refuse) := goodIn_app (goodIn_of _ (by decide +kernel)) ggX10_addLeg_X10_refuse
set_option maxRecDepth 20000 in
theorem ggX10_addLeg_X3_keep : GoodIn wsX10_addLeg wsX3_keep := goodIn_r _ [50, 51, 52, 53, 54, 23, 24, 25, 55, 56, 57, 58, 59, 60, 61, 62, 63, 64, 65, 66, 67, 68, 69, 70, 15, 71, 17, 29, 30, 72, 73, 74, 75, 31, 76, 77, 78, 79, 80, 81, 82, 83, 84, 85, 86, 87, 88, 89, 90, 134, 135, 136, 119, 120, 121, 122, 123, 124, 125, 126, 127, 128, 129, 130, 131, 132, 133, 137, 138, 139, 140, 141, 142] (by decide +kernel) (by decide +kernel)
set_option maxRecDepth 20000 in
theorem gX10_addLeg_X3_keep : GoodIn wsX10_addLeg (wsV RX10 65 RX3 yX3_keep wsX3_keep) := goodIn_app (goodIn_of _ (by decide +kernel)) ggX10_addLeg_X3_keep
set_option maxRecDepth 20000 in
theorem ggX10_addLeg_X4_putLeg : GoodIn wsX10_addLeg wsX4_putLeg := goodIn_ca (goodIn_r _ [94, 9, 10, 11, 95, 96, 97, 15, 98, 29, 22, 23, 24, 25, 26, 27, 28, 30, 31, 76, 77, 78, 99, 100, 101, 102, 103, 104, 105, 106, 116, 117, 118, 119, 120, 121, 122, 123, 124, 125, 126, 127, 128, 129, 130, 131, 132, 133] (by decide +kernel) (by decide +kernel)) (goodIn_sub (fun _ h => List.mem_cons_of_mem _ (List.mem_append_left _ (List.mem_append_left _ (List.mem_append_left _ (List.mem_append_left _ (List.mem_append_left _ (List.mem_append_right _ h))))))) (by decide +kernel))
set_option maxRecDepth 20000 in
theorem gX10_addLeg_X4_putLeg : GoodIn wsX10_addLeg (wsV RX10 76 RX4 yX4_putLeg wsX4_putLeg) := goodIn_app (goodIn_of _ (by decide +kernel)) ggX10_addLeg_X4_putLeg
theorem dX10_addLeg_0 : decode cX10_addLeg 0 = .ok (.aload_n 0, 1) := by decide +kernel
theorem dX10_addLeg_1 : decode cX10_addLeg 1 = .ok (.getfield 10, 3) := by decide +kernel
theorem dX10_addLeg_4 : decode cX10_addLeg 4 = .ok (.iload_n 1, 1) := by decide +kernel
theorem dX10_addLeg_5 : decode cX10_addLeg 5 = .ok (.iload_n 2, 1) := by decide +kernel
theorem dX10_addLeg_6 : decode cX10_addLeg 6 = .ok (.iload_n 3, 1) := by decide +kernel
theorem dX10_addLeg_7 : decode cX10_addLeg 7 = .ok (.iload 4, 2) := by decide +kernel
theorem dX10_addLeg_9 : decode cX10_addLeg 9 = .ok (.invokevirtual 72, 3) := by decide +kernel
theorem dX10_addLeg_12 : decode cX10_addLeg 12 = .ok (.invokestatic 58, 3) := by decide +kernel
theorem dX10_addLeg_15 : decode cX10_addLeg 15 = .ok (.aload_n 0, 1) := by decide +kernel
theorem dX10_addLeg_16 : decode cX10_addLeg 16 = .ok (.getfield 26, 3) := by decide +kernel
theorem dX10_addLeg_19 : decode cX10_addLeg 19 = .ok (.aload_n 0, 1) := by decide +kernel
theorem dX10_addLeg_20 : decode cX10_addLeg 20 = .ok (.getfield 10, 3) := by decide +kernel
theorem dX10_addLeg_23 : decode cX10_addLeg 23 = .ok (.getfield 62, 3) := by decide +kernel
