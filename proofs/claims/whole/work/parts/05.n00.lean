theorem dX0_init_0 : decode cX0_init 0 = .ok (.aload_n 0, 1) := by decide +kernel
theorem dX0_init_1 : decode cX0_init 1 = .ok (.invokespecial 3, 3) := by decide +kernel
theorem dX0_init_4 : decode cX0_init 4 = .ok (.aload_n 0, 1) := by decide +kernel
theorem dX0_init_5 : decode cX0_init 5 = .ok (.iconst 5, 1) := by decide +kernel
theorem dX0_init_6 : decode cX0_init 6 = .ok (.newarray .int, 2) := by decide +kernel
theorem dX0_init_8 : decode cX0_init 8 = .ok (.putfield 9, 3) := by decide +kernel
theorem dX0_init_11 : decode cX0_init 11 = .ok (.aload_n 0, 1) := by decide +kernel
theorem dX0_init_12 : decode cX0_init 12 = .ok (.iconst 5, 1) := by decide +kernel
theorem dX0_init_13 : decode cX0_init 13 = .ok (.newarray .int, 2) := by decide +kernel
theorem dX0_init_15 : decode cX0_init 15 = .ok (.putfield 15, 3) := by decide +kernel
theorem dX0_init_18 : decode cX0_init 18 = .ok (.aload_n 0, 1) := by decide +kernel
theorem dX0_init_19 : decode cX0_init 19 = .ok (.bipush 6, 2) := by decide +kernel
theorem dX0_init_21 : decode cX0_init 21 = .ok (.newarray .int, 2) := by decide +kernel
theorem dX0_init_23 : decode cX0_init 23 = .ok (.putfield 18, 3) := by decide +kernel
theorem dX0_init_26 : decode cX0_init 26 = .ok (.return_, 1) := by decide +kernel
set_option maxRecDepth 20000 in
theorem ggX0_measure_X2_yieldOf : GoodIn wsX0_measure wsX2_yieldOf := goodIn_r _ [19, 20, 21, 22, 23, 24, 25, 26, 27, 28, 29, 30, 18, 31, 32, 33, 34, 35, 36, 37, 38, 39, 40, 41, 42, 43, 44, 45, 46, 47, 48, 49, 50, 51, 52, 53, 54, 55, 56, 57, 58, 59, 60, 61, 62, 63, 64, 65, 66, 67, 68, 3, 4, 5, 69, 70, 71, 72, 73, 74, 75, 76, 77, 78, 79, 80, 81, 93, 94, 95, 96, 97, 98, 99, 100, 101, 102, 103, 108, 109, 110, 111, 112, 113] (by decide +kernel) (by decide +kernel)
set_option maxRecDepth 20000 in
theorem gX0_measure_X2_yieldOf : GoodIn wsX0_measure (wsV RX0 34 RX2 yX2_yieldOf wsX2_yieldOf) := goodIn_app (goodIn_of _ (by decide +kernel)) ggX0_measure_X2_yieldOf
set_option maxRecDepth 20000 in
theorem ggX0_measure_X2_suitBits : GoodIn wsX0_measure wsX2_suitBits := goodIn_r _ [85, 86, 87, 88, 18, 89, 90, 21, 77, 78, 22, 23, 24, 25, 26, 27, 91, 66, 92, 28, 29, 30, 31, 32, 33, 34, 35, 36, 37, 38, 39, 40, 41, 42, 43, 44, 45, 46, 47, 48, 49, 50, 51, 52, 53, 54, 55, 56, 57, 58, 59, 60, 61, 62, 63, 64, 93, 94, 95, 96, 97, 98, 99, 100, 101, 102, 103, 108, 109, 110, 111, 112, 113] (by decide +kernel) (by decide +kernel)
set_option maxRecDepth 20000 in
theorem gX0_measure_X2_suitBits : GoodIn wsX0_measure (wsV RX0 40 RX2 yX2_suitBits wsX2_suitBits) := goodIn_app (goodIn_of _ (by decide +kernel)) ggX0_measure_X2_suitBits
theorem dX0_measure_0 : decode cX0_measure 0 = .ok (.aload_n 0, 1) := by decide +kernel
theorem dX0_measure_1 : decode cX0_measure 1 = .ok (.aload_n 2, 1) := by decide +kernel
theorem dX0_measure_2 : decode cX0_measure 2 = .ok (.getfield 21, 3) := by decide +kernel
theorem dX0_measure_5 : decode cX0_measure 5 = .ok (.iconst 5, 1) := by decide +kernel
theorem dX0_measure_6 : decode cX0_measure 6 = .ok (.invokestatic 27, 3) := by decide +kernel
theorem dX0_measure_9 : decode cX0_measure 9 = .ok (.putfield 33, 3) := by decide +kernel
theorem dX0_measure_12 : decode cX0_measure 12 = .ok (.iconst 0, 1) := by decide +kernel
theorem dX0_measure_13 : decode cX0_measure 13 = .ok (.istore_n 3, 1) := by decide +kernel
theorem dX0_measure_14 : decode cX0_measure 14 = .ok (.iload_n 3, 1) := by decide +kernel
theorem dX0_measure_15 : decode cX0_measure 15 = .ok (.aload_n 0, 1) := by decide +kernel
theorem dX0_measure_16 : decode cX0_measure 16 = .ok (.getfield 33, 3) := by decide +kernel
theorem dX0_measure_19 : decode cX0_measure 19 = .ok (.if_icmp .ge 33, 3) := by decide +kernel
theorem dX0_measure_22 : decode cX0_measure 22 = .ok (.aload_n 0, 1) := by decide +kernel
theorem dX0_measure_23 : decode cX0_measure 23 = .ok (.getfield 9, 3) := by decide +kernel
theorem dX0_measure_26 : decode cX0_measure 26 = .ok (.iload_n 3, 1) := by decide +kernel
theorem dX0_measure_27 : decode cX0_measure 27 = .ok (.aload_n 1, 1) := by decide +kernel
theorem dX0_measure_28 : decode cX0_measure 28 = .ok (.aload_n 2, 1) := by decide +kernel
theorem dX0_measure_29 : decode cX0_measure 29 = .ok (.iload_n 3, 1) := by decide +kernel
theorem dX0_measure_30 : decode cX0_measure 30 = .ok (.invokevirtual 34, 3) := by decide +kernel
theorem dX0_measure_33 : decode cX0_measure 33 = .ok (.iastore, 1) := by decide +kernel
theorem dX0_measure_34 : decode cX0_measure 34 = .ok (.aload_n 0, 1) := by decide +kernel
theorem dX0_measure_35 : decode cX0_measure 35 = .ok (.getfield 15, 3) := by decide +kernel
theorem dX0_measure_38 : decode cX0_measure 38 = .ok (.iload_n 3, 1) := by decide +kernel
theorem dX0_measure_39 : decode cX0_measure 39 = .ok (.aload_n 1, 1) := by decide +kernel
theorem dX0_measure_40 : decode cX0_measure 40 = .ok (.aload_n 2, 1) := by decide +kernel
theorem dX0_measure_41 : decode cX0_measure 41 = .ok (.iload_n 3, 1) := by decide +kernel
theorem dX0_measure_42 : decode cX0_measure 42 = .ok (.invokevirtual 40, 3) := by decide +kernel
theorem dX0_measure_45 : decode cX0_measure 45 = .ok (.iastore, 1) := by decide +kernel
theorem dX0_measure_46 : decode cX0_measure 46 = .ok (.iinc 3 1, 3) := by decide +kernel
theorem dX0_measure_49 : decode cX0_measure 49 = .ok (.goto (-35), 3) := by decide +kernel
theorem dX0_measure_52 : decode cX0_measure 52 = .ok (.aload_n 2, 1) := by decide +kernel
theorem dX0_measure_53 : decode cX0_measure 53 = .ok (.getfield 43, 3) := by decide +kernel
theorem dX0_measure_56 : decode cX0_measure 56 = .ok (.iconst 0, 1) := by decide +kernel
theorem dX0_measure_57 : decode cX0_measure 57 = .ok (.aload_n 0, 1) := by decide +kernel
theorem dX0_measure_58 : decode cX0_measure 58 = .ok (.getfield 18, 3) := by decide +kernel
theorem dX0_measure_61 : decode cX0_measure 61 = .ok (.iconst 0, 1) := by decide +kernel
theorem dX0_measure_62 : decode cX0_measure 62 = .ok (.bipush 6, 2) := by decide +kernel
theorem dX0_measure_64 : decode cX0_measure 64 = .ok (.invokestatic 46, 3) := by decide +kernel
theorem dX0_measure_67 : decode cX0_measure 67 = .ok (.return_, 1) := by decide +kernel
set_option maxRecDepth 20000 in
theorem ggX0_most_X0_cutBy : GoodIn wsX0_most wsX0_cutBy := goodIn_r _ [10, 1, 11, 12, 13, 14, 15, 16, 17] (by decide +kernel) (by decide +kernel)
set_option maxRecDepth 20000 in
theorem gX0_most_X0_cutBy : GoodIn wsX0_most (wsV RX0 52 RX0 yX0_cutBy wsX0_cutBy) := goodIn_app (goodIn_of _ (by decide +kernel)) ggX0_most_X0_cutBy
theorem dX0_most_0 : decode cX0_most 0 = .ok (.aload_n 0, 1) := by decide +kernel
theorem dX0_most_1 : decode cX0_most 1 = .ok (.iconst 0, 1) := by decide +kernel
theorem dX0_most_2 : decode cX0_most 2 = .ok (.invokevirtual 52, 3) := by decide +kernel
theorem dX0_most_5 : decode cX0_most 5 = .ok (.istore_n 1, 1) := by decide +kernel
theorem dX0_most_6 : decode cX0_most 6 = .ok (.iconst 1, 1) := by decide +kernel
theorem dX0_most_7 : decode cX0_most 7 = .ok (.istore_n 2, 1) := by decide +kernel
theorem dX0_most_8 : decode cX0_most 8 = .ok (.iload_n 2, 1) := by decide +kernel
theorem dX0_most_9 : decode cX0_most 9 = .ok (.iconst 1, 1) := by decide +kernel
theorem dX0_most_10 : decode cX0_most 10 = .ok (.aload_n 0, 1) := by decide +kernel
theorem dX0_most_11 : decode cX0_most 11 = .ok (.getfield 33, 3) := by decide +kernel
theorem dX0_most_14 : decode cX0_most 14 = .ok (.ishl, 1) := by decide +kernel
theorem dX0_most_15 : decode cX0_most 15 = .ok (.if_icmp .ge 19, 3) := by decide +kernel
theorem dX0_most_18 : decode cX0_most 18 = .ok (.iload_n 1, 1) := by decide +kernel
theorem dX0_most_19 : decode cX0_most 19 = .ok (.aload_n 0, 1) := by decide +kernel
theorem dX0_most_20 : decode cX0_most 20 = .ok (.iload_n 2, 1) := by decide +kernel
theorem dX0_most_21 : decode cX0_most 21 = .ok (.invokevirtual 52, 3) := by decide +kernel
theorem dX0_most_24 : decode cX0_most 24 = .ok (.invokestatic 27, 3) := by decide +kernel
theorem dX0_most_27 : decode cX0_most 27 = .ok (.istore_n 1, 1) := by decide +kernel
theorem dX0_most_28 : decode cX0_most 28 = .ok (.iinc 2 1, 3) := by decide +kernel
theorem dX0_most_31 : decode cX0_most 31 = .ok (.goto (-23), 3) := by decide +kernel
theorem dX0_most_34 : decode cX0_most 34 = .ok (.iload_n 1, 1) := by decide +kernel
theorem dX0_most_35 : decode cX0_most 35 = .ok (.ireturn, 1) := by decide +kernel
set_option maxRecDepth 20000 in
theorem ggX0_leastCut_X0_most : GoodIn wsX0_leastCut wsX0_most := goodIn_r _ [6, 1, 7, 8, 9, 10, 11, 12, 13, 5, 14, 15, 16, 17, 18, 19, 20, 21] (by decide +kernel) (by decide +kernel)
set_option maxRecDepth 20000 in
theorem gX0_leastCut_X0_most : GoodIn wsX0_leastCut (wsV RX0 56 RX0 yX0_most wsX0_most) := goodIn_app (goodIn_of _ (by decide +kernel)) ggX0_leastCut_X0_most
set_option maxRecDepth 20000 in
theorem ggX0_leastCut_X0_cutBy : GoodIn wsX0_leastCut wsX0_cutBy := goodIn_r _ [14, 1, 15, 16, 17, 18, 19, 20, 21] (by decide +kernel) (by decide +kernel)
set_option maxRecDepth 20000 in
theorem gX0_leastCut_X0_cutBy : GoodIn wsX0_leastCut (wsV RX0 52 RX0 yX0_cutBy wsX0_cutBy) := goodIn_app (goodIn_of _ (by decide +kernel)) ggX0_leastCut_X0_cutBy
theorem dX0_leastCut_0 : decode cX0_leastCut 0 = .ok (.aload_n 0, 1) := by decide +kernel
theorem dX0_leastCut_1 : decode cX0_leastCut 1 = .ok (.invokevirtual 56, 3) := by decide +kernel
theorem dX0_leastCut_4 : decode cX0_leastCut 4 = .ok (.istore_n 1, 1) := by decide +kernel
theorem dX0_leastCut_5 : decode cX0_leastCut 5 = .ok (.iconst 0, 1) := by decide +kernel
theorem dX0_leastCut_6 : decode cX0_leastCut 6 = .ok (.istore_n 2, 1) := by decide +kernel
theorem dX0_leastCut_7 : decode cX0_leastCut 7 = .ok (.iload_n 2, 1) := by decide +kernel
theorem dX0_leastCut_8 : decode cX0_leastCut 8 = .ok (.iconst 1, 1) := by decide +kernel
theorem dX0_leastCut_9 : decode cX0_leastCut 9 = .ok (.aload_n 0, 1) := by decide +kernel
theorem dX0_leastCut_10 : decode cX0_leastCut 10 = .ok (.getfield 33, 3) := by decide +kernel
theorem dX0_leastCut_13 : decode cX0_leastCut 13 = .ok (.ishl, 1) := by decide +kernel
theorem dX0_leastCut_14 : decode cX0_leastCut 14 = .ok (.if_icmp .ge 20, 3) := by decide +kernel
theorem dX0_leastCut_17 : decode cX0_leastCut 17 = .ok (.aload_n 0, 1) := by decide +kernel
theorem dX0_leastCut_18 : decode cX0_leastCut 18 = .ok (.iload_n 2, 1) := by decide +kernel
theorem dX0_leastCut_19 : decode cX0_leastCut 19 = .ok (.invokevirtual 52, 3) := by decide +kernel
theorem dX0_leastCut_22 : decode cX0_leastCut 22 = .ok (.iload_n 1, 1) := by decide +kernel
theorem dX0_leastCut_23 : decode cX0_leastCut 23 = .ok (.if_icmp .ne 5, 3) := by decide +kernel
theorem dX0_leastCut_26 : decode cX0_leastCut 26 = .ok (.iload_n 2, 1) := by decide +kernel
theorem dX0_leastCut_27 : decode cX0_leastCut 27 = .ok (.ireturn, 1) := by decide +kernel
theorem dX0_leastCut_28 : decode cX0_leastCut 28 = .ok (.iinc 2 1, 3) := by decide +kernel
theorem dX0_leastCut_31 : decode cX0_leastCut 31 = .ok (.goto (-24), 3) := by decide +kernel
theorem dX0_leastCut_34 : decode cX0_leastCut 34 = .ok (.iconst 0, 1) := by decide +kernel
theorem dX0_leastCut_35 : decode cX0_leastCut 35 = .ok (.ireturn, 1) := by decide +kernel
theorem dX0_starved_0 : decode cX0_starved 0 = .ok (.iconst 0, 1) := by decide +kernel
theorem dX0_starved_1 : decode cX0_starved 1 = .ok (.istore_n 1, 1) := by decide +kernel
theorem dX0_starved_2 : decode cX0_starved 2 = .ok (.iconst 0, 1) := by decide +kernel
theorem dX0_starved_3 : decode cX0_starved 3 = .ok (.istore_n 2, 1) := by decide +kernel
theorem dX0_starved_4 : decode cX0_starved 4 = .ok (.iload_n 2, 1) := by decide +kernel
theorem dX0_starved_5 : decode cX0_starved 5 = .ok (.aload_n 0, 1) := by decide +kernel
theorem dX0_starved_6 : decode cX0_starved 6 = .ok (.getfield 33, 3) := by decide +kernel
theorem dX0_starved_9 : decode cX0_starved 9 = .ok (.if_icmp .ge 27, 3) := by decide +kernel
theorem dX0_starved_12 : decode cX0_starved 12 = .ok (.aload_n 0, 1) := by decide +kernel
theorem dX0_starved_13 : decode cX0_starved 13 = .ok (.getfield 9, 3) := by decide +kernel
theorem dX0_starved_16 : decode cX0_starved 16 = .ok (.iload_n 2, 1) := by decide +kernel
theorem dX0_starved_17 : decode cX0_starved 17 = .ok (.iaload, 1) := by decide +kernel
theorem dX0_starved_18 : decode cX0_starved 18 = .ok (.ifCond .le 12, 3) := by decide +kernel
theorem dX0_starved_21 : decode cX0_starved 21 = .ok (.iload_n 1, 1) := by decide +kernel
theorem dX0_starved_22 : decode cX0_starved 22 = .ok (.aload_n 0, 1) := by decide +kernel
theorem dX0_starved_23 : decode cX0_starved 23 = .ok (.getfield 15, 3) := by decide +kernel
theorem dX0_starved_26 : decode cX0_starved 26 = .ok (.iload_n 2, 1) := by decide +kernel
theorem dX0_starved_27 : decode cX0_starved 27 = .ok (.iaload, 1) := by decide +kernel
theorem dX0_starved_28 : decode cX0_starved 28 = .ok (.ior, 1) := by decide +kernel
theorem dX0_starved_29 : decode cX0_starved 29 = .ok (.istore_n 1, 1) := by decide +kernel
theorem dX0_starved_30 : decode cX0_starved 30 = .ok (.iinc 2 1, 3) := by decide +kernel
theorem dX0_starved_33 : decode cX0_starved 33 = .ok (.goto (-29), 3) := by decide +kernel
theorem dX0_starved_36 : decode cX0_starved 36 = .ok (.bipush 63, 2) := by decide +kernel
theorem dX0_starved_38 : decode cX0_starved 38 = .ok (.iload_n 1, 1) := by decide +kernel
theorem dX0_starved_39 : decode cX0_starved 39 = .ok (.iconst (-1), 1) := by decide +kernel
theorem dX0_starved_40 : decode cX0_starved 40 = .ok (.ixor, 1) := by decide +kernel
theorem dX0_starved_41 : decode cX0_starved 41 = .ok (.iand, 1) := by decide +kernel
theorem dX0_starved_42 : decode cX0_starved 42 = .ok (.ireturn, 1) := by decide +kernel
set_option maxRecDepth 20000 in
theorem ggX0_leastLost_X0_mostWithoutOne : GoodIn wsX0_leastLost wsX0_mostWithoutOne := goodIn_r _ [6, 1, 7, 8, 9, 10, 5, 11, 12, 13, 14, 15, 16, 17, 18, 19, 20, 21, 22, 23, 24, 25] (by decide +kernel) (by decide +kernel)
set_option maxRecDepth 20000 in
theorem gX0_leastLost_X0_mostWithoutOne : GoodIn wsX0_leastLost (wsV RX0 60 RX0 yX0_mostWithoutOne wsX0_mostWithoutOne) := goodIn_app (goodIn_of _ (by decide +kernel)) ggX0_leastLost_X0_mostWithoutOne
theorem dX0_leastLost_0 : decode cX0_leastLost 0 = .ok (.iconst (-1), 1) := by decide +kernel
theorem dX0_leastLost_1 : decode cX0_leastLost 1 = .ok (.istore_n 1, 1) := by decide +kernel
theorem dX0_leastLost_2 : decode cX0_leastLost 2 = .ok (.iconst (-1), 1) := by decide +kernel
theorem dX0_leastLost_3 : decode cX0_leastLost 3 = .ok (.istore_n 2, 1) := by decide +kernel
theorem dX0_leastLost_4 : decode cX0_leastLost 4 = .ok (.iconst 0, 1) := by decide +kernel
theorem dX0_leastLost_5 : decode cX0_leastLost 5 = .ok (.istore_n 3, 1) := by decide +kernel
theorem dX0_leastLost_6 : decode cX0_leastLost 6 = .ok (.iload_n 3, 1) := by decide +kernel
theorem dX0_leastLost_7 : decode cX0_leastLost 7 = .ok (.aload_n 0, 1) := by decide +kernel
theorem dX0_leastLost_8 : decode cX0_leastLost 8 = .ok (.getfield 33, 3) := by decide +kernel
theorem dX0_leastLost_11 : decode cX0_leastLost 11 = .ok (.if_icmp .ge 27, 3) := by decide +kernel
theorem dX0_leastLost_14 : decode cX0_leastLost 14 = .ok (.aload_n 0, 1) := by decide +kernel
theorem dX0_leastLost_15 : decode cX0_leastLost 15 = .ok (.iload_n 3, 1) := by decide +kernel
theorem dX0_leastLost_16 : decode cX0_leastLost 16 = .ok (.invokevirtual 60, 3) := by decide +kernel
theorem dX0_leastLost_19 : decode cX0_leastLost 19 = .ok (.istore 4, 2) := by decide +kernel
theorem dX0_leastLost_21 : decode cX0_leastLost 21 = .ok (.iload 4, 2) := by decide +kernel
theorem dX0_leastLost_23 : decode cX0_leastLost 23 = .ok (.iload_n 2, 1) := by decide +kernel
theorem dX0_leastLost_24 : decode cX0_leastLost 24 = .ok (.if_icmp .le 8, 3) := by decide +kernel
theorem dX0_leastLost_27 : decode cX0_leastLost 27 = .ok (.iload 4, 2) := by decide +kernel
theorem dX0_leastLost_29 : decode cX0_leastLost 29 = .ok (.istore_n 2, 1) := by decide +kernel
theorem dX0_leastLost_30 : decode cX0_leastLost 30 = .ok (.iload_n 3, 1) := by decide +kernel
theorem dX0_leastLost_31 : decode cX0_leastLost 31 = .ok (.istore_n 1, 1) := by decide +kernel
theorem dX0_leastLost_32 : decode cX0_leastLost 32 = .ok (.iinc 3 1, 3) := by decide +kernel
theorem dX0_leastLost_35 : decode cX0_leastLost 35 = .ok (.goto (-29), 3) := by decide +kernel
theorem dX0_leastLost_38 : decode cX0_leastLost 38 = .ok (.iload_n 1, 1) := by decide +kernel
theorem dX0_leastLost_39 : decode cX0_leastLost 39 = .ok (.ireturn, 1) := by decide +kernel
set_option maxRecDepth 20000 in
theorem ggX0_mostWithoutOne_X0_most : GoodIn wsX0_mostWithoutOne wsX0_most := goodIn_r _ [7, 1, 8, 9, 10, 11, 12, 13, 14, 6, 15, 2, 16, 17, 18, 19, 20, 21] (by decide +kernel) (by decide +kernel)
set_option maxRecDepth 20000 in
theorem gX0_mostWithoutOne_X0_most : GoodIn wsX0_mostWithoutOne (wsV RX0 56 RX0 yX0_most wsX0_most) := goodIn_app (goodIn_of _ (by decide +kernel)) ggX0_mostWithoutOne_X0_most
theorem dX0_mostWithoutOne_0 : decode cX0_mostWithoutOne 0 = .ok (.iload_n 1, 1) := by decide +kernel
theorem dX0_mostWithoutOne_1 : decode cX0_mostWithoutOne 1 = .ok (.ifCond .lt 11, 3) := by decide +kernel
theorem dX0_mostWithoutOne_4 : decode cX0_mostWithoutOne 4 = .ok (.iload_n 1, 1) := by decide +kernel
theorem dX0_mostWithoutOne_5 : decode cX0_mostWithoutOne 5 = .ok (.aload_n 0, 1) := by decide +kernel
theorem dX0_mostWithoutOne_6 : decode cX0_mostWithoutOne 6 = .ok (.getfield 33, 3) := by decide +kernel
theorem dX0_mostWithoutOne_9 : decode cX0_mostWithoutOne 9 = .ok (.if_icmp .lt 8, 3) := by decide +kernel
theorem dX0_mostWithoutOne_12 : decode cX0_mostWithoutOne 12 = .ok (.aload_n 0, 1) := by decide +kernel
theorem dX0_mostWithoutOne_13 : decode cX0_mostWithoutOne 13 = .ok (.invokevirtual 56, 3) := by decide +kernel
theorem dX0_mostWithoutOne_16 : decode cX0_mostWithoutOne 16 = .ok (.ireturn, 1) := by decide +kernel
theorem dX0_mostWithoutOne_17 : decode cX0_mostWithoutOne 17 = .ok (.aload_n 0, 1) := by decide +kernel
theorem dX0_mostWithoutOne_18 : decode cX0_mostWithoutOne 18 = .ok (.getfield 9, 3) := by decide +kernel
theorem dX0_mostWithoutOne_21 : decode cX0_mostWithoutOne 21 = .ok (.iload_n 1, 1) := by decide +kernel
theorem dX0_mostWithoutOne_22 : decode cX0_mostWithoutOne 22 = .ok (.iaload, 1) := by decide +kernel
theorem dX0_mostWithoutOne_23 : decode cX0_mostWithoutOne 23 = .ok (.istore_n 2, 1) := by decide +kernel
theorem dX0_mostWithoutOne_24 : decode cX0_mostWithoutOne 24 = .ok (.aload_n 0, 1) := by decide +kernel
theorem dX0_mostWithoutOne_25 : decode cX0_mostWithoutOne 25 = .ok (.getfield 9, 3) := by decide +kernel
theorem dX0_mostWithoutOne_28 : decode cX0_mostWithoutOne 28 = .ok (.iload_n 1, 1) := by decide +kernel
theorem dX0_mostWithoutOne_29 : decode cX0_mostWithoutOne 29 = .ok (.iconst 0, 1) := by decide +kernel
theorem dX0_mostWithoutOne_30 : decode cX0_mostWithoutOne 30 = .ok (.iastore, 1) := by decide +kernel
theorem dX0_mostWithoutOne_31 : decode cX0_mostWithoutOne 31 = .ok (.aload_n 0, 1) := by decide +kernel
theorem dX0_mostWithoutOne_32 : decode cX0_mostWithoutOne 32 = .ok (.invokevirtual 56, 3) := by decide +kernel
theorem dX0_mostWithoutOne_35 : decode cX0_mostWithoutOne 35 = .ok (.istore_n 3, 1) := by decide +kernel
theorem dX0_mostWithoutOne_36 : decode cX0_mostWithoutOne 36 = .ok (.aload_n 0, 1) := by decide +kernel
theorem dX0_mostWithoutOne_37 : decode cX0_mostWithoutOne 37 = .ok (.getfield 9, 3) := by decide +kernel
theorem dX0_mostWithoutOne_40 : decode cX0_mostWithoutOne 40 = .ok (.iload_n 1, 1) := by decide +kernel
theorem dX0_mostWithoutOne_41 : decode cX0_mostWithoutOne 41 = .ok (.iload_n 2, 1) := by decide +kernel
theorem dX0_mostWithoutOne_42 : decode cX0_mostWithoutOne 42 = .ok (.iastore, 1) := by decide +kernel
theorem dX0_mostWithoutOne_43 : decode cX0_mostWithoutOne 43 = .ok (.iload_n 3, 1) := by decide +kernel
theorem dX0_mostWithoutOne_44 : decode cX0_mostWithoutOne 44 = .ok (.ireturn, 1) := by decide +kernel
set_option maxRecDepth 20000 in
theorem ggX0_emptiest_X0_mostWithWant : GoodIn wsX0_emptiest wsX0_mostWithWant := goodIn_r _ [5, 6, 7, 8, 9, 10, 11, 12, 4, 13, 14, 15, 16, 17, 18, 19, 20, 21, 22, 23, 24, 25, 26, 27, 28] (by decide +kernel) (by decide +kernel)
set_option maxRecDepth 20000 in
theorem gX0_emptiest_X0_mostWithWant : GoodIn wsX0_emptiest (wsV RX0 63 RX0 yX0_mostWithWant wsX0_mostWithWant) := goodIn_app (goodIn_of _ (by decide +kernel)) ggX0_emptiest_X0_mostWithWant
theorem dX0_emptiest_0 : decode cX0_emptiest 0 = .ok (.iconst 0, 1) := by decide +kernel
theorem dX0_emptiest_1 : decode cX0_emptiest 1 = .ok (.istore_n 1, 1) := by decide +kernel
theorem dX0_emptiest_2 : decode cX0_emptiest 2 = .ok (.iconst 1, 1) := by decide +kernel
theorem dX0_emptiest_3 : decode cX0_emptiest 3 = .ok (.istore_n 2, 1) := by decide +kernel
theorem dX0_emptiest_4 : decode cX0_emptiest 4 = .ok (.iload_n 2, 1) := by decide +kernel
theorem dX0_emptiest_5 : decode cX0_emptiest 5 = .ok (.bipush 6, 2) := by decide +kernel
theorem dX0_emptiest_7 : decode cX0_emptiest 7 = .ok (.if_icmp .ge 26, 3) := by decide +kernel
theorem dX0_emptiest_10 : decode cX0_emptiest 10 = .ok (.aload_n 0, 1) := by decide +kernel
theorem dX0_emptiest_11 : decode cX0_emptiest 11 = .ok (.iload_n 2, 1) := by decide +kernel
theorem dX0_emptiest_12 : decode cX0_emptiest 12 = .ok (.iconst 0, 1) := by decide +kernel
theorem dX0_emptiest_13 : decode cX0_emptiest 13 = .ok (.invokevirtual 63, 3) := by decide +kernel
theorem dX0_emptiest_16 : decode cX0_emptiest 16 = .ok (.aload_n 0, 1) := by decide +kernel
theorem dX0_emptiest_17 : decode cX0_emptiest 17 = .ok (.iload_n 1, 1) := by decide +kernel
theorem dX0_emptiest_18 : decode cX0_emptiest 18 = .ok (.iconst 0, 1) := by decide +kernel
theorem dX0_emptiest_19 : decode cX0_emptiest 19 = .ok (.invokevirtual 63, 3) := by decide +kernel
theorem dX0_emptiest_22 : decode cX0_emptiest 22 = .ok (.if_icmp .le 5, 3) := by decide +kernel
theorem dX0_emptiest_25 : decode cX0_emptiest 25 = .ok (.iload_n 2, 1) := by decide +kernel
theorem dX0_emptiest_26 : decode cX0_emptiest 26 = .ok (.istore_n 1, 1) := by decide +kernel
theorem dX0_emptiest_27 : decode cX0_emptiest 27 = .ok (.iinc 2 1, 3) := by decide +kernel
theorem dX0_emptiest_30 : decode cX0_emptiest 30 = .ok (.goto (-26), 3) := by decide +kernel
theorem dX0_emptiest_33 : decode cX0_emptiest 33 = .ok (.iload_n 1, 1) := by decide +kernel
theorem dX0_emptiest_34 : decode cX0_emptiest 34 = .ok (.ireturn, 1) := by decide +kernel
set_option maxRecDepth 20000 in
theorem ggX0_dearest_X0_mostWithOneMore : GoodIn wsX0_dearest wsX0_mostWithOneMore := goodIn_r _ [5, 6, 7, 8, 9, 10, 11, 12, 13, 14, 15, 16, 17, 18, 19, 20, 21, 4, 22, 23, 24, 25, 26, 27, 28, 29, 30, 31, 32, 33, 34, 35, 36, 37, 38] (by decide +kernel) (by decide +kernel)
set_option maxRecDepth 20000 in
theorem gX0_dearest_X0_mostWithOneMore : GoodIn wsX0_dearest (wsV RX0 66 RX0 yX0_mostWithOneMore wsX0_mostWithOneMore) := goodIn_app (goodIn_of _ (by decide +kernel)) ggX0_dearest_X0_mostWithOneMore
theorem dX0_dearest_0 : decode cX0_dearest 0 = .ok (.iconst 0, 1) := by decide +kernel
theorem dX0_dearest_1 : decode cX0_dearest 1 = .ok (.istore_n 1, 1) := by decide +kernel
theorem dX0_dearest_2 : decode cX0_dearest 2 = .ok (.iconst 1, 1) := by decide +kernel
theorem dX0_dearest_3 : decode cX0_dearest 3 = .ok (.istore_n 2, 1) := by decide +kernel
theorem dX0_dearest_4 : decode cX0_dearest 4 = .ok (.iload_n 2, 1) := by decide +kernel
theorem dX0_dearest_5 : decode cX0_dearest 5 = .ok (.bipush 6, 2) := by decide +kernel
theorem dX0_dearest_7 : decode cX0_dearest 7 = .ok (.if_icmp .ge 24, 3) := by decide +kernel
theorem dX0_dearest_10 : decode cX0_dearest 10 = .ok (.aload_n 0, 1) := by decide +kernel
theorem dX0_dearest_11 : decode cX0_dearest 11 = .ok (.iload_n 2, 1) := by decide +kernel
theorem dX0_dearest_12 : decode cX0_dearest 12 = .ok (.invokevirtual 66, 3) := by decide +kernel
theorem dX0_dearest_15 : decode cX0_dearest 15 = .ok (.aload_n 0, 1) := by decide +kernel
theorem dX0_dearest_16 : decode cX0_dearest 16 = .ok (.iload_n 1, 1) := by decide +kernel
theorem dX0_dearest_17 : decode cX0_dearest 17 = .ok (.invokevirtual 66, 3) := by decide +kernel
theorem dX0_dearest_20 : decode cX0_dearest 20 = .ok (.if_icmp .le 5, 3) := by decide +kernel
theorem dX0_dearest_23 : decode cX0_dearest 23 = .ok (.iload_n 2, 1) := by decide +kernel
theorem dX0_dearest_24 : decode cX0_dearest 24 = .ok (.istore_n 1, 1) := by decide +kernel
theorem dX0_dearest_25 : decode cX0_dearest 25 = .ok (.iinc 2 1, 3) := by decide +kernel
theorem dX0_dearest_28 : decode cX0_dearest 28 = .ok (.goto (-24), 3) := by decide +kernel
theorem dX0_dearest_31 : decode cX0_dearest 31 = .ok (.iload_n 1, 1) := by decide +kernel
theorem dX0_dearest_32 : decode cX0_dearest 32 = .ok (.ireturn, 1) := by decide +kernel
set_option maxRecDepth 20000 in
theorem ggX0_mostWithOneMore_X8_isCup : GoodIn wsX0_mostWithOneMore wsX8_isCup := goodIn_r _ [4] (by decide +kernel) (by decide +kernel)
set_option maxRecDepth 20000 in
theorem gX0_mostWithOneMore_X8_isCup_n69 : GoodIn wsX0_mostWithOneMore (wsX8_isCup) := ggX0_mostWithOneMore_X8_isCup
set_option maxRecDepth 20000 in
theorem ggX0_mostWithOneMore_X8_bounded : GoodIn wsX0_mostWithOneMore wsX8_bounded := goodIn_r _ [6, 7, 8, 9, 10, 11, 12, 13] (by decide +kernel) (by decide +kernel)
set_option maxRecDepth 20000 in
theorem gX0_mostWithOneMore_X8_bounded_n73 : GoodIn wsX0_mostWithOneMore (wsX8_bounded) := ggX0_mostWithOneMore_X8_bounded
set_option maxRecDepth 20000 in
theorem ggX0_mostWithOneMore_X0_mostWithWant : GoodIn wsX0_mostWithOneMore wsX0_mostWithWant := goodIn_r _ [18, 1, 2, 3, 4, 19, 20, 21, 17, 22, 23, 24, 8, 9, 10, 25, 26, 27, 28, 29, 30, 31, 32, 33, 34] (by decide +kernel) (by decide +kernel)
set_option maxRecDepth 20000 in
theorem gX0_mostWithOneMore_X0_mostWithWant : GoodIn wsX0_mostWithOneMore (wsV RX0 63 RX0 yX0_mostWithWant wsX0_mostWithWant) := goodIn_app (goodIn_of _ (by decide +kernel)) ggX0_mostWithOneMore_X0_mostWithWant
set_option maxRecDepth 20000 in
theorem ggX0_mostWithOneMore_X0_most : GoodIn wsX0_mostWithOneMore wsX0_most := goodIn_r _ [22, 23, 24, 8, 9, 10, 25, 26, 27, 17, 28, 29, 30, 1, 31, 32, 33, 34] (by decide +kernel) (by decide +kernel)
set_option maxRecDepth 20000 in
theorem gX0_mostWithOneMore_X0_most : GoodIn wsX0_mostWithOneMore (wsV RX0 56 RX0 yX0_most wsX0_most) := goodIn_app (goodIn_of _ (by decide +kernel)) ggX0_mostWithOneMore_X0_most
theorem dX0_mostWithOneMore_0 : decode cX0_mostWithOneMore 0 = .ok (.iload_n 1, 1) := by decide +kernel
theorem dX0_mostWithOneMore_1 : decode cX0_mostWithOneMore 1 = .ok (.invokestatic 69, 3) := by decide +kernel
theorem dX0_mostWithOneMore_4 : decode cX0_mostWithOneMore 4 = .ok (.ifCond .eq 22, 3) := by decide +kernel
theorem dX0_mostWithOneMore_7 : decode cX0_mostWithOneMore 7 = .ok (.aload_n 0, 1) := by decide +kernel
theorem dX0_mostWithOneMore_8 : decode cX0_mostWithOneMore 8 = .ok (.iload_n 1, 1) := by decide +kernel
theorem dX0_mostWithOneMore_9 : decode cX0_mostWithOneMore 9 = .ok (.aload_n 0, 1) := by decide +kernel
theorem dX0_mostWithOneMore_10 : decode cX0_mostWithOneMore 10 = .ok (.getfield 18, 3) := by decide +kernel
theorem dX0_mostWithOneMore_13 : decode cX0_mostWithOneMore 13 = .ok (.iload_n 1, 1) := by decide +kernel
theorem dX0_mostWithOneMore_14 : decode cX0_mostWithOneMore 14 = .ok (.iaload, 1) := by decide +kernel
theorem dX0_mostWithOneMore_15 : decode cX0_mostWithOneMore 15 = .ok (.iconst 1, 1) := by decide +kernel
theorem dX0_mostWithOneMore_16 : decode cX0_mostWithOneMore 16 = .ok (.iadd, 1) := by decide +kernel
theorem dX0_mostWithOneMore_17 : decode cX0_mostWithOneMore 17 = .ok (.invokestatic 73, 3) := by decide +kernel
theorem dX0_mostWithOneMore_20 : decode cX0_mostWithOneMore 20 = .ok (.invokevirtual 63, 3) := by decide +kernel
theorem dX0_mostWithOneMore_23 : decode cX0_mostWithOneMore 23 = .ok (.goto 7, 3) := by decide +kernel
theorem dX0_mostWithOneMore_26 : decode cX0_mostWithOneMore 26 = .ok (.aload_n 0, 1) := by decide +kernel
theorem dX0_mostWithOneMore_27 : decode cX0_mostWithOneMore 27 = .ok (.invokevirtual 56, 3) := by decide +kernel
theorem dX0_mostWithOneMore_30 : decode cX0_mostWithOneMore 30 = .ok (.ireturn, 1) := by decide +kernel
set_option maxRecDepth 20000 in
theorem ggX0_mostWithWant_X8_isCup : GoodIn wsX0_mostWithWant wsX8_isCup := goodIn_r _ [4] (by decide +kernel) (by decide +kernel)
set_option maxRecDepth 20000 in
theorem gX0_mostWithWant_X8_isCup_n69 : GoodIn wsX0_mostWithWant (wsX8_isCup) := ggX0_mostWithWant_X8_isCup
set_option maxRecDepth 20000 in
theorem ggX0_mostWithWant_X0_most : GoodIn wsX0_mostWithWant wsX0_most := goodIn_r _ [9, 10, 11, 12, 13, 14, 15, 16, 17, 8, 18, 19, 20, 1, 21, 22, 23, 24] (by decide +kernel) (by decide +kernel)
set_option maxRecDepth 20000 in
theorem gX0_mostWithWant_X0_most : GoodIn wsX0_mostWithWant (wsV RX0 56 RX0 yX0_most wsX0_most) := goodIn_app (goodIn_of _ (by decide +kernel)) ggX0_mostWithWant_X0_most
theorem dX0_mostWithWant_0 : decode cX0_mostWithWant 0 = .ok (.iload_n 1, 1) := by decide +kernel
theorem dX0_mostWithWant_1 : decode cX0_mostWithWant 1 = .ok (.invokestatic 69, 3) := by decide +kernel
theorem dX0_mostWithWant_4 : decode cX0_mostWithWant 4 = .ok (.ifCond .ne 8, 3) := by decide +kernel
theorem dX0_mostWithWant_7 : decode cX0_mostWithWant 7 = .ok (.aload_n 0, 1) := by decide +kernel
theorem dX0_mostWithWant_8 : decode cX0_mostWithWant 8 = .ok (.invokevirtual 56, 3) := by decide +kernel
theorem dX0_mostWithWant_11 : decode cX0_mostWithWant 11 = .ok (.ireturn, 1) := by decide +kernel
theorem dX0_mostWithWant_12 : decode cX0_mostWithWant 12 = .ok (.aload_n 0, 1) := by decide +kernel
theorem dX0_mostWithWant_13 : decode cX0_mostWithWant 13 = .ok (.getfield 18, 3) := by decide +kernel
theorem dX0_mostWithWant_16 : decode cX0_mostWithWant 16 = .ok (.iload_n 1, 1) := by decide +kernel
theorem dX0_mostWithWant_17 : decode cX0_mostWithWant 17 = .ok (.iaload, 1) := by decide +kernel
theorem dX0_mostWithWant_18 : decode cX0_mostWithWant 18 = .ok (.istore_n 3, 1) := by decide +kernel
theorem dX0_mostWithWant_19 : decode cX0_mostWithWant 19 = .ok (.aload_n 0, 1) := by decide +kernel
theorem dX0_mostWithWant_20 : decode cX0_mostWithWant 20 = .ok (.getfield 18, 3) := by decide +kernel
theorem dX0_mostWithWant_23 : decode cX0_mostWithWant 23 = .ok (.iload_n 1, 1) := by decide +kernel
theorem dX0_mostWithWant_24 : decode cX0_mostWithWant 24 = .ok (.iload_n 2, 1) := by decide +kernel
theorem dX0_mostWithWant_25 : decode cX0_mostWithWant 25 = .ok (.iastore, 1) := by decide +kernel
theorem dX0_mostWithWant_26 : decode cX0_mostWithWant 26 = .ok (.aload_n 0, 1) := by decide +kernel
theorem dX0_mostWithWant_27 : decode cX0_mostWithWant 27 = .ok (.invokevirtual 56, 3) := by decide +kernel
theorem dX0_mostWithWant_30 : decode cX0_mostWithWant 30 = .ok (.istore 4, 2) := by decide +kernel
theorem dX0_mostWithWant_32 : decode cX0_mostWithWant 32 = .ok (.aload_n 0, 1) := by decide +kernel
theorem dX0_mostWithWant_33 : decode cX0_mostWithWant 33 = .ok (.getfield 18, 3) := by decide +kernel
theorem dX0_mostWithWant_36 : decode cX0_mostWithWant 36 = .ok (.iload_n 1, 1) := by decide +kernel
theorem dX0_mostWithWant_37 : decode cX0_mostWithWant 37 = .ok (.iload_n 3, 1) := by decide +kernel
theorem dX0_mostWithWant_38 : decode cX0_mostWithWant 38 = .ok (.iastore, 1) := by decide +kernel
theorem dX0_mostWithWant_39 : decode cX0_mostWithWant 39 = .ok (.iload 4, 2) := by decide +kernel
theorem dX0_mostWithWant_41 : decode cX0_mostWithWant 41 = .ok (.ireturn, 1) := by decide +kernel
theorem dX0_cutBy_0 : decode cX0_cutBy 0 = .ok (.iconst 0, 1) := by decide +kernel
theorem dX0_cutBy_1 : decode cX0_cutBy 1 = .ok (.istore_n 2, 1) := by decide +kernel
theorem dX0_cutBy_2 : decode cX0_cutBy 2 = .ok (.iconst 0, 1) := by decide +kernel
theorem dX0_cutBy_3 : decode cX0_cutBy 3 = .ok (.istore_n 3, 1) := by decide +kernel
theorem dX0_cutBy_4 : decode cX0_cutBy 4 = .ok (.iconst 0, 1) := by decide +kernel
theorem dX0_cutBy_5 : decode cX0_cutBy 5 = .ok (.istore 4, 2) := by decide +kernel
theorem dX0_cutBy_7 : decode cX0_cutBy 7 = .ok (.iload 4, 2) := by decide +kernel
theorem dX0_cutBy_9 : decode cX0_cutBy 9 = .ok (.aload_n 0, 1) := by decide +kernel
theorem dX0_cutBy_10 : decode cX0_cutBy 10 = .ok (.getfield 33, 3) := by decide +kernel
theorem dX0_cutBy_13 : decode cX0_cutBy 13 = .ok (.if_icmp .ge 41, 3) := by decide +kernel
theorem dX0_cutBy_16 : decode cX0_cutBy 16 = .ok (.iload_n 1, 1) := by decide +kernel
theorem dX0_cutBy_17 : decode cX0_cutBy 17 = .ok (.iload 4, 2) := by decide +kernel
theorem dX0_cutBy_19 : decode cX0_cutBy 19 = .ok (.ishr, 1) := by decide +kernel
theorem dX0_cutBy_20 : decode cX0_cutBy 20 = .ok (.iconst 1, 1) := by decide +kernel
theorem dX0_cutBy_21 : decode cX0_cutBy 21 = .ok (.iand, 1) := by decide +kernel
theorem dX0_cutBy_22 : decode cX0_cutBy 22 = .ok (.ifCond .ne 16, 3) := by decide +kernel
theorem dX0_cutBy_25 : decode cX0_cutBy 25 = .ok (.iload_n 2, 1) := by decide +kernel
theorem dX0_cutBy_26 : decode cX0_cutBy 26 = .ok (.aload_n 0, 1) := by decide +kernel
theorem dX0_cutBy_27 : decode cX0_cutBy 27 = .ok (.getfield 9, 3) := by decide +kernel
theorem dX0_cutBy_30 : decode cX0_cutBy 30 = .ok (.iload 4, 2) := by decide +kernel
theorem dX0_cutBy_32 : decode cX0_cutBy 32 = .ok (.iaload, 1) := by decide +kernel
theorem dX0_cutBy_33 : decode cX0_cutBy 33 = .ok (.iadd, 1) := by decide +kernel
theorem dX0_cutBy_34 : decode cX0_cutBy 34 = .ok (.istore_n 2, 1) := by decide +kernel
theorem dX0_cutBy_35 : decode cX0_cutBy 35 = .ok (.goto 13, 3) := by decide +kernel
theorem dX0_cutBy_38 : decode cX0_cutBy 38 = .ok (.iload_n 3, 1) := by decide +kernel
theorem dX0_cutBy_39 : decode cX0_cutBy 39 = .ok (.aload_n 0, 1) := by decide +kernel
theorem dX0_cutBy_40 : decode cX0_cutBy 40 = .ok (.getfield 15, 3) := by decide +kernel
theorem dX0_cutBy_43 : decode cX0_cutBy 43 = .ok (.iload 4, 2) := by decide +kernel
theorem dX0_cutBy_45 : decode cX0_cutBy 45 = .ok (.iaload, 1) := by decide +kernel
theorem dX0_cutBy_46 : decode cX0_cutBy 46 = .ok (.ior, 1) := by decide +kernel
theorem dX0_cutBy_47 : decode cX0_cutBy 47 = .ok (.istore_n 3, 1) := by decide +kernel
theorem dX0_cutBy_48 : decode cX0_cutBy 48 = .ok (.iinc 4 1, 3) := by decide +kernel
theorem dX0_cutBy_51 : decode cX0_cutBy 51 = .ok (.goto (-44), 3) := by decide +kernel
theorem dX0_cutBy_54 : decode cX0_cutBy 54 = .ok (.iconst 0, 1) := by decide +kernel
theorem dX0_cutBy_55 : decode cX0_cutBy 55 = .ok (.istore 4, 2) := by decide +kernel
theorem dX0_cutBy_57 : decode cX0_cutBy 57 = .ok (.iload 4, 2) := by decide +kernel
theorem dX0_cutBy_59 : decode cX0_cutBy 59 = .ok (.bipush 6, 2) := by decide +kernel
theorem dX0_cutBy_61 : decode cX0_cutBy 61 = .ok (.if_icmp .ge 28, 3) := by decide +kernel
theorem dX0_cutBy_64 : decode cX0_cutBy 64 = .ok (.iload_n 3, 1) := by decide +kernel
theorem dX0_cutBy_65 : decode cX0_cutBy 65 = .ok (.iload 4, 2) := by decide +kernel
theorem dX0_cutBy_67 : decode cX0_cutBy 67 = .ok (.ishr, 1) := by decide +kernel
theorem dX0_cutBy_68 : decode cX0_cutBy 68 = .ok (.iconst 1, 1) := by decide +kernel
theorem dX0_cutBy_69 : decode cX0_cutBy 69 = .ok (.iand, 1) := by decide +kernel
theorem dX0_cutBy_70 : decode cX0_cutBy 70 = .ok (.ifCond .eq 13, 3) := by decide +kernel
theorem dX0_cutBy_73 : decode cX0_cutBy 73 = .ok (.iload_n 2, 1) := by decide +kernel
theorem dX0_cutBy_74 : decode cX0_cutBy 74 = .ok (.aload_n 0, 1) := by decide +kernel
theorem dX0_cutBy_75 : decode cX0_cutBy 75 = .ok (.getfield 18, 3) := by decide +kernel
theorem dX0_cutBy_78 : decode cX0_cutBy 78 = .ok (.iload 4, 2) := by decide +kernel
theorem dX0_cutBy_80 : decode cX0_cutBy 80 = .ok (.iaload, 1) := by decide +kernel
theorem dX0_cutBy_81 : decode cX0_cutBy 81 = .ok (.iadd, 1) := by decide +kernel
theorem dX0_cutBy_82 : decode cX0_cutBy 82 = .ok (.istore_n 2, 1) := by decide +kernel
theorem dX0_cutBy_83 : decode cX0_cutBy 83 = .ok (.iinc 4 1, 3) := by decide +kernel
theorem dX0_cutBy_86 : decode cX0_cutBy 86 = .ok (.goto (-29), 3) := by decide +kernel
theorem dX0_cutBy_89 : decode cX0_cutBy 89 = .ok (.iload_n 2, 1) := by decide +kernel
theorem dX0_cutBy_90 : decode cX0_cutBy 90 = .ok (.ireturn, 1) := by decide +kernel
theorem dX1_init_0 : decode cX1_init 0 = .ok (.aload_n 0, 1) := by decide +kernel
theorem dX1_init_1 : decode cX1_init 1 = .ok (.invokespecial 3, 3) := by decide +kernel
theorem dX1_init_4 : decode cX1_init 4 = .ok (.aload_n 0, 1) := by decide +kernel
theorem dX1_init_5 : decode cX1_init 5 = .ok (.iconst 5, 1) := by decide +kernel
theorem dX1_init_6 : decode cX1_init 6 = .ok (.newarray .int, 2) := by decide +kernel
theorem dX1_init_8 : decode cX1_init 8 = .ok (.putfield 9, 3) := by decide +kernel
theorem dX1_init_11 : decode cX1_init 11 = .ok (.aload_n 0, 1) := by decide +kernel
theorem dX1_init_12 : decode cX1_init 12 = .ok (.iconst 5, 1) := by decide +kernel
theorem dX1_init_13 : decode cX1_init 13 = .ok (.newarray .int, 2) := by decide +kernel
theorem dX1_init_15 : decode cX1_init 15 = .ok (.putfield 15, 3) := by decide +kernel
theorem dX1_init_18 : decode cX1_init 18 = .ok (.aload_n 0, 1) := by decide +kernel
theorem dX1_init_19 : decode cX1_init 19 = .ok (.iconst 5, 1) := by decide +kernel
theorem dX1_init_20 : decode cX1_init 20 = .ok (.newarray .int, 2) := by decide +kernel
theorem dX1_init_22 : decode cX1_init 22 = .ok (.putfield 18, 3) := by decide +kernel
theorem dX1_init_25 : decode cX1_init 25 = .ok (.aload_n 0, 1) := by decide +kernel
theorem dX1_init_26 : decode cX1_init 26 = .ok (.iconst 5, 1) := by decide +kernel
theorem dX1_init_27 : decode cX1_init 27 = .ok (.newarray .int, 2) := by decide +kernel
theorem dX1_init_29 : decode cX1_init 29 = .ok (.putfield 21, 3) := by decide +kernel
theorem dX1_init_32 : decode cX1_init 32 = .ok (.aload_n 0, 1) := by decide +kernel
theorem dX1_init_33 : decode cX1_init 33 = .ok (.bipush 6, 2) := by decide +kernel
theorem dX1_init_35 : decode cX1_init 35 = .ok (.newarray .int, 2) := by decide +kernel
theorem dX1_init_37 : decode cX1_init 37 = .ok (.putfield 24, 3) := by decide +kernel
theorem dX1_init_40 : decode cX1_init 40 = .ok (.aload_n 0, 1) := by decide +kernel
theorem dX1_init_41 : decode cX1_init 41 = .ok (.bipush 6, 2) := by decide +kernel
theorem dX1_init_43 : decode cX1_init 43 = .ok (.newarray .int, 2) := by decide +kernel
theorem dX1_init_45 : decode cX1_init 45 = .ok (.putfield 27, 3) := by decide +kernel
theorem dX1_init_48 : decode cX1_init 48 = .ok (.aload_n 0, 1) := by decide +kernel
theorem dX1_init_49 : decode cX1_init 49 = .ok (.bipush 6, 2) := by decide +kernel
theorem dX1_init_51 : decode cX1_init 51 = .ok (.newarray .int, 2) := by decide +kernel
theorem dX1_init_53 : decode cX1_init 53 = .ok (.putfield 30, 3) := by decide +kernel
theorem dX1_init_56 : decode cX1_init 56 = .ok (.iconst 0, 1) := by decide +kernel
theorem dX1_init_57 : decode cX1_init 57 = .ok (.istore_n 1, 1) := by decide +kernel
theorem dX1_init_58 : decode cX1_init 58 = .ok (.iload_n 1, 1) := by decide +kernel
theorem dX1_init_59 : decode cX1_init 59 = .ok (.bipush 6, 2) := by decide +kernel
theorem dX1_init_61 : decode cX1_init 61 = .ok (.if_icmp .ge 24, 3) := by decide +kernel
theorem dX1_init_64 : decode cX1_init 64 = .ok (.aload_n 0, 1) := by decide +kernel
theorem dX1_init_65 : decode cX1_init 65 = .ok (.getfield 24, 3) := by decide +kernel
theorem dX1_init_68 : decode cX1_init 68 = .ok (.iload_n 1, 1) := by decide +kernel
theorem dX1_init_69 : decode cX1_init 69 = .ok (.bipush 10, 2) := by decide +kernel
theorem dX1_init_71 : decode cX1_init 71 = .ok (.iastore, 1) := by decide +kernel
theorem dX1_init_72 : decode cX1_init 72 = .ok (.aload_n 0, 1) := by decide +kernel
theorem dX1_init_73 : decode cX1_init 73 = .ok (.getfield 27, 3) := by decide +kernel
theorem dX1_init_76 : decode cX1_init 76 = .ok (.iload_n 1, 1) := by decide +kernel
theorem dX1_init_77 : decode cX1_init 77 = .ok (.iload_n 1, 1) := by decide +kernel
theorem dX1_init_78 : decode cX1_init 78 = .ok (.iastore, 1) := by decide +kernel
theorem dX1_init_79 : decode cX1_init 79 = .ok (.iinc 1 1, 3) := by decide +kernel
theorem dX1_init_82 : decode cX1_init 82 = .ok (.goto (-24), 3) := by decide +kernel
theorem dX1_init_85 : decode cX1_init 85 = .ok (.return_, 1) := by decide +kernel
theorem dX1_takeFrom_0 : decode cX1_takeFrom 0 = .ok (.aload_n 0, 1) := by decide +kernel
theorem dX1_takeFrom_1 : decode cX1_takeFrom 1 = .ok (.aload_n 1, 1) := by decide +kernel
theorem dX1_takeFrom_2 : decode cX1_takeFrom 2 = .ok (.getfield 33, 3) := by decide +kernel
theorem dX1_takeFrom_5 : decode cX1_takeFrom 5 = .ok (.putfield 33, 3) := by decide +kernel
theorem dX1_takeFrom_8 : decode cX1_takeFrom 8 = .ok (.aload_n 0, 1) := by decide +kernel
theorem dX1_takeFrom_9 : decode cX1_takeFrom 9 = .ok (.aload_n 1, 1) := by decide +kernel
theorem dX1_takeFrom_10 : decode cX1_takeFrom 10 = .ok (.getfield 37, 3) := by decide +kernel
theorem dX1_takeFrom_13 : decode cX1_takeFrom 13 = .ok (.putfield 37, 3) := by decide +kernel
theorem dX1_takeFrom_16 : decode cX1_takeFrom 16 = .ok (.aload_n 0, 1) := by decide +kernel
theorem dX1_takeFrom_17 : decode cX1_takeFrom 17 = .ok (.aload_n 1, 1) := by decide +kernel
theorem dX1_takeFrom_18 : decode cX1_takeFrom 18 = .ok (.getfield 40, 3) := by decide +kernel
theorem dX1_takeFrom_21 : decode cX1_takeFrom 21 = .ok (.putfield 40, 3) := by decide +kernel
theorem dX1_takeFrom_24 : decode cX1_takeFrom 24 = .ok (.aload_n 0, 1) := by decide +kernel
theorem dX1_takeFrom_25 : decode cX1_takeFrom 25 = .ok (.aload_n 1, 1) := by decide +kernel
theorem dX1_takeFrom_26 : decode cX1_takeFrom 26 = .ok (.getfield 43, 3) := by decide +kernel
theorem dX1_takeFrom_29 : decode cX1_takeFrom 29 = .ok (.putfield 43, 3) := by decide +kernel
theorem dX1_takeFrom_32 : decode cX1_takeFrom 32 = .ok (.aload_n 1, 1) := by decide +kernel
theorem dX1_takeFrom_33 : decode cX1_takeFrom 33 = .ok (.getfield 9, 3) := by decide +kernel
theorem dX1_takeFrom_36 : decode cX1_takeFrom 36 = .ok (.iconst 0, 1) := by decide +kernel
theorem dX1_takeFrom_37 : decode cX1_takeFrom 37 = .ok (.aload_n 0, 1) := by decide +kernel
theorem dX1_takeFrom_38 : decode cX1_takeFrom 38 = .ok (.getfield 9, 3) := by decide +kernel
theorem dX1_takeFrom_41 : decode cX1_takeFrom 41 = .ok (.iconst 0, 1) := by decide +kernel
theorem dX1_takeFrom_42 : decode cX1_takeFrom 42 = .ok (.iconst 5, 1) := by decide +kernel
theorem dX1_takeFrom_43 : decode cX1_takeFrom 43 = .ok (.invokestatic 46, 3) := by decide +kernel
theorem dX1_takeFrom_46 : decode cX1_takeFrom 46 = .ok (.aload_n 1, 1) := by decide +kernel
theorem dX1_takeFrom_47 : decode cX1_takeFrom 47 = .ok (.getfield 15, 3) := by decide +kernel
theorem dX1_takeFrom_50 : decode cX1_takeFrom 50 = .ok (.iconst 0, 1) := by decide +kernel
theorem dX1_takeFrom_51 : decode cX1_takeFrom 51 = .ok (.aload_n 0, 1) := by decide +kernel
theorem dX1_takeFrom_52 : decode cX1_takeFrom 52 = .ok (.getfield 15, 3) := by decide +kernel
theorem dX1_takeFrom_55 : decode cX1_takeFrom 55 = .ok (.iconst 0, 1) := by decide +kernel
theorem dX1_takeFrom_56 : decode cX1_takeFrom 56 = .ok (.iconst 5, 1) := by decide +kernel
theorem dX1_takeFrom_57 : decode cX1_takeFrom 57 = .ok (.invokestatic 46, 3) := by decide +kernel
theorem dX1_takeFrom_60 : decode cX1_takeFrom 60 = .ok (.aload_n 1, 1) := by decide +kernel
theorem dX1_takeFrom_61 : decode cX1_takeFrom 61 = .ok (.getfield 18, 3) := by decide +kernel
theorem dX1_takeFrom_64 : decode cX1_takeFrom 64 = .ok (.iconst 0, 1) := by decide +kernel
theorem dX1_takeFrom_65 : decode cX1_takeFrom 65 = .ok (.aload_n 0, 1) := by decide +kernel
theorem dX1_takeFrom_66 : decode cX1_takeFrom 66 = .ok (.getfield 18, 3) := by decide +kernel
theorem dX1_takeFrom_69 : decode cX1_takeFrom 69 = .ok (.iconst 0, 1) := by decide +kernel
theorem dX1_takeFrom_70 : decode cX1_takeFrom 70 = .ok (.iconst 5, 1) := by decide +kernel
theorem dX1_takeFrom_71 : decode cX1_takeFrom 71 = .ok (.invokestatic 46, 3) := by decide +kernel
theorem dX1_takeFrom_74 : decode cX1_takeFrom 74 = .ok (.aload_n 1, 1) := by decide +kernel
theorem dX1_takeFrom_75 : decode cX1_takeFrom 75 = .ok (.getfield 21, 3) := by decide +kernel
theorem dX1_takeFrom_78 : decode cX1_takeFrom 78 = .ok (.iconst 0, 1) := by decide +kernel
theorem dX1_takeFrom_79 : decode cX1_takeFrom 79 = .ok (.aload_n 0, 1) := by decide +kernel
theorem dX1_takeFrom_80 : decode cX1_takeFrom 80 = .ok (.getfield 21, 3) := by decide +kernel
theorem dX1_takeFrom_83 : decode cX1_takeFrom 83 = .ok (.iconst 0, 1) := by decide +kernel
theorem dX1_takeFrom_84 : decode cX1_takeFrom 84 = .ok (.iconst 5, 1) := by decide +kernel
theorem dX1_takeFrom_85 : decode cX1_takeFrom 85 = .ok (.invokestatic 46, 3) := by decide +kernel
theorem dX1_takeFrom_88 : decode cX1_takeFrom 88 = .ok (.aload_n 1, 1) := by decide +kernel
theorem dX1_takeFrom_89 : decode cX1_takeFrom 89 = .ok (.getfield 24, 3) := by decide +kernel
theorem dX1_takeFrom_92 : decode cX1_takeFrom 92 = .ok (.iconst 0, 1) := by decide +kernel
theorem dX1_takeFrom_93 : decode cX1_takeFrom 93 = .ok (.aload_n 0, 1) := by decide +kernel
theorem dX1_takeFrom_94 : decode cX1_takeFrom 94 = .ok (.getfield 24, 3) := by decide +kernel
theorem dX1_takeFrom_97 : decode cX1_takeFrom 97 = .ok (.iconst 0, 1) := by decide +kernel
theorem dX1_takeFrom_98 : decode cX1_takeFrom 98 = .ok (.bipush 6, 2) := by decide +kernel
theorem dX1_takeFrom_100 : decode cX1_takeFrom 100 = .ok (.invokestatic 46, 3) := by decide +kernel
theorem dX1_takeFrom_103 : decode cX1_takeFrom 103 = .ok (.aload_n 1, 1) := by decide +kernel
theorem dX1_takeFrom_104 : decode cX1_takeFrom 104 = .ok (.getfield 27, 3) := by decide +kernel
theorem dX1_takeFrom_107 : decode cX1_takeFrom 107 = .ok (.iconst 0, 1) := by decide +kernel
theorem dX1_takeFrom_108 : decode cX1_takeFrom 108 = .ok (.aload_n 0, 1) := by decide +kernel
theorem dX1_takeFrom_109 : decode cX1_takeFrom 109 = .ok (.getfield 27, 3) := by decide +kernel
theorem dX1_takeFrom_112 : decode cX1_takeFrom 112 = .ok (.iconst 0, 1) := by decide +kernel
theorem dX1_takeFrom_113 : decode cX1_takeFrom 113 = .ok (.bipush 6, 2) := by decide +kernel
theorem dX1_takeFrom_115 : decode cX1_takeFrom 115 = .ok (.invokestatic 46, 3) := by decide +kernel
theorem dX1_takeFrom_118 : decode cX1_takeFrom 118 = .ok (.aload_n 1, 1) := by decide +kernel
theorem dX1_takeFrom_119 : decode cX1_takeFrom 119 = .ok (.getfield 30, 3) := by decide +kernel
theorem dX1_takeFrom_122 : decode cX1_takeFrom 122 = .ok (.iconst 0, 1) := by decide +kernel
theorem dX1_takeFrom_123 : decode cX1_takeFrom 123 = .ok (.aload_n 0, 1) := by decide +kernel
theorem dX1_takeFrom_124 : decode cX1_takeFrom 124 = .ok (.getfield 30, 3) := by decide +kernel
theorem dX1_takeFrom_127 : decode cX1_takeFrom 127 = .ok (.iconst 0, 1) := by decide +kernel
theorem dX1_takeFrom_128 : decode cX1_takeFrom 128 = .ok (.bipush 6, 2) := by decide +kernel
theorem dX1_takeFrom_130 : decode cX1_takeFrom 130 = .ok (.invokestatic 46, 3) := by decide +kernel
theorem dX1_takeFrom_133 : decode cX1_takeFrom 133 = .ok (.return_, 1) := by decide +kernel
theorem dX1_lodges_0 : decode cX1_lodges 0 = .ok (.iload_n 1, 1) := by decide +kernel
theorem dX1_lodges_1 : decode cX1_lodges 1 = .ok (.ifCond .lt 15, 3) := by decide +kernel
theorem dX1_lodges_4 : decode cX1_lodges 4 = .ok (.iload_n 1, 1) := by decide +kernel
theorem dX1_lodges_5 : decode cX1_lodges 5 = .ok (.aload_n 0, 1) := by decide +kernel
theorem dX1_lodges_6 : decode cX1_lodges 6 = .ok (.getfield 43, 3) := by decide +kernel
theorem dX1_lodges_9 : decode cX1_lodges 9 = .ok (.if_icmp .ge 7, 3) := by decide +kernel
theorem dX1_lodges_12 : decode cX1_lodges 12 = .ok (.iconst 1, 1) := by decide +kernel
theorem dX1_lodges_13 : decode cX1_lodges 13 = .ok (.goto 4, 3) := by decide +kernel
theorem dX1_lodges_16 : decode cX1_lodges 16 = .ok (.iconst 0, 1) := by decide +kernel
theorem dX1_lodges_17 : decode cX1_lodges 17 = .ok (.ireturn, 1) := by decide +kernel
set_option maxRecDepth 20000 in
theorem ggX1_hasPlace_X1_lodges : GoodIn wsX1_hasPlace wsX1_lodges := goodIn_r _ [5, 6, 10, 11, 12, 13, 14, 15, 16, 17, 18, 19, 20] (by decide +kernel) (by decide +kernel)
set_option maxRecDepth 20000 in
theorem gX1_hasPlace_X1_lodges : GoodIn wsX1_hasPlace (wsV RX1 52 RX1 yX1_lodges wsX1_lodges) := goodIn_app (goodIn_of _ (by decide +kernel)) ggX1_hasPlace_X1_lodges
set_option maxRecDepth 20000 in
theorem ggX1_hasPlace_X8_isCup : GoodIn wsX1_hasPlace wsX8_isCup := goodIn_r _ [9] (by decide +kernel) (by decide +kernel)
set_option maxRecDepth 20000 in
theorem gX1_hasPlace_X8_isCup_n56 : GoodIn wsX1_hasPlace (wsX8_isCup) := ggX1_hasPlace_X8_isCup
theorem dX1_hasPlace_0 : decode cX1_hasPlace 0 = .ok (.iload_n 1, 1) := by decide +kernel
theorem dX1_hasPlace_1 : decode cX1_hasPlace 1 = .ok (.tableswitch 76 0 11 #[63, 63, 65, 65, 65, 71, 71, 65, 76, 76, 71, 63], 63) := by decide +kernel
theorem dX1_hasPlace_64 : decode cX1_hasPlace 64 = .ok (.iconst 1, 1) := by decide +kernel
theorem dX1_hasPlace_65 : decode cX1_hasPlace 65 = .ok (.ireturn, 1) := by decide +kernel
theorem dX1_hasPlace_66 : decode cX1_hasPlace 66 = .ok (.aload_n 0, 1) := by decide +kernel
theorem dX1_hasPlace_67 : decode cX1_hasPlace 67 = .ok (.iload_n 2, 1) := by decide +kernel
theorem dX1_hasPlace_68 : decode cX1_hasPlace 68 = .ok (.invokevirtual 52, 3) := by decide +kernel
theorem dX1_hasPlace_71 : decode cX1_hasPlace 71 = .ok (.ireturn, 1) := by decide +kernel
theorem dX1_hasPlace_72 : decode cX1_hasPlace 72 = .ok (.iload_n 2, 1) := by decide +kernel
theorem dX1_hasPlace_73 : decode cX1_hasPlace 73 = .ok (.invokestatic 56, 3) := by decide +kernel
theorem dX1_hasPlace_76 : decode cX1_hasPlace 76 = .ok (.ireturn, 1) := by decide +kernel
theorem dX1_hasPlace_77 : decode cX1_hasPlace 77 = .ok (.iconst 0, 1) := by decide +kernel
theorem dX1_hasPlace_78 : decode cX1_hasPlace 78 = .ok (.ireturn, 1) := by decide +kernel
set_option maxRecDepth 20000 in
theorem ggX1_read_X1_hasPlace : GoodIn wsX1_read wsX1_hasPlace := goodIn_r _ [15, 16, 17, 18, 14, 19, 20, 21, 22, 23, 24, 25, 26, 27, 28, 29, 30, 31, 32, 33, 34] (by decide +kernel) (by decide +kernel)
set_option maxRecDepth 20000 in
theorem gX1_read_X1_hasPlace : GoodIn wsX1_read (wsV RX1 59 RX1 yX1_hasPlace wsX1_hasPlace) := goodIn_app (goodIn_of _ (by decide +kernel)) ggX1_read_X1_hasPlace
theorem dX1_read_0 : decode cX1_read 0 = .ok (.aload_n 0, 1) := by decide +kernel
theorem dX1_read_1 : decode cX1_read 1 = .ok (.iload_n 1, 1) := by decide +kernel
theorem dX1_read_2 : decode cX1_read 2 = .ok (.iload_n 2, 1) := by decide +kernel
theorem dX1_read_3 : decode cX1_read 3 = .ok (.invokevirtual 59, 3) := by decide +kernel
theorem dX1_read_6 : decode cX1_read 6 = .ok (.ifCond .ne 6, 3) := by decide +kernel
theorem dX1_read_9 : decode cX1_read 9 = .ok (.bipush (-2), 2) := by decide +kernel
theorem dX1_read_11 : decode cX1_read 11 = .ok (.ireturn, 1) := by decide +kernel
theorem dX1_read_12 : decode cX1_read 12 = .ok (.iload_n 1, 1) := by decide +kernel
theorem dX1_read_13 : decode cX1_read 13 = .ok (.tableswitch 118 0 10 #[59, 64, 69, 76, 83, 90, 97, 104, 118, 118, 111], 59) := by decide +kernel
theorem dX1_read_72 : decode cX1_read 72 = .ok (.aload_n 0, 1) := by decide +kernel
theorem dX1_read_73 : decode cX1_read 73 = .ok (.getfield 33, 3) := by decide +kernel
theorem dX1_read_76 : decode cX1_read 76 = .ok (.ireturn, 1) := by decide +kernel
theorem dX1_read_77 : decode cX1_read 77 = .ok (.aload_n 0, 1) := by decide +kernel
theorem dX1_read_78 : decode cX1_read 78 = .ok (.getfield 37, 3) := by decide +kernel
theorem dX1_read_81 : decode cX1_read 81 = .ok (.ireturn, 1) := by decide +kernel
theorem dX1_read_82 : decode cX1_read 82 = .ok (.aload_n 0, 1) := by decide +kernel
theorem dX1_read_83 : decode cX1_read 83 = .ok (.getfield 15, 3) := by decide +kernel
theorem dX1_read_86 : decode cX1_read 86 = .ok (.iload_n 2, 1) := by decide +kernel
theorem dX1_read_87 : decode cX1_read 87 = .ok (.iaload, 1) := by decide +kernel
theorem dX1_read_88 : decode cX1_read 88 = .ok (.ireturn, 1) := by decide +kernel
theorem dX1_read_89 : decode cX1_read 89 = .ok (.aload_n 0, 1) := by decide +kernel
theorem dX1_read_90 : decode cX1_read 90 = .ok (.getfield 18, 3) := by decide +kernel
theorem dX1_read_93 : decode cX1_read 93 = .ok (.iload_n 2, 1) := by decide +kernel
theorem dX1_read_94 : decode cX1_read 94 = .ok (.iaload, 1) := by decide +kernel
theorem dX1_read_95 : decode cX1_read 95 = .ok (.ireturn, 1) := by decide +kernel
theorem dX1_read_96 : decode cX1_read 96 = .ok (.aload_n 0, 1) := by decide +kernel
theorem dX1_read_97 : decode cX1_read 97 = .ok (.getfield 21, 3) := by decide +kernel
theorem dX1_read_100 : decode cX1_read 100 = .ok (.iload_n 2, 1) := by decide +kernel
theorem dX1_read_101 : decode cX1_read 101 = .ok (.iaload, 1) := by decide +kernel
theorem dX1_read_102 : decode cX1_read 102 = .ok (.ireturn, 1) := by decide +kernel
theorem dX1_read_103 : decode cX1_read 103 = .ok (.aload_n 0, 1) := by decide +kernel
theorem dX1_read_104 : decode cX1_read 104 = .ok (.getfield 24, 3) := by decide +kernel
theorem dX1_read_107 : decode cX1_read 107 = .ok (.iload_n 2, 1) := by decide +kernel
theorem dX1_read_108 : decode cX1_read 108 = .ok (.iaload, 1) := by decide +kernel
theorem dX1_read_109 : decode cX1_read 109 = .ok (.ireturn, 1) := by decide +kernel
theorem dX1_read_110 : decode cX1_read 110 = .ok (.aload_n 0, 1) := by decide +kernel
theorem dX1_read_111 : decode cX1_read 111 = .ok (.getfield 27, 3) := by decide +kernel
theorem dX1_read_114 : decode cX1_read 114 = .ok (.iload_n 2, 1) := by decide +kernel
theorem dX1_read_115 : decode cX1_read 115 = .ok (.iaload, 1) := by decide +kernel
theorem dX1_read_116 : decode cX1_read 116 = .ok (.ireturn, 1) := by decide +kernel
theorem dX1_read_117 : decode cX1_read 117 = .ok (.aload_n 0, 1) := by decide +kernel
theorem dX1_read_118 : decode cX1_read 118 = .ok (.getfield 9, 3) := by decide +kernel
theorem dX1_read_121 : decode cX1_read 121 = .ok (.iload_n 2, 1) := by decide +kernel
theorem dX1_read_122 : decode cX1_read 122 = .ok (.iaload, 1) := by decide +kernel
theorem dX1_read_123 : decode cX1_read 123 = .ok (.ireturn, 1) := by decide +kernel
theorem dX1_read_124 : decode cX1_read 124 = .ok (.aload_n 0, 1) := by decide +kernel
theorem dX1_read_125 : decode cX1_read 125 = .ok (.getfield 30, 3) := by decide +kernel
theorem dX1_read_128 : decode cX1_read 128 = .ok (.iload_n 2, 1) := by decide +kernel
theorem dX1_read_129 : decode cX1_read 129 = .ok (.iaload, 1) := by decide +kernel
theorem dX1_read_130 : decode cX1_read 130 = .ok (.ireturn, 1) := by decide +kernel
theorem dX1_read_131 : decode cX1_read 131 = .ok (.aload_n 0, 1) := by decide +kernel
theorem dX1_read_132 : decode cX1_read 132 = .ok (.getfield 40, 3) := by decide +kernel
theorem dX1_read_135 : decode cX1_read 135 = .ok (.ireturn, 1) := by decide +kernel
set_option maxRecDepth 20000 in
theorem ggX1_write_X1_hasPlace : GoodIn wsX1_write wsX1_hasPlace := goodIn_r _ [15, 16, 17, 18, 14, 19, 20, 21, 22, 23, 24, 25, 26, 27, 28, 29, 30, 31, 32, 33, 34] (by decide +kernel) (by decide +kernel)
set_option maxRecDepth 20000 in
theorem gX1_write_X1_hasPlace : GoodIn wsX1_write (wsV RX1 59 RX1 yX1_hasPlace wsX1_hasPlace) := goodIn_app (goodIn_of _ (by decide +kernel)) ggX1_write_X1_hasPlace
theorem dX1_write_0 : decode cX1_write 0 = .ok (.aload_n 0, 1) := by decide +kernel
theorem dX1_write_1 : decode cX1_write 1 = .ok (.iload_n 1, 1) := by decide +kernel
theorem dX1_write_2 : decode cX1_write 2 = .ok (.iload_n 2, 1) := by decide +kernel
theorem dX1_write_3 : decode cX1_write 3 = .ok (.invokevirtual 59, 3) := by decide +kernel
theorem dX1_write_6 : decode cX1_write 6 = .ok (.ifCond .ne 4, 3) := by decide +kernel
theorem dX1_write_9 : decode cX1_write 9 = .ok (.return_, 1) := by decide +kernel
theorem dX1_write_10 : decode cX1_write 10 = .ok (.iload_n 1, 1) := by decide +kernel
