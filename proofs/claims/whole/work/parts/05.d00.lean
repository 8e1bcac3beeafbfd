theorem dX0_init_0 : decode cX0_init 0 = .ok (.aload_n 0, 1) := by decide +kernel
theorem dX0_init_1 : decode cX0_init 1 = .ok (.invokespecial 3, 3) := by decide +kernel
theorem dX0_init_4 : decode cX0_init 4 = .ok (.aload_n 0, 1) := by decide +kernel
theorem dX0_init_5 : decode cX0_init 5 = .ok (.iconst 5, 1) := by decide +kernel
theorem dX0_init_6 : decode cX0_init 6 = .ok (.newarray .int, 2) := by decide +kernel
theorem dX0_init_8 : decode cX0_init 8 = .ok (.putfield 9, 3) := by decide +kernel
theorem dX0_init_11 : decode cX0_init 11 = .ok (.aload_n 0, 1) := by decide +kernel
theorem dX0_init_12 : decode cX0_init 12 = .ok (.iconst 5, 1) := by decide +kernel
theorem dX0_init_13 : decode cX0_init 13 = .ok (.newarray .int, 2) := by decide +kernel
theorem dX0_init_15 : decode cX0_init 15 = .ok (.putfield 15, 3) := by decide +kernel
theorem dX0_init_18 : decode cX0_init 18 = .ok (.aload_n 0, 1) := by decide +kernel
theorem dX0_init_19 : decode cX0_init 19 = .ok (.bipush 6, 2) := by decide +kernel
theorem dX0_init_21 : decode cX0_init 21 = .ok (.newarray .int, 2) := by decide +kernel
theorem dX0_init_23 : decode cX0_init 23 = .ok (.putfield 18, 3) := by decide +kernel
theorem dX0_init_26 : decode cX0_init 26 = .ok (.return_, 1) := by decide +kernel
theorem dX0_measure_0 : decode cX0_measure 0 = .ok (.aload_n 0, 1) := by decide +kernel
theorem dX0_measure_1 : decode cX0_measure 1 = .ok (.aload_n 2, 1) := by decide +kernel
theorem dX0_measure_2 : decode cX0_measure 2 = .ok (.getfield 21, 3) := by decide +kernel
theorem dX0_measure_5 : decode cX0_measure 5 = .ok (.iconst 5, 1) := by decide +kernel
theorem dX0_measure_6 : decode cX0_measure 6 = .ok (.invokestatic 27, 3) := by decide +kernel
theorem dX0_measure_9 : decode cX0_measure 9 = .ok (.putfield 33, 3) := by decide +kernel
theorem dX0_measure_12 : decode cX0_measure 12 = .ok (.iconst 0, 1) := by decide +kernel
theorem dX0_measure_13 : decode cX0_measure 13 = .ok (.istore_n 3, 1) := by decide +kernel
theorem dX0_measure_14 : decode cX0_measure 14 = .ok (.iload_n 3, 1) := by decide +kernel
theorem dX0_measure_15 : decode cX0_measure 15 = .ok (.aload_n 0, 1) := by decide +kernel
theorem dX0_measure_16 : decode cX0_measure 16 = .ok (.getfield 33, 3) := by decide +kernel
theorem dX0_measure_19 : decode cX0_measure 19 = .ok (.if_icmp .ge 33, 3) := by decide +kernel
theorem dX0_measure_22 : decode cX0_measure 22 = .ok (.aload_n 0, 1) := by decide +kernel
theorem dX0_measure_23 : decode cX0_measure 23 = .ok (.getfield 9, 3) := by decide +kernel
theorem dX0_measure_26 : decode cX0_measure 26 = .ok (.iload_n 3, 1) := by decide +kernel
theorem dX0_measure_27 : decode cX0_measure 27 = .ok (.aload_n 1, 1) := by decide +kernel
theorem dX0_measure_28 : decode cX0_measure 28 = .ok (.aload_n 2, 1) := by decide +kernel
theorem dX0_measure_29 : decode cX0_measure 29 = .ok (.iload_n 3, 1) := by decide +kernel
theorem dX0_measure_30 : decode cX0_measure 30 = .ok (.invokevirtual 34, 3) := by decide +kernel
theorem dX0_measure_33 : decode cX0_measure 33 = .ok (.iastore, 1) := by decide +kernel
theorem dX0_measure_34 : decode cX0_measure 34 = .ok (.aload_n 0, 1) := by decide +kernel
theorem dX0_measure_35 : decode cX0_measure 35 = .ok (.getfield 15, 3) := by decide +kernel
theorem dX0_measure_38 : decode cX0_measure 38 = .ok (.iload_n 3, 1) := by decide +kernel
theorem dX0_measure_39 : decode cX0_measure 39 = .ok (.aload_n 1, 1) := by decide +kernel
theorem dX0_measure_40 : decode cX0_measure 40 = .ok (.aload_n 2, 1) := by decide +kernel
theorem dX0_measure_41 : decode cX0_measure 41 = .ok (.iload_n 3, 1) := by decide +kernel
theorem dX0_measure_42 : decode cX0_measure 42 = .ok (.invokevirtual 40, 3) := by decide +kernel
theorem dX0_measure_45 : decode cX0_measure 45 = .ok (.iastore, 1) := by decide +kernel
theorem dX0_measure_46 : decode cX0_measure 46 = .ok (.iinc 3 1, 3) := by decide +kernel
theorem dX0_measure_49 : decode cX0_measure 49 = .ok (.goto (-35), 3) := by decide +kernel
theorem dX0_measure_52 : decode cX0_measure 52 = .ok (.aload_n 2, 1) := by decide +kernel
theorem dX0_measure_53 : decode cX0_measure 53 = .ok (.getfield 43, 3) := by decide +kernel
theorem dX0_measure_56 : decode cX0_measure 56 = .ok (.iconst 0, 1) := by decide +kernel
theorem dX0_measure_57 : decode cX0_measure 57 = .ok (.aload_n 0, 1) := by decide +kernel
theorem dX0_measure_58 : decode cX0_measure 58 = .ok (.getfield 18, 3) := by decide +kernel
theorem dX0_measure_61 : decode cX0_measure 61 = .ok (.iconst 0, 1) := by decide +kernel
theorem dX0_measure_62 : decode cX0_measure 62 = .ok (.bipush 6, 2) := by decide +kernel
theorem dX0_measure_64 : decode cX0_measure 64 = .ok (.invokestatic 46, 3) := by decide +kernel
theorem dX0_measure_67 : decode cX0_measure 67 = .ok (.return_, 1) := by decide +kernel
theorem dX0_most_0 : decode cX0_most 0 = .ok (.aload_n 0, 1) := by decide +kernel
theorem dX0_most_1 : decode cX0_most 1 = .ok (.iconst 0, 1) := by decide +kernel
theorem dX0_most_2 : decode cX0_most 2 = .ok (.invokevirtual 52, 3) := by decide +kernel
theorem dX0_most_5 : decode cX0_most 5 = .ok (.istore_n 1, 1) := by decide +kernel
theorem dX0_most_6 : decode cX0_most 6 = .ok (.iconst 1, 1) := by decide +kernel
theorem dX0_most_7 : decode cX0_most 7 = .ok (.istore_n 2, 1) := by decide +kernel
theorem dX0_most_8 : decode cX0_most 8 = .ok (.iload_n 2, 1) := by decide +kernel
theorem dX0_most_9 : decode cX0_most 9 = .ok (.iconst 1, 1) := by decide +kernel
theorem dX0_most_10 : decode cX0_most 10 = .ok (.aload_n 0, 1) := by decide +kernel
theorem dX0_most_11 : decode cX0_most 11 = .ok (.getfield 33, 3) := by decide +kernel
theorem dX0_most_14 : decode cX0_most 14 = .ok (.ishl, 1) := by decide +kernel
theorem dX0_most_15 : decode cX0_most 15 = .ok (.if_icmp .ge 19, 3) := by decide +kernel
theorem dX0_most_18 : decode cX0_most 18 = .ok (.iload_n 1, 1) := by decide +kernel
theorem dX0_most_19 : decode cX0_most 19 = .ok (.aload_n 0, 1) := by decide +kernel
theorem dX0_most_20 : decode cX0_most 20 = .ok (.iload_n 2, 1) := by decide +kernel
theorem dX0_most_21 : decode cX0_most 21 = .ok (.invokevirtual 52, 3) := by decide +kernel
theorem dX0_most_24 : decode cX0_most 24 = .ok (.invokestatic 27, 3) := by decide +kernel
theorem dX0_most_27 : decode cX0_most 27 = .ok (.istore_n 1, 1) := by decide +kernel
theorem dX0_most_28 : decode cX0_most 28 = .ok (.iinc 2 1, 3) := by decide +kernel
theorem dX0_most_31 : decode cX0_most 31 = .ok (.goto (-23), 3) := by decide +kernel
theorem dX0_most_34 : decode cX0_most 34 = .ok (.iload_n 1, 1) := by decide +kernel
theorem dX0_most_35 : decode cX0_most 35 = .ok (.ireturn, 1) := by decide +kernel
theorem dX0_leastCut_0 : decode cX0_leastCut 0 = .ok (.aload_n 0, 1) := by decide +kernel
theorem dX0_leastCut_1 : decode cX0_leastCut 1 = .ok (.invokevirtual 56, 3) := by decide +kernel
theorem dX0_leastCut_4 : decode cX0_leastCut 4 = .ok (.istore_n 1, 1) := by decide +kernel
theorem dX0_leastCut_5 : decode cX0_leastCut 5 = .ok (.iconst 0, 1) := by decide +kernel
theorem dX0_leastCut_6 : decode cX0_leastCut 6 = .ok (.istore_n 2, 1) := by decide +kernel
theorem dX0_leastCut_7 : decode cX0_leastCut 7 = .ok (.iload_n 2, 1) := by decide +kernel
theorem dX0_leastCut_8 : decode cX0_leastCut 8 = .ok (.iconst 1, 1) := by decide +kernel
theorem dX0_leastCut_9 : decode cX0_leastCut 9 = .ok (.aload_n 0, 1) := by decide +kernel
theorem dX0_leastCut_10 : decode cX0_leastCut 10 = .ok (.getfield 33, 3) := by decide +kernel
theorem dX0_leastCut_13 : decode cX0_leastCut 13 = .ok (.ishl, 1) := by decide +kernel
theorem dX0_leastCut_14 : decode cX0_leastCut 14 = .ok (.if_icmp .ge 20, 3) := by decide +kernel
theorem dX0_leastCut_17 : decode cX0_leastCut 17 = .ok (.aload_n 0, 1) := by decide +kernel
theorem dX0_leastCut_18 : decode cX0_leastCut 18 = .ok (.iload_n 2, 1) := by decide +kernel
theorem dX0_leastCut_19 : decode cX0_leastCut 19 = .ok (.invokevirtual 52, 3) := by decide +kernel
theorem dX0_leastCut_22 : decode cX0_leastCut 22 = .ok (.iload_n 1, 1) := by decide +kernel
theorem dX0_leastCut_23 : decode cX0_leastCut 23 = .ok (.if_icmp .ne 5, 3) := by decide +kernel
theorem dX0_leastCut_26 : decode cX0_leastCut 26 = .ok (.iload_n 2, 1) := by decide +kernel
theorem dX0_leastCut_27 : decode cX0_leastCut 27 = .ok (.ireturn, 1) := by decide +kernel
theorem dX0_leastCut_28 : decode cX0_leastCut 28 = .ok (.iinc 2 1, 3) := by decide +kernel
theorem dX0_leastCut_31 : decode cX0_leastCut 31 = .ok (.goto (-24), 3) := by decide +kernel
theorem dX0_leastCut_34 : decode cX0_leastCut 34 = .ok (.iconst 0, 1) := by decide +kernel
theorem dX0_leastCut_35 : decode cX0_leastCut 35 = .ok (.ireturn, 1) := by decide +kernel
theorem dX0_starved_0 : decode cX0_starved 0 = .ok (.iconst 0, 1) := by decide +kernel
theorem dX0_starved_1 : decode cX0_starved 1 = .ok (.istore_n 1, 1) := by decide +kernel
theorem dX0_starved_2 : decode cX0_starved 2 = .ok (.iconst 0, 1) := by decide +kernel
theorem dX0_starved_3 : decode cX0_starved 3 = .ok (.istore_n 2, 1) := by decide +kernel
theorem dX0_starved_4 : decode cX0_starved 4 = .ok (.iload_n 2, 1) := by decide +kernel
theorem dX0_starved_5 : decode cX0_starved 5 = .ok (.aload_n 0, 1) := by decide +kernel
theorem dX0_starved_6 : decode cX0_starved 6 = .ok (.getfield 33, 3) := by decide +kernel
theorem dX0_starved_9 : decode cX0_starved 9 = .ok (.if_icmp .ge 27, 3) := by decide +kernel
theorem dX0_starved_12 : decode cX0_starved 12 = .ok (.aload_n 0, 1) := by decide +kernel
theorem dX0_starved_13 : decode cX0_starved 13 = .ok (.getfield 9, 3) := by decide +kernel
theorem dX0_starved_16 : decode cX0_starved 16 = .ok (.iload_n 2, 1) := by decide +kernel
theorem dX0_starved_17 : decode cX0_starved 17 = .ok (.iaload, 1) := by decide +kernel
theorem dX0_starved_18 : decode cX0_starved 18 = .ok (.ifCond .le 12, 3) := by decide +kernel
theorem dX0_starved_21 : decode cX0_starved 21 = .ok (.iload_n 1, 1) := by decide +kernel
theorem dX0_starved_22 : decode cX0_starved 22 = .ok (.aload_n 0, 1) := by decide +kernel
theorem dX0_starved_23 : decode cX0_starved 23 = .ok (.getfield 15, 3) := by decide +kernel
theorem dX0_starved_26 : decode cX0_starved 26 = .ok (.iload_n 2, 1) := by decide +kernel
theorem dX0_starved_27 : decode cX0_starved 27 = .ok (.iaload, 1) := by decide +kernel
theorem dX0_starved_28 : decode cX0_starved 28 = .ok (.ior, 1) := by decide +kernel
theorem dX0_starved_29 : decode cX0_starved 29 = .ok (.istore_n 1, 1) := by decide +kernel
theorem dX0_starved_30 : decode cX0_starved 30 = .ok (.iinc 2 1, 3) := by decide +kernel
theorem dX0_starved_33 : decode cX0_starved 33 = .ok (.goto (-29), 3) := by decide +kernel
theorem dX0_starved_36 : decode cX0_starved 36 = .ok (.bipush 63, 2) := by decide +kernel
theorem dX0_starved_38 : decode cX0_starved 38 = .ok (.iload_n 1, 1) := by decide +kernel
theorem dX0_starved_39 : decode cX0_starved 39 = .ok (.iconst (-1), 1) := by decide +kernel
theorem dX0_starved_40 : decode cX0_starved 40 = .ok (.ixor, 1) := by decide +kernel
theorem dX0_starved_41 : decode cX0_starved 41 = .ok (.iand, 1) := by decide +kernel
theorem dX0_starved_42 : decode cX0_starved 42 = .ok (.ireturn, 1) := by decide +kernel
theorem dX0_leastLost_0 : decode cX0_leastLost 0 = .ok (.iconst (-1), 1) := by decide +kernel
theorem dX0_leastLost_1 : decode cX0_leastLost 1 = .ok (.istore_n 1, 1) := by decide +kernel
theorem dX0_leastLost_2 : decode cX0_leastLost 2 = .ok (.iconst (-1), 1) := by decide +kernel
theorem dX0_leastLost_3 : decode cX0_leastLost 3 = .ok (.istore_n 2, 1) := by decide +kernel
theorem dX0_leastLost_4 : decode cX0_leastLost 4 = .ok (.iconst 0, 1) := by decide +kernel
theorem dX0_leastLost_5 : decode cX0_leastLost 5 = .ok (.istore_n 3, 1) := by decide +kernel
theorem dX0_leastLost_6 : decode cX0_leastLost 6 = .ok (.iload_n 3, 1) := by decide +kernel
theorem dX0_leastLost_7 : decode cX0_leastLost 7 = .ok (.aload_n 0, 1) := by decide +kernel
theorem dX0_leastLost_8 : decode cX0_leastLost 8 = .ok (.getfield 33, 3) := by decide +kernel
theorem dX0_leastLost_11 : decode cX0_leastLost 11 = .ok (.if_icmp .ge 27, 3) := by decide +kernel
theorem dX0_leastLost_14 : decode cX0_leastLost 14 = .ok (.aload_n 0, 1) := by decide +kernel
theorem dX0_leastLost_15 : decode cX0_leastLost 15 = .ok (.iload_n 3, 1) := by decide +kernel
theorem dX0_leastLost_16 : decode cX0_leastLost 16 = .ok (.invokevirtual 60, 3) := by decide +kernel
theorem dX0_leastLost_19 : decode cX0_leastLost 19 = .ok (.istore 4, 2) := by decide +kernel
theorem dX0_leastLost_21 : decode cX0_leastLost 21 = .ok (.iload 4, 2) := by decide +kernel
theorem dX0_leastLost_23 : decode cX0_leastLost 23 = .ok (.iload_n 2, 1) := by decide +kernel
theorem dX0_leastLost_24 : decode cX0_leastLost 24 = .ok (.if_icmp .le 8, 3) := by decide +kernel
theorem dX0_leastLost_27 : decode cX0_leastLost 27 = .ok (.iload 4, 2) := by decide +kernel
theorem dX0_leastLost_29 : decode cX0_leastLost 29 = .ok (.istore_n 2, 1) := by decide +kernel
theorem dX0_leastLost_30 : decode cX0_leastLost 30 = .ok (.iload_n 3, 1) := by decide +kernel
theorem dX0_leastLost_31 : decode cX0_leastLost 31 = .ok (.istore_n 1, 1) := by decide +kernel
theorem dX0_leastLost_32 : decode cX0_leastLost 32 = .ok (.iinc 3 1, 3) := by decide +kernel
theorem dX0_leastLost_35 : decode cX0_leastLost 35 = .ok (.goto (-29), 3) := by decide +kernel
theorem dX0_leastLost_38 : decode cX0_leastLost 38 = .ok (.iload_n 1, 1) := by decide +kernel
theorem dX0_leastLost_39 : decode cX0_leastLost 39 = .ok (.ireturn, 1) := by decide +kernel
theorem dX0_mostWithoutOne_0 : decode cX0_mostWithoutOne 0 = .ok (.iload_n 1, 1) := by decide +kernel
theorem dX0_mostWithoutOne_1 : decode cX0_mostWithoutOne 1 = .ok (.ifCond .lt 11, 3) := by decide +kernel
theorem dX0_mostWithoutOne_4 : decode cX0_mostWithoutOne 4 = .ok (.iload_n 1, 1) := by decide +kernel
theorem dX0_mostWithoutOne_5 : decode cX0_mostWithoutOne 5 = .ok (.aload_n 0, 1) := by decide +kernel
theorem dX0_mostWithoutOne_6 : decode cX0_mostWithoutOne 6 = .ok (.getfield 33, 3) := by decide +kernel
theorem dX0_mostWithoutOne_9 : decode cX0_mostWithoutOne 9 = .ok (.if_icmp .lt 8, 3) := by decide +kernel
theorem dX0_mostWithoutOne_12 : decode cX0_mostWithoutOne 12 = .ok (.aload_n 0, 1) := by decide +kernel
theorem dX0_mostWithoutOne_13 : decode cX0_mostWithoutOne 13 = .ok (.invokevirtual 56, 3) := by decide +kernel
theorem dX0_mostWithoutOne_16 : decode cX0_mostWithoutOne 16 = .ok (.ireturn, 1) := by decide +kernel
theorem dX0_mostWithoutOne_17 : decode cX0_mostWithoutOne 17 = .ok (.aload_n 0, 1) := by decide +kernel
theorem dX0_mostWithoutOne_18 : decode cX0_mostWithoutOne 18 = .ok (.getfield 9, 3) := by decide +kernel
theorem dX0_mostWithoutOne_21 : decode cX0_mostWithoutOne 21 = .ok (.iload_n 1, 1) := by decide +kernel
theorem dX0_mostWithoutOne_22 : decode cX0_mostWithoutOne 22 = .ok (.iaload, 1) := by decide +kernel
theorem dX0_mostWithoutOne_23 : decode cX0_mostWithoutOne 23 = .ok (.istore_n 2, 1) := by decide +kernel
theorem dX0_mostWithoutOne_24 : decode cX0_mostWithoutOne 24 = .ok (.aload_n 0, 1) := by decide +kernel
theorem dX0_mostWithoutOne_25 : decode cX0_mostWithoutOne 25 = .ok (.getfield 9, 3) := by decide +kernel
theorem dX0_mostWithoutOne_28 : decode cX0_mostWithoutOne 28 = .ok (.iload_n 1, 1) := by decide +kernel
theorem dX0_mostWithoutOne_29 : decode cX0_mostWithoutOne 29 = .ok (.iconst 0, 1) := by decide +kernel
theorem dX0_mostWithoutOne_30 : decode cX0_mostWithoutOne 30 = .ok (.iastore, 1) := by decide +kernel
theorem dX0_mostWithoutOne_31 : decode cX0_mostWithoutOne 31 = .ok (.aload_n 0, 1) := by decide +kernel
theorem dX0_mostWithoutOne_32 : decode cX0_mostWithoutOne 32 = .ok (.invokevirtual 56, 3) := by decide +kernel
theorem dX0_mostWithoutOne_35 : decode cX0_mostWithoutOne 35 = .ok (.istore_n 3, 1) := by decide +kernel
theorem dX0_mostWithoutOne_36 : decode cX0_mostWithoutOne 36 = .ok (.aload_n 0, 1) := by decide +kernel
theorem dX0_mostWithoutOne_37 : decode cX0_mostWithoutOne 37 = .ok (.getfield 9, 3) := by decide +kernel
theorem dX0_mostWithoutOne_40 : decode cX0_mostWithoutOne 40 = .ok (.iload_n 1, 1) := by decide +kernel
theorem dX0_mostWithoutOne_41 : decode cX0_mostWithoutOne 41 = .ok (.iload_n 2, 1) := by decide +kernel
theorem dX0_mostWithoutOne_42 : decode cX0_mostWithoutOne 42 = .ok (.iastore, 1) := by decide +kernel
theorem dX0_mostWithoutOne_43 : decode cX0_mostWithoutOne 43 = .ok (.iload_n 3, 1) := by decide +kernel
theorem dX0_mostWithoutOne_44 : decode cX0_mostWithoutOne 44 = .ok (.ireturn, 1) := by decide +kernel
theorem dX0_emptiest_0 : decode cX0_emptiest 0 = .ok (.iconst 0, 1) := by decide +kernel
theorem dX0_emptiest_1 : decode cX0_emptiest 1 = .ok (.istore_n 1, 1) := by decide +kernel
theorem dX0_emptiest_2 : decode cX0_emptiest 2 = .ok (.iconst 1, 1) := by decide +kernel
theorem dX0_emptiest_3 : decode cX0_emptiest 3 = .ok (.istore_n 2, 1) := by decide +kernel
theorem dX0_emptiest_4 : decode cX0_emptiest 4 = .ok (.iload_n 2, 1) := by decide +kernel
theorem dX0_emptiest_5 : decode cX0_emptiest 5 = .ok (.bipush 6, 2) := by decide +kernel
theorem dX0_emptiest_7 : decode cX0_emptiest 7 = .ok (.if_icmp .ge 26, 3) := by decide +kernel
theorem dX0_emptiest_10 : decode cX0_emptiest 10 = .ok (.aload_n 0, 1) := by decide +kernel
theorem dX0_emptiest_11 : decode cX0_emptiest 11 = .ok (.iload_n 2, 1) := by decide +kernel
theorem dX0_emptiest_12 : decode cX0_emptiest 12 = .ok (.iconst 0, 1) := by decide +kernel
theorem dX0_emptiest_13 : decode cX0_emptiest 13 = .ok (.invokevirtual 63, 3) := by decide +kernel
theorem dX0_emptiest_16 : decode cX0_emptiest 16 = .ok (.aload_n 0, 1) := by decide +kernel
theorem dX0_emptiest_17 : decode cX0_emptiest 17 = .ok (.iload_n 1, 1) := by decide +kernel
theorem dX0_emptiest_18 : decode cX0_emptiest 18 = .ok (.iconst 0, 1) := by decide +kernel
theorem dX0_emptiest_19 : decode cX0_emptiest 19 = .ok (.invokevirtual 63, 3) := by decide +kernel
theorem dX0_emptiest_22 : decode cX0_emptiest 22 = .ok (.if_icmp .le 5, 3) := by decide +kernel
theorem dX0_emptiest_25 : decode cX0_emptiest 25 = .ok (.iload_n 2, 1) := by decide +kernel
theorem dX0_emptiest_26 : decode cX0_emptiest 26 = .ok (.istore_n 1, 1) := by decide +kernel
theorem dX0_emptiest_27 : decode cX0_emptiest 27 = .ok (.iinc 2 1, 3) := by decide +kernel
theorem dX0_emptiest_30 : decode cX0_emptiest 30 = .ok (.goto (-26), 3) := by decide +kernel
theorem dX0_emptiest_33 : decode cX0_emptiest 33 = .ok (.iload_n 1, 1) := by decide +kernel
theorem dX0_emptiest_34 : decode cX0_emptiest 34 = .ok (.ireturn, 1) := by decide +kernel
theorem dX0_dearest_0 : decode cX0_dearest 0 = .ok (.iconst 0, 1) := by decide +kernel
theorem dX0_dearest_1 : decode cX0_dearest 1 = .ok (.istore_n 1, 1) := by decide +kernel
theorem dX0_dearest_2 : decode cX0_dearest 2 = .ok (.iconst 1, 1) := by decide +kernel
theorem dX0_dearest_3 : decode cX0_dearest 3 = .ok (.istore_n 2, 1) := by decide +kernel
theorem dX0_dearest_4 : decode cX0_dearest 4 = .ok (.iload_n 2, 1) := by decide +kernel
theorem dX0_dearest_5 : decode cX0_dearest 5 = .ok (.bipush 6, 2) := by decide +kernel
theorem dX0_dearest_7 : decode cX0_dearest 7 = .ok (.if_icmp .ge 24, 3) := by decide +kernel
theorem dX0_dearest_10 : decode cX0_dearest 10 = .ok (.aload_n 0, 1) := by decide +kernel
theorem dX0_dearest_11 : decode cX0_dearest 11 = .ok (.iload_n 2, 1) := by decide +kernel
theorem dX0_dearest_12 : decode cX0_dearest 12 = .ok (.invokevirtual 66, 3) := by decide +kernel
theorem dX0_dearest_15 : decode cX0_dearest 15 = .ok (.aload_n 0, 1) := by decide +kernel
theorem dX0_dearest_16 : decode cX0_dearest 16 = .ok (.iload_n 1, 1) := by decide +kernel
theorem dX0_dearest_17 : decode cX0_dearest 17 = .ok (.invokevirtual 66, 3) := by decide +kernel
theorem dX0_dearest_20 : decode cX0_dearest 20 = .ok (.if_icmp .le 5, 3) := by decide +kernel
theorem dX0_dearest_23 : decode cX0_dearest 23 = .ok (.iload_n 2, 1) := by decide +kernel
theorem dX0_dearest_24 : decode cX0_dearest 24 = .ok (.istore_n 1, 1) := by decide +kernel
theorem dX0_dearest_25 : decode cX0_dearest 25 = .ok (.iinc 2 1, 3) := by decide +kernel
theorem dX0_dearest_28 : decode cX0_dearest 28 = .ok (.goto (-24), 3) := by decide +kernel
theorem dX0_dearest_31 : decode cX0_dearest 31 = .ok (.iload_n 1, 1) := by decide +kernel
theorem dX0_dearest_32 : decode cX0_dearest 32 = .ok (.ireturn, 1) := by decide +kernel
theorem dX0_mostWithOneMore_0 : decode cX0_mostWithOneMore 0 = .ok (.iload_n 1, 1) := by decide +kernel
theorem dX0_mostWithOneMore_1 : decode cX0_mostWithOneMore 1 = .ok (.invokestatic 69, 3) := by decide +kernel
theorem dX0_mostWithOneMore_4 : decode cX0_mostWithOneMore 4 = .ok (.ifCond .eq 22, 3) := by decide +kernel
theorem dX0_mostWithOneMore_7 : decode cX0_mostWithOneMore 7 = .ok (.aload_n 0, 1) := by decide +kernel
theorem dX0_mostWithOneMore_8 : decode cX0_mostWithOneMore 8 = .ok (.iload_n 1, 1) := by decide +kernel
theorem dX0_mostWithOneMore_9 : decode cX0_mostWithOneMore 9 = .ok (.aload_n 0, 1) := by decide +kernel
theorem dX0_mostWithOneMore_10 : decode cX0_mostWithOneMore 10 = .ok (.getfield 18, 3) := by decide +kernel
theorem dX0_mostWithOneMore_13 : decode cX0_mostWithOneMore 13 = .ok (.iload_n 1, 1) := by decide +kernel
theorem dX0_mostWithOneMore_14 : decode cX0_mostWithOneMore 14 = .ok (.iaload, 1) := by decide +kernel
theorem dX0_mostWithOneMore_15 : decode cX0_mostWithOneMore 15 = .ok (.iconst 1, 1) := by decide +kernel
theorem dX0_mostWithOneMore_16 : decode cX0_mostWithOneMore 16 = .ok (.iadd, 1) := by decide +kernel
theorem dX0_mostWithOneMore_17 : decode cX0_mostWithOneMore 17 = .ok (.invokestatic 73, 3) := by decide +kernel
theorem dX0_mostWithOneMore_20 : decode cX0_mostWithOneMore 20 = .ok (.invokevirtual 63, 3) := by decide +kernel
theorem dX0_mostWithOneMore_23 : decode cX0_mostWithOneMore 23 = .ok (.goto 7, 3) := by decide +kernel
theorem dX0_mostWithOneMore_26 : decode cX0_mostWithOneMore 26 = .ok (.aload_n 0, 1) := by decide +kernel
theorem dX0_mostWithOneMore_27 : decode cX0_mostWithOneMore 27 = .ok (.invokevirtual 56, 3) := by decide +kernel
theorem dX0_mostWithOneMore_30 : decode cX0_mostWithOneMore 30 = .ok (.ireturn, 1) := by decide +kernel
theorem dX0_mostWithWant_0 : decode cX0_mostWithWant 0 = .ok (.iload_n 1, 1) := by decide +kernel
theorem dX0_mostWithWant_1 : decode cX0_mostWithWant 1 = .ok (.invokestatic 69, 3) := by decide +kernel
theorem dX0_mostWithWant_4 : decode cX0_mostWithWant 4 = .ok (.ifCond .ne 8, 3) := by decide +kernel
theorem dX0_mostWithWant_7 : decode cX0_mostWithWant 7 = .ok (.aload_n 0, 1) := by decide +kernel
theorem dX0_mostWithWant_8 : decode cX0_mostWithWant 8 = .ok (.invokevirtual 56, 3) := by decide +kernel
theorem dX0_mostWithWant_11 : decode cX0_mostWithWant 11 = .ok (.ireturn, 1) := by decide +kernel
theorem dX0_mostWithWant_12 : decode cX0_mostWithWant 12 = .ok (.aload_n 0, 1) := by decide +kernel
theorem dX0_mostWithWant_13 : decode cX0_mostWithWant 13 = .ok (.getfield 18, 3) := by decide +kernel
theorem dX0_mostWithWant_16 : decode cX0_mostWithWant 16 = .ok (.iload_n 1, 1) := by decide +kernel
theorem dX0_mostWithWant_17 : decode cX0_mostWithWant 17 = .ok (.iaload, 1) := by decide +kernel
theorem dX0_mostWithWant_18 : decode cX0_mostWithWant 18 = .ok (.istore_n 3, 1) := by decide +kernel
theorem dX0_mostWithWant_19 : decode cX0_mostWithWant 19 = .ok (.aload_n 0, 1) := by decide +kernel
theorem dX0_mostWithWant_20 : decode cX0_mostWithWant 20 = .ok (.getfield 18, 3) := by decide +kernel
theorem dX0_mostWithWant_23 : decode cX0_mostWithWant 23 = .ok (.iload_n 1, 1) := by decide +kernel
theorem dX0_mostWithWant_24 : decode cX0_mostWithWant 24 = .ok (.iload_n 2, 1) := by decide +kernel
theorem dX0_mostWithWant_25 : decode cX0_mostWithWant 25 = .ok (.iastore, 1) := by decide +kernel
theorem dX0_mostWithWant_26 : decode cX0_mostWithWant 26 = .ok (.aload_n 0, 1) := by decide +kernel
theorem dX0_mostWithWant_27 : decode cX0_mostWithWant 27 = .ok (.invokevirtual 56, 3) := by decide +kernel
theorem dX0_mostWithWant_30 : decode cX0_mostWithWant 30 = .ok (.istore 4, 2) := by decide +kernel
theorem dX0_mostWithWant_32 : decode cX0_mostWithWant 32 = .ok (.aload_n 0, 1) := by decide +kernel
theorem dX0_mostWithWant_33 : decode cX0_mostWithWant 33 = .ok (.getfield 18, 3) := by decide +kernel
theorem dX0_mostWithWant_36 : decode cX0_mostWithWant 36 = .ok (.iload_n 1, 1) := by decide +kernel
theorem dX0_mostWithWant_37 : decode cX0_mostWithWant 37 = .ok (.iload_n 3, 1) := by decide +kernel
theorem dX0_mostWithWant_38 : decode cX0_mostWithWant 38 = .ok (.iastore, 1) := by decide +kernel
theorem dX0_mostWithWant_39 : decode cX0_mostWithWant 39 = .ok (.iload 4, 2) := by decide +kernel
theorem dX0_mostWithWant_41 : decode cX0_mostWithWant 41 = .ok (.ireturn, 1) := by decide +kernel
theorem dX0_cutBy_0 : decode cX0_cutBy 0 = .ok (.iconst 0, 1) := by decide +kernel
theorem dX0_cutBy_1 : decode cX0_cutBy 1 = .ok (.istore_n 2, 1) := by decide +kernel
theorem dX0_cutBy_2 : decode cX0_cutBy 2 = .ok (.iconst 0, 1) := by decide +kernel
theorem dX0_cutBy_3 : decode cX0_cutBy 3 = .ok (.istore_n 3, 1) := by decide +kernel
theorem dX0_cutBy_4 : decode cX0_cutBy 4 = .ok (.iconst 0, 1) := by decide +kernel
theorem dX0_cutBy_5 : decode cX0_cutBy 5 = .ok (.istore 4, 2) := by decide +kernel
theorem dX0_cutBy_7 : decode cX0_cutBy 7 = .ok (.iload 4, 2) := by decide +kernel
theorem dX0_cutBy_9 : decode cX0_cutBy 9 = .ok (.aload_n 0, 1) := by decide +kernel
theorem dX0_cutBy_10 : decode cX0_cutBy 10 = .ok (.getfield 33, 3) := by decide +kernel
theorem dX0_cutBy_13 : decode cX0_cutBy 13 = .ok (.if_icmp .ge 41, 3) := by decide +kernel
theorem dX0_cutBy_16 : decode cX0_cutBy 16 = .ok (.iload_n 1, 1) := by decide +kernel
theorem dX0_cutBy_17 : decode cX0_cutBy 17 = .ok (.iload 4, 2) := by decide +kernel
theorem dX0_cutBy_19 : decode cX0_cutBy 19 = .ok (.ishr, 1) := by decide +kernel
theorem dX0_cutBy_20 : decode cX0_cutBy 20 = .ok (.iconst 1, 1) := by decide +kernel
theorem dX0_cutBy_21 : decode cX0_cutBy 21 = .ok (.iand, 1) := by decide +kernel
theorem dX0_cutBy_22 : decode cX0_cutBy 22 = .ok (.ifCond .ne 16, 3) := by decide +kernel
theorem dX0_cutBy_25 : decode cX0_cutBy 25 = .ok (.iload_n 2, 1) := by decide +kernel
theorem dX0_cutBy_26 : decode cX0_cutBy 26 = .ok (.aload_n 0, 1) := by decide +kernel
theorem dX0_cutBy_27 : decode cX0_cutBy 27 = .ok (.getfield 9, 3) := by decide +kernel
theorem dX0_cutBy_30 : decode cX0_cutBy 30 = .ok (.iload 4, 2) := by decide +kernel
theorem dX0_cutBy_32 : decode cX0_cutBy 32 = .ok (.iaload, 1) := by decide +kernel
theorem dX0_cutBy_33 : decode cX0_cutBy 33 = .ok (.iadd, 1) := by decide +kernel
theorem dX0_cutBy_34 : decode cX0_cutBy 34 = .ok (.istore_n 2, 1) := by decide +kernel
theorem dX0_cutBy_35 : decode cX0_cutBy 35 = .ok (.goto 13, 3) := by decide +kernel
theorem dX0_cutBy_38 : decode cX0_cutBy 38 = .ok (.iload_n 3, 1) := by decide +kernel
theorem dX0_cutBy_39 : decode cX0_cutBy 39 = .ok (.aload_n 0, 1) := by decide +kernel
theorem dX0_cutBy_40 : decode cX0_cutBy 40 = .ok (.getfield 15, 3) := by decide +kernel
theorem dX0_cutBy_43 : decode cX0_cutBy 43 = .ok (.iload 4, 2) := by decide +kernel
theorem dX0_cutBy_45 : decode cX0_cutBy 45 = .ok (.iaload, 1) := by decide +kernel
theorem dX0_cutBy_46 : decode cX0_cutBy 46 = .ok (.ior, 1) := by decide +kernel
theorem dX0_cutBy_47 : decode cX0_cutBy 47 = .ok (.istore_n 3, 1) := by decide +kernel
theorem dX0_cutBy_48 : decode cX0_cutBy 48 = .ok (.iinc 4 1, 3) := by decide +kernel
theorem dX0_cutBy_51 : decode cX0_cutBy 51 = .ok (.goto (-44), 3) := by decide +kernel
theorem dX0_cutBy_54 : decode cX0_cutBy 54 = .ok (.iconst 0, 1) := by decide +kernel
theorem dX0_cutBy_55 : decode cX0_cutBy 55 = .ok (.istore 4, 2) := by decide +kernel
theorem dX0_cutBy_57 : decode cX0_cutBy 57 = .ok (.iload 4, 2) := by decide +kernel
theorem dX0_cutBy_59 : decode cX0_cutBy 59 = .ok (.bipush 6, 2) := by decide +kernel
theorem dX0_cutBy_61 : decode cX0_cutBy 61 = .ok (.if_icmp .ge 28, 3) := by decide +kernel
theorem dX0_cutBy_64 : decode cX0_cutBy 64 = .ok (.iload_n 3, 1) := by decide +kernel
theorem dX0_cutBy_65 : decode cX0_cutBy 65 = .ok (.iload 4, 2) := by decide +kernel
theorem dX0_cutBy_67 : decode cX0_cutBy 67 = .ok (.ishr, 1) := by decide +kernel
theorem dX0_cutBy_68 : decode cX0_cutBy 68 = .ok (.iconst 1, 1) := by decide +kernel
theorem dX0_cutBy_69 : decode cX0_cutBy 69 = .ok (.iand, 1) := by decide +kernel
theorem dX0_cutBy_70 : decode cX0_cutBy 70 = .ok (.ifCond .eq 13, 3) := by decide +kernel
theorem dX0_cutBy_73 : decode cX0_cutBy 73 = .ok (.iload_n 2, 1) := by decide +kernel
theorem dX0_cutBy_74 : decode cX0_cutBy 74 = .ok (.aload_n 0, 1) := by decide +kernel
theorem dX0_cutBy_75 : decode cX0_cutBy 75 = .ok (.getfield 18, 3) := by decide +kernel
theorem dX0_cutBy_78 : decode cX0_cutBy 78 = .ok (.iload 4, 2) := by decide +kernel
theorem dX0_cutBy_80 : decode cX0_cutBy 80 = .ok (.iaload, 1) := by decide +kernel
theorem dX0_cutBy_81 : decode cX0_cutBy 81 = .ok (.iadd, 1) := by decide +kernel
theorem dX0_cutBy_82 : decode cX0_cutBy 82 = .ok (.istore_n 2, 1) := by decide +kernel
theorem dX0_cutBy_83 : decode cX0_cutBy 83 = .ok (.iinc 4 1, 3) := by decide +kernel
theorem dX0_cutBy_86 : decode cX0_cutBy 86 = .ok (.goto (-29), 3) := by decide +kernel
theorem dX0_cutBy_89 : decode cX0_cutBy 89 = .ok (.iload_n 2, 1) := by decide +kernel
theorem dX0_cutBy_90 : decode cX0_cutBy 90 = .ok (.ireturn, 1) := by decide +kernel
theorem dX1_init_0 : decode cX1_init 0 = .ok (.aload_n 0, 1) := by decide +kernel
theorem dX1_init_1 : decode cX1_init 1 = .ok (.invokespecial 3, 3) := by decide +kernel
theorem dX1_init_4 : decode cX1_init 4 = .ok (.aload_n 0, 1) := by decide +kernel
theorem dX1_init_5 : decode cX1_init 5 = .ok (.iconst 5, 1) := by decide +kernel
theorem dX1_init_6 : decode cX1_init 6 = .ok (.newarray .int, 2) := by decide +kernel
theorem dX1_init_8 : decode cX1_init 8 = .ok (.putfield 9, 3) := by decide +kernel
theorem dX1_init_11 : decode cX1_init 11 = .ok (.aload_n 0, 1) := by decide +kernel
theorem dX1_init_12 : decode cX1_init 12 = .ok (.iconst 5, 1) := by decide +kernel
theorem dX1_init_13 : decode cX1_init 13 = .ok (.newarray .int, 2) := by decide +kernel
theorem dX1_init_15 : decode cX1_init 15 = .ok (.putfield 15, 3) := by decide +kernel
theorem dX1_init_18 : decode cX1_init 18 = .ok (.aload_n 0, 1) := by decide +kernel
theorem dX1_init_19 : decode cX1_init 19 = .ok (.iconst 5, 1) := by decide +kernel
theorem dX1_init_20 : decode cX1_init 20 = .ok (.newarray .int, 2) := by decide +kernel
theorem dX1_init_22 : decode cX1_init 22 = .ok (.putfield 18, 3) := by decide +kernel
theorem dX1_init_25 : decode cX1_init 25 = .ok (.aload_n 0, 1) := by decide +kernel
theorem dX1_init_26 : decode cX1_init 26 = .ok (.iconst 5, 1) := by decide +kernel
theorem dX1_init_27 : decode cX1_init 27 = .ok (.newarray .int, 2) := by decide +kernel
theorem dX1_init_29 : decode cX1_init 29 = .ok (.putfield 21, 3) := by decide +kernel
theorem dX1_init_32 : decode cX1_init 32 = .ok (.aload_n 0, 1) := by decide +kernel
theorem dX1_init_33 : decode cX1_init 33 = .ok (.bipush 6, 2) := by decide +kernel
theorem dX1_init_35 : decode cX1_init 35 = .ok (.newarray .int, 2) := by decide +kernel
theorem dX1_init_37 : decode cX1_init 37 = .ok (.putfield 24, 3) := by decide +kernel
theorem dX1_init_40 : decode cX1_init 40 = .ok (.aload_n 0, 1) := by decide +kernel
theorem dX1_init_41 : decode cX1_init 41 = .ok (.bipush 6, 2) := by decide +kernel
theorem dX1_init_43 : decode cX1_init 43 = .ok (.newarray .int, 2) := by decide +kernel
theorem dX1_init_45 : decode cX1_init 45 = .ok (.putfield 27, 3) := by decide +kernel
theorem dX1_init_48 : decode cX1_init 48 = .ok (.aload_n 0, 1) := by decide +kernel
theorem dX1_init_49 : decode cX1_init 49 = .ok (.bipush 6, 2) := by decide +kernel
theorem dX1_init_51 : decode cX1_init 51 = .ok (.newarray .int, 2) := by decide +kernel
theorem dX1_init_53 : decode cX1_init 53 = .ok (.putfield 30, 3) := by decide +kernel
theorem dX1_init_56 : decode cX1_init 56 = .ok (.iconst 0, 1) := by decide +kernel
theorem dX1_init_57 : decode cX1_init 57 = .ok (.istore_n 1, 1) := by decide +kernel
theorem dX1_init_58 : decode cX1_init 58 = .ok (.iload_n 1, 1) := by decide +kernel
theorem dX1_init_59 : decode cX1_init 59 = .ok (.bipush 6, 2) := by decide +kernel
theorem dX1_init_61 : decode cX1_init 61 = .ok (.if_icmp .ge 24, 3) := by decide +kernel
theorem dX1_init_64 : decode cX1_init 64 = .ok (.aload_n 0, 1) := by decide +kernel
theorem dX1_init_65 : decode cX1_init 65 = .ok (.getfield 24, 3) := by decide +kernel
theorem dX1_init_68 : decode cX1_init 68 = .ok (.iload_n 1, 1) := by decide +kernel
theorem dX1_init_69 : decode cX1_init 69 = .ok (.bipush 10, 2) := by decide +kernel
theorem dX1_init_71 : decode cX1_init 71 = .ok (.iastore, 1) := by decide +kernel
theorem dX1_init_72 : decode cX1_init 72 = .ok (.aload_n 0, 1) := by decide +kernel
theorem dX1_init_73 : decode cX1_init 73 = .ok (.getfield 27, 3) := by decide +kernel
theorem dX1_init_76 : decode cX1_init 76 = .ok (.iload_n 1, 1) := by decide +kernel
theorem dX1_init_77 : decode cX1_init 77 = .ok (.iload_n 1, 1) := by decide +kernel
theorem dX1_init_78 : decode cX1_init 78 = .ok (.iastore, 1) := by decide +kernel
theorem dX1_init_79 : decode cX1_init 79 = .ok (.iinc 1 1, 3) := by decide +kernel
theorem dX1_init_82 : decode cX1_init 82 = .ok (.goto (-24), 3) := by decide +kernel
theorem dX1_init_85 : decode cX1_init 85 = .ok (.return_, 1) := by decide +kernel
theorem dX1_takeFrom_0 : decode cX1_takeFrom 0 = .ok (.aload_n 0, 1) := by decide +kernel
theorem dX1_takeFrom_1 : decode cX1_takeFrom 1 = .ok (.aload_n 1, 1) := by decide +kernel
theorem dX1_takeFrom_2 : decode cX1_takeFrom 2 = .ok (.getfield 33, 3) := by decide +kernel
theorem dX1_takeFrom_5 : decode cX1_takeFrom 5 = .ok (.putfield 33, 3) := by decide +kernel
theorem dX1_takeFrom_8 : decode cX1_takeFrom 8 = .ok (.aload_n 0, 1) := by decide +kernel
theorem dX1_takeFrom_9 : decode cX1_takeFrom 9 = .ok (.aload_n 1, 1) := by decide +kernel
theorem dX1_takeFrom_10 : decode cX1_takeFrom 10 = .ok (.getfield 37, 3) := by decide +kernel
theorem dX1_takeFrom_13 : decode cX1_takeFrom 13 = .ok (.putfield 37, 3) := by decide +kernel
theorem dX1_takeFrom_16 : decode cX1_takeFrom 16 = .ok (.aload_n 0, 1) := by decide +kernel
theorem dX1_takeFrom_17 : decode cX1_takeFrom 17 = .ok (.aload_n 1, 1) := by decide +kernel
theorem dX1_takeFrom_18 : decode cX1_takeFrom 18 = .ok (.getfield 40, 3) := by decide +kernel
theorem dX1_takeFrom_21 : decode cX1_takeFrom 21 = .ok (.putfield 40, 3) := by decide +kernel
theorem dX1_takeFrom_24 : decode cX1_takeFrom 24 = .ok (.aload_n 0, 1) := by decide +kernel
theorem dX1_takeFrom_25 : decode cX1_takeFrom 25 = .ok (.aload_n 1, 1) := by decide +kernel
theorem dX1_takeFrom_26 : decode cX1_takeFrom 26 = .ok (.getfield 43, 3) := by decide +kernel
theorem dX1_takeFrom_29 : decode cX1_takeFrom 29 = .ok (.putfield 43, 3) := by decide +kernel
theorem dX1_takeFrom_32 : decode cX1_takeFrom 32 = .ok (.aload_n 1, 1) := by decide +kernel
theorem dX1_takeFrom_33 : decode cX1_takeFrom 33 = .ok (.getfield 9, 3) := by decide +kernel
theorem dX1_takeFrom_36 : decode cX1_takeFrom 36 = .ok (.iconst 0, 1) := by decide +kernel
theorem dX1_takeFrom_37 : decode cX1_takeFrom 37 = .ok (.aload_n 0, 1) := by decide +kernel
theorem dX1_takeFrom_38 : decode cX1_takeFrom 38 = .ok (.getfield 9, 3) := by decide +kernel
theorem dX1_takeFrom_41 : decode cX1_takeFrom 41 = .ok (.iconst 0, 1) := by decide +kernel
theorem dX1_takeFrom_42 : decode cX1_takeFrom 42 = .ok (.iconst 5, 1) := by decide +kernel
theorem dX1_takeFrom_43 : decode cX1_takeFrom 43 = .ok (.invokestatic 46, 3) := by decide +kernel
theorem dX1_takeFrom_46 : decode cX1_takeFrom 46 = .ok (.aload_n 1, 1) := by decide +kernel
theorem dX1_takeFrom_47 : decode cX1_takeFrom 47 = .ok (.getfield 15, 3) := by decide +kernel
theorem dX1_takeFrom_50 : decode cX1_takeFrom 50 = .ok (.iconst 0, 1) := by decide +kernel
theorem dX1_takeFrom_51 : decode cX1_takeFrom 51 = .ok (.aload_n 0, 1) := by decide +kernel
theorem dX1_takeFrom_52 : decode cX1_takeFrom 52 = .ok (.getfield 15, 3) := by decide +kernel
theorem dX1_takeFrom_55 : decode cX1_takeFrom 55 = .ok (.iconst 0, 1) := by decide +kernel
theorem dX1_takeFrom_56 : decode cX1_takeFrom 56 = .ok (.iconst 5, 1) := by decide +kernel
theorem dX1_takeFrom_57 : decode cX1_takeFrom 57 = .ok (.invokestatic 46, 3) := by decide +kernel
theorem dX1_takeFrom_60 : decode cX1_takeFrom 60 = .ok (.aload_n 1, 1) := by decide +kernel
theorem dX1_takeFrom_61 : decode cX1_takeFrom 61 = .ok (.getfield 18, 3) := by decide +kernel
theorem dX1_takeFrom_64 : decode cX1_takeFrom 64 = .ok (.iconst 0, 1) := by decide +kernel
theorem dX1_takeFrom_65 : decode cX1_takeFrom 65 = .ok (.aload_n 0, 1) := by decide +kernel
theorem dX1_takeFrom_66 : decode cX1_takeFrom 66 = .ok (.getfield 18, 3) := by decide +kernel
theorem dX1_takeFrom_69 : decode cX1_takeFrom 69 = .ok (.iconst 0, 1) := by decide +kernel
theorem dX1_takeFrom_70 : decode cX1_takeFrom 70 = .ok (.iconst 5, 1) := by decide +kernel
theorem dX1_takeFrom_71 : decode cX1_takeFrom 71 = .ok (.invokestatic 46, 3) := by decide +kernel
theorem dX1_takeFrom_74 : decode cX1_takeFrom 74 = .ok (.aload_n 1, 1) := by decide +kernel
theorem dX1_takeFrom_75 : decode cX1_takeFrom 75 = .ok (.getfield 21, 3) := by decide +kernel
theorem dX1_takeFrom_78 : decode cX1_takeFrom 78 = .ok (.iconst 0, 1) := by decide +kernel
theorem dX1_takeFrom_79 : decode cX1_takeFrom 79 = .ok (.aload_n 0, 1) := by decide +kernel
theorem dX1_takeFrom_80 : decode cX1_takeFrom 80 = .ok (.getfield 21, 3) := by decide +kernel
theorem dX1_takeFrom_83 : decode cX1_takeFrom 83 = .ok (.iconst 0, 1) := by decide +kernel
theorem dX1_takeFrom_84 : decode cX1_takeFrom 84 = .ok (.iconst 5, 1) := by decide +kernel
theorem dX1_takeFrom_85 : decode cX1_takeFrom 85 = .ok (.invokestatic 46, 3) := by decide +kernel
theorem dX1_takeFrom_88 : decode cX1_takeFrom 88 = .ok (.aload_n 1, 1) := by decide +kernel
theorem dX1_takeFrom_89 : decode cX1_takeFrom 89 = .ok (.getfield 24, 3) := by decide +kernel
theorem dX1_takeFrom_92 : decode cX1_takeFrom 92 = .ok (.iconst 0, 1) := by decide +kernel
theorem dX1_takeFrom_93 : decode cX1_takeFrom 93 = .ok (.aload_n 0, 1) := by decide +kernel
theorem dX1_takeFrom_94 : decode cX1_takeFrom 94 = .ok (.getfield 24, 3) := by decide +kernel
theorem dX1_takeFrom_97 : decode cX1_takeFrom 97 = .ok (.iconst 0, 1) := by decide +kernel
theorem dX1_takeFrom_98 : decode cX1_takeFrom 98 = .ok (.bipush 6, 2) := by decide +kernel
theorem dX1_takeFrom_100 : decode cX1_takeFrom 100 = .ok (.invokestatic 46, 3) := by decide +kernel
theorem dX1_takeFrom_103 : decode cX1_takeFrom 103 = .ok (.aload_n 1, 1) := by decide +kernel
theorem dX1_takeFrom_104 : decode cX1_takeFrom 104 = .ok (.getfield 27, 3) := by decide +kernel
theorem dX1_takeFrom_107 : decode cX1_takeFrom 107 = .ok (.iconst 0, 1) := by decide +kernel
theorem dX1_takeFrom_108 : decode cX1_takeFrom 108 = .ok (.aload_n 0, 1) := by decide +kernel
theorem dX1_takeFrom_109 : decode cX1_takeFrom 109 = .ok (.getfield 27, 3) := by decide +kernel
theorem dX1_takeFrom_112 : decode cX1_takeFrom 112 = .ok (.iconst 0, 1) := by decide +kernel
theorem dX1_takeFrom_113 : decode cX1_takeFrom 113 = .ok (.bipush 6, 2) := by decide +kernel
theorem dX1_takeFrom_115 : decode cX1_takeFrom 115 = .ok (.invokestatic 46, 3) := by decide +kernel
theorem dX1_takeFrom_118 : decode cX1_takeFrom 118 = .ok (.aload_n 1, 1) := by decide +kernel
theorem dX1_takeFrom_119 : decode cX1_takeFrom 119 = .ok (.getfield 30, 3) := by decide +kernel
theorem dX1_takeFrom_122 : decode cX1_takeFrom 122 = .ok (.iconst 0, 1) := by decide +kernel
theorem dX1_takeFrom_123 : decode cX1_takeFrom 123 = .ok (.aload_n 0, 1) := by decide +kernel
theorem dX1_takeFrom_124 : decode cX1_takeFrom 124 = .ok (.getfield 30, 3) := by decide +kernel
theorem dX1_takeFrom_127 : decode cX1_takeFrom 127 = .ok (.iconst 0, 1) := by decide +kernel
theorem dX1_takeFrom_128 : decode cX1_takeFrom 128 = .ok (.bipush 6, 2) := by decide +kernel
theorem dX1_takeFrom_130 : decode cX1_takeFrom 130 = .ok (.invokestatic 46, 3) := by decide +kernel
theorem dX1_takeFrom_133 : decode cX1_takeFrom 133 = .ok (.return_, 1) := by decide +kernel
theorem dX1_lodges_0 : decode cX1_lodges 0 = .ok (.iload_n 1, 1) := by decide +kernel
theorem dX1_lodges_1 : decode cX1_lodges 1 = .ok (.ifCond .lt 15, 3) := by decide +kernel
theorem dX1_lodges_4 : decode cX1_lodges 4 = .ok (.iload_n 1, 1) := by decide +kernel
theorem dX1_lodges_5 : decode cX1_lodges 5 = .ok (.aload_n 0, 1) := by decide +kernel
theorem dX1_lodges_6 : decode cX1_lodges 6 = .ok (.getfield 43, 3) := by decide +kernel
theorem dX1_lodges_9 : decode cX1_lodges 9 = .ok (.if_icmp .ge 7, 3) := by decide +kernel
theorem dX1_lodges_12 : decode cX1_lodges 12 = .ok (.iconst 1, 1) := by decide +kernel
theorem dX1_lodges_13 : decode cX1_lodges 13 = .ok (.goto 4, 3) := by decide +kernel
theorem dX1_lodges_16 : decode cX1_lodges 16 = .ok (.iconst 0, 1) := by decide +kernel
theorem dX1_lodges_17 : decode cX1_lodges 17 = .ok (.ireturn, 1) := by decide +kernel
theorem dX1_hasPlace_0 : decode cX1_hasPlace 0 = .ok (.iload_n 1, 1) := by decide +kernel
theorem dX1_hasPlace_1 : decode cX1_hasPlace 1 = .ok (.tableswitch 76 0 11 #[63, 63, 65, 65, 65, 71, 71, 65, 76, 76, 71, 63], 63) := by decide +kernel
theorem dX1_hasPlace_64 : decode cX1_hasPlace 64 = .ok (.iconst 1, 1) := by decide +kernel
theorem dX1_hasPlace_65 : decode cX1_hasPlace 65 = .ok (.ireturn, 1) := by decide +kernel
theorem dX1_hasPlace_66 : decode cX1_hasPlace 66 = .ok (.aload_n 0, 1) := by decide +kernel
theorem dX1_hasPlace_67 : decode cX1_hasPlace 67 = .ok (.iload_n 2, 1) := by decide +kernel
theorem dX1_hasPlace_68 : decode cX1_hasPlace 68 = .ok (.invokevirtual 52, 3) := by decide +kernel
theorem dX1_hasPlace_71 : decode cX1_hasPlace 71 = .ok (.ireturn, 1) := by decide +kernel
theorem dX1_hasPlace_72 : decode cX1_hasPlace 72 = .ok (.iload_n 2, 1) := by decide +kernel
theorem dX1_hasPlace_73 : decode cX1_hasPlace 73 = .ok (.invokestatic 56, 3) := by decide +kernel
theorem dX1_hasPlace_76 : decode cX1_hasPlace 76 = .ok (.ireturn, 1) := by decide +kernel
theorem dX1_hasPlace_77 : decode cX1_hasPlace 77 = .ok (.iconst 0, 1) := by decide +kernel
theorem dX1_hasPlace_78 : decode cX1_hasPlace 78 = .ok (.ireturn, 1) := by decide +kernel
theorem dX1_read_0 : decode cX1_read 0 = .ok (.aload_n 0, 1) := by decide +kernel
theorem dX1_read_1 : decode cX1_read 1 = .ok (.iload_n 1, 1) := by decide +kernel
theorem dX1_read_2 : decode cX1_read 2 = .ok (.iload_n 2, 1) := by decide +kernel
theorem dX1_read_3 : decode cX1_read 3 = .ok (.invokevirtual 59, 3) := by decide +kernel
theorem dX1_read_6 : decode cX1_read 6 = .ok (.ifCond .ne 6, 3) := by decide +kernel
theorem dX1_read_9 : decode cX1_read 9 = .ok (.bipush (-2), 2) := by decide +kernel
theorem dX1_read_11 : decode cX1_read 11 = .ok (.ireturn, 1) := by decide +kernel
theorem dX1_read_12 : decode cX1_read 12 = .ok (.iload_n 1, 1) := by decide +kernel
theorem dX1_read_13 : decode cX1_read 13 = .ok (.tableswitch 118 0 10 #[59, 64, 69, 76, 83, 90, 97, 104, 118, 118, 111], 59) := by decide +kernel
theorem dX1_read_72 : decode cX1_read 72 = .ok (.aload_n 0, 1) := by decide +kernel
theorem dX1_read_73 : decode cX1_read 73 = .ok (.getfield 33, 3) := by decide +kernel
theorem dX1_read_76 : decode cX1_read 76 = .ok (.ireturn, 1) := by decide +kernel
theorem dX1_read_77 : decode cX1_read 77 = .ok (.aload_n 0, 1) := by decide +kernel
theorem dX1_read_78 : decode cX1_read 78 = .ok (.getfield 37, 3) := by decide +kernel
theorem dX1_read_81 : decode cX1_read 81 = .ok (.ireturn, 1) := by decide +kernel
theorem dX1_read_82 : decode cX1_read 82 = .ok (.aload_n 0, 1) := by decide +kernel
theorem dX1_read_83 : decode cX1_read 83 = .ok (.getfield 15, 3) := by decide +kernel
theorem dX1_read_86 : decode cX1_read 86 = .ok (.iload_n 2, 1) := by decide +kernel
theorem dX1_read_87 : decode cX1_read 87 = .ok (.iaload, 1) := by decide +kernel
theorem dX1_read_88 : decode cX1_read 88 = .ok (.ireturn, 1) := by decide +kernel
theorem dX1_read_89 : decode cX1_read 89 = .ok (.aload_n 0, 1) := by decide +kernel
theorem dX1_read_90 : decode cX1_read 90 = .ok (.getfield 18, 3) := by decide +kernel
theorem dX1_read_93 : decode cX1_read 93 = .ok (.iload_n 2, 1) := by decide +kernel
theorem dX1_read_94 : decode cX1_read 94 = .ok (.iaload, 1) := by decide +kernel
theorem dX1_read_95 : decode cX1_read 95 = .ok (.ireturn, 1) := by decide +kernel
theorem dX1_read_96 : decode cX1_read 96 = .ok (.aload_n 0, 1) := by decide +kernel
theorem dX1_read_97 : decode cX1_read 97 = .ok (.getfield 21, 3) := by decide +kernel
theorem dX1_read_100 : decode cX1_read 100 = .ok (.iload_n 2, 1) := by decide +kernel
theorem dX1_read_101 : decode cX1_read 101 = .ok (.iaload, 1) := by decide +kernel
theorem dX1_read_102 : decode cX1_read 102 = .ok (.ireturn, 1) := by decide +kernel
theorem dX1_read_103 : decode cX1_read 103 = .ok (.aload_n 0, 1) := by decide +kernel
theorem dX1_read_104 : decode cX1_read 104 = .ok (.getfield 24, 3) := by decide +kernel
theorem dX1_read_107 : decode cX1_read 107 = .ok (.iload_n 2, 1) := by decide +kernel
theorem dX1_read_108 : decode cX1_read 108 = .ok (.iaload, 1) := by decide +kernel
theorem dX1_read_109 : decode cX1_read 109 = .ok (.ireturn, 1) := by decide +kernel
theorem dX1_read_110 : decode cX1_read 110 = .ok (.aload_n 0, 1) := by decide +kernel
theorem dX1_read_111 : decode cX1_read 111 = .ok (.getfield 27, 3) := by decide +kernel
theorem dX1_read_114 : decode cX1_read 114 = .ok (.iload_n 2, 1) := by decide +kernel
theorem dX1_read_115 : decode cX1_read 115 = .ok (.iaload, 1) := by decide +kernel
theorem dX1_read_116 : decode cX1_read 116 = .ok (.ireturn, 1) := by decide +kernel
theorem dX1_read_117 : decode cX1_read 117 = .ok (.aload_n 0, 1) := by decide +kernel
theorem dX1_read_118 : decode cX1_read 118 = .ok (.getfield 9, 3) := by decide +kernel
theorem dX1_read_121 : decode cX1_read 121 = .ok (.iload_n 2, 1) := by decide +kernel
theorem dX1_read_122 : decode cX1_read 122 = .ok (.iaload, 1) := by decide +kernel
theorem dX1_read_123 : decode cX1_read 123 = .ok (.ireturn, 1) := by decide +kernel
theorem dX1_read_124 : decode cX1_read 124 = .ok (.aload_n 0, 1) := by decide +kernel
theorem dX1_read_125 : decode cX1_read 125 = .ok (.getfield 30, 3) := by decide +kernel
theorem dX1_read_128 : decode cX1_read 128 = .ok (.iload_n 2, 1) := by decide +kernel
theorem dX1_read_129 : decode cX1_read 129 = .ok (.iaload, 1) := by decide +kernel
theorem dX1_read_130 : decode cX1_read 130 = .ok (.ireturn, 1) := by decide +kernel
theorem dX1_read_131 : decode cX1_read 131 = .ok (.aload_n 0, 1) := by decide +kernel
theorem dX1_read_132 : decode cX1_read 132 = .ok (.getfield 40, 3) := by decide +kernel
theorem dX1_read_135 : decode cX1_read 135 = .ok (.ireturn, 1) := by decide +kernel
theorem dX1_write_0 : decode cX1_write 0 = .ok (.aload_n 0, 1) := by decide +kernel
theorem dX1_write_1 : decode cX1_write 1 = .ok (.iload_n 1, 1) := by decide +kernel
theorem dX1_write_2 : decode cX1_write 2 = .ok (.iload_n 2, 1) := by decide +kernel
theorem dX1_write_3 : decode cX1_write 3 = .ok (.invokevirtual 59, 3) := by decide +kernel
theorem dX1_write_6 : decode cX1_write 6 = .ok (.ifCond .ne 4, 3) := by decide +kernel
theorem dX1_write_9 : decode cX1_write 9 = .ok (.return_, 1) := by decide +kernel
theorem dX1_write_10 : decode cX1_write 10 = .ok (.iload_n 1, 1) := by decide +kernel
theorem dX1_write_11 : decode cX1_write 11 = .ok (.tableswitch 143 0 10 #[57, 65, 73, 83, 93, 103, 113, 123, 143, 143, 133], 57) := by decide +kernel
theorem dX1_write_68 : decode cX1_write 68 = .ok (.aload_n 0, 1) := by decide +kernel
theorem dX1_write_69 : decode cX1_write 69 = .ok (.iload_n 3, 1) := by decide +kernel
theorem dX1_write_70 : decode cX1_write 70 = .ok (.putfield 33, 3) := by decide +kernel
theorem dX1_write_73 : decode cX1_write 73 = .ok (.goto 86, 3) := by decide +kernel
theorem dX1_write_76 : decode cX1_write 76 = .ok (.aload_n 0, 1) := by decide +kernel
theorem dX1_write_77 : decode cX1_write 77 = .ok (.iload_n 3, 1) := by decide +kernel
theorem dX1_write_78 : decode cX1_write 78 = .ok (.putfield 37, 3) := by decide +kernel
theorem dX1_write_81 : decode cX1_write 81 = .ok (.goto 78, 3) := by decide +kernel
theorem dX1_write_84 : decode cX1_write 84 = .ok (.aload_n 0, 1) := by decide +kernel
theorem dX1_write_85 : decode cX1_write 85 = .ok (.getfield 15, 3) := by decide +kernel
theorem dX1_write_88 : decode cX1_write 88 = .ok (.iload_n 2, 1) := by decide +kernel
theorem dX1_write_89 : decode cX1_write 89 = .ok (.iload_n 3, 1) := by decide +kernel
theorem dX1_write_90 : decode cX1_write 90 = .ok (.iastore, 1) := by decide +kernel
theorem dX1_write_91 : decode cX1_write 91 = .ok (.goto 68, 3) := by decide +kernel
theorem dX1_write_94 : decode cX1_write 94 = .ok (.aload_n 0, 1) := by decide +kernel
theorem dX1_write_95 : decode cX1_write 95 = .ok (.getfield 18, 3) := by decide +kernel
theorem dX1_write_98 : decode cX1_write 98 = .ok (.iload_n 2, 1) := by decide +kernel
theorem dX1_write_99 : decode cX1_write 99 = .ok (.iload_n 3, 1) := by decide +kernel
theorem dX1_write_100 : decode cX1_write 100 = .ok (.iastore, 1) := by decide +kernel
theorem dX1_write_101 : decode cX1_write 101 = .ok (.goto 58, 3) := by decide +kernel
theorem dX1_write_104 : decode cX1_write 104 = .ok (.aload_n 0, 1) := by decide +kernel
theorem dX1_write_105 : decode cX1_write 105 = .ok (.getfield 21, 3) := by decide +kernel
theorem dX1_write_108 : decode cX1_write 108 = .ok (.iload_n 2, 1) := by decide +kernel
theorem dX1_write_109 : decode cX1_write 109 = .ok (.iload_n 3, 1) := by decide +kernel
theorem dX1_write_110 : decode cX1_write 110 = .ok (.iastore, 1) := by decide +kernel
theorem dX1_write_111 : decode cX1_write 111 = .ok (.goto 48, 3) := by decide +kernel
theorem dX1_write_114 : decode cX1_write 114 = .ok (.aload_n 0, 1) := by decide +kernel
theorem dX1_write_115 : decode cX1_write 115 = .ok (.getfield 24, 3) := by decide +kernel
theorem dX1_write_118 : decode cX1_write 118 = .ok (.iload_n 2, 1) := by decide +kernel
theorem dX1_write_119 : decode cX1_write 119 = .ok (.iload_n 3, 1) := by decide +kernel
theorem dX1_write_120 : decode cX1_write 120 = .ok (.iastore, 1) := by decide +kernel
theorem dX1_write_121 : decode cX1_write 121 = .ok (.goto 38, 3) := by decide +kernel
theorem dX1_write_124 : decode cX1_write 124 = .ok (.aload_n 0, 1) := by decide +kernel
theorem dX1_write_125 : decode cX1_write 125 = .ok (.getfield 27, 3) := by decide +kernel
theorem dX1_write_128 : decode cX1_write 128 = .ok (.iload_n 2, 1) := by decide +kernel
theorem dX1_write_129 : decode cX1_write 129 = .ok (.iload_n 3, 1) := by decide +kernel
theorem dX1_write_130 : decode cX1_write 130 = .ok (.iastore, 1) := by decide +kernel
theorem dX1_write_131 : decode cX1_write 131 = .ok (.goto 28, 3) := by decide +kernel
theorem dX1_write_134 : decode cX1_write 134 = .ok (.aload_n 0, 1) := by decide +kernel
theorem dX1_write_135 : decode cX1_write 135 = .ok (.getfield 9, 3) := by decide +kernel
theorem dX1_write_138 : decode cX1_write 138 = .ok (.iload_n 2, 1) := by decide +kernel
theorem dX1_write_139 : decode cX1_write 139 = .ok (.iload_n 3, 1) := by decide +kernel
theorem dX1_write_140 : decode cX1_write 140 = .ok (.iastore, 1) := by decide +kernel
theorem dX1_write_141 : decode cX1_write 141 = .ok (.goto 18, 3) := by decide +kernel
theorem dX1_write_144 : decode cX1_write 144 = .ok (.aload_n 0, 1) := by decide +kernel
theorem dX1_write_145 : decode cX1_write 145 = .ok (.getfield 30, 3) := by decide +kernel
theorem dX1_write_148 : decode cX1_write 148 = .ok (.iload_n 2, 1) := by decide +kernel
theorem dX1_write_149 : decode cX1_write 149 = .ok (.iload_n 3, 1) := by decide +kernel
theorem dX1_write_150 : decode cX1_write 150 = .ok (.iastore, 1) := by decide +kernel
theorem dX1_write_151 : decode cX1_write 151 = .ok (.goto 8, 3) := by decide +kernel
theorem dX1_write_154 : decode cX1_write 154 = .ok (.aload_n 0, 1) := by decide +kernel
theorem dX1_write_155 : decode cX1_write 155 = .ok (.iload_n 3, 1) := by decide +kernel
theorem dX1_write_156 : decode cX1_write 156 = .ok (.putfield 40, 3) := by decide +kernel
theorem dX1_write_159 : decode cX1_write 159 = .ok (.return_, 1) := by decide +kernel
theorem dX1_admit_0 : decode cX1_admit 0 = .ok (.iload_n 1, 1) := by decide +kernel
theorem dX1_admit_1 : decode cX1_admit 1 = .ok (.ifCond .lt 28, 3) := by decide +kernel
theorem dX1_admit_4 : decode cX1_admit 4 = .ok (.iload_n 1, 1) := by decide +kernel
theorem dX1_admit_5 : decode cX1_admit 5 = .ok (.iconst 5, 1) := by decide +kernel
theorem dX1_admit_6 : decode cX1_admit 6 = .ok (.if_icmp .gt 23, 3) := by decide +kernel
theorem dX1_admit_9 : decode cX1_admit 9 = .ok (.iload_n 2, 1) := by decide +kernel
theorem dX1_admit_10 : decode cX1_admit 10 = .ok (.ifCond .lt 19, 3) := by decide +kernel
theorem dX1_admit_13 : decode cX1_admit 13 = .ok (.iload_n 2, 1) := by decide +kernel
theorem dX1_admit_14 : decode cX1_admit 14 = .ok (.bipush 9, 2) := by decide +kernel
theorem dX1_admit_16 : decode cX1_admit 16 = .ok (.if_icmp .gt 13, 3) := by decide +kernel
theorem dX1_admit_19 : decode cX1_admit 19 = .ok (.iload_n 3, 1) := by decide +kernel
theorem dX1_admit_20 : decode cX1_admit 20 = .ok (.ifCond .lt 9, 3) := by decide +kernel
theorem dX1_admit_23 : decode cX1_admit 23 = .ok (.iload_n 3, 1) := by decide +kernel
theorem dX1_admit_24 : decode cX1_admit 24 = .ok (.bipush 99, 2) := by decide +kernel
theorem dX1_admit_26 : decode cX1_admit 26 = .ok (.if_icmp .le 6, 3) := by decide +kernel
theorem dX1_admit_29 : decode cX1_admit 29 = .ok (.bipush (-2), 2) := by decide +kernel
theorem dX1_admit_31 : decode cX1_admit 31 = .ok (.ireturn, 1) := by decide +kernel
theorem dX1_admit_32 : decode cX1_admit 32 = .ok (.aload_n 0, 1) := by decide +kernel
theorem dX1_admit_33 : decode cX1_admit 33 = .ok (.getfield 43, 3) := by decide +kernel
theorem dX1_admit_36 : decode cX1_admit 36 = .ok (.iconst 5, 1) := by decide +kernel
theorem dX1_admit_37 : decode cX1_admit 37 = .ok (.if_icmp .lt 6, 3) := by decide +kernel
theorem dX1_admit_40 : decode cX1_admit 40 = .ok (.bipush (-4), 2) := by decide +kernel
theorem dX1_admit_42 : decode cX1_admit 42 = .ok (.ireturn, 1) := by decide +kernel
theorem dX1_admit_43 : decode cX1_admit 43 = .ok (.aload_n 0, 1) := by decide +kernel
theorem dX1_admit_44 : decode cX1_admit 44 = .ok (.getfield 9, 3) := by decide +kernel
theorem dX1_admit_47 : decode cX1_admit 47 = .ok (.aload_n 0, 1) := by decide +kernel
theorem dX1_admit_48 : decode cX1_admit 48 = .ok (.getfield 43, 3) := by decide +kernel
theorem dX1_admit_51 : decode cX1_admit 51 = .ok (.iload_n 1, 1) := by decide +kernel
theorem dX1_admit_52 : decode cX1_admit 52 = .ok (.iastore, 1) := by decide +kernel
theorem dX1_admit_53 : decode cX1_admit 53 = .ok (.aload_n 0, 1) := by decide +kernel
theorem dX1_admit_54 : decode cX1_admit 54 = .ok (.getfield 15, 3) := by decide +kernel
theorem dX1_admit_57 : decode cX1_admit 57 = .ok (.aload_n 0, 1) := by decide +kernel
theorem dX1_admit_58 : decode cX1_admit 58 = .ok (.getfield 43, 3) := by decide +kernel
theorem dX1_admit_61 : decode cX1_admit 61 = .ok (.iload_n 2, 1) := by decide +kernel
theorem dX1_admit_62 : decode cX1_admit 62 = .ok (.iastore, 1) := by decide +kernel
theorem dX1_admit_63 : decode cX1_admit 63 = .ok (.aload_n 0, 1) := by decide +kernel
theorem dX1_admit_64 : decode cX1_admit 64 = .ok (.getfield 18, 3) := by decide +kernel
theorem dX1_admit_67 : decode cX1_admit 67 = .ok (.aload_n 0, 1) := by decide +kernel
theorem dX1_admit_68 : decode cX1_admit 68 = .ok (.getfield 43, 3) := by decide +kernel
theorem dX1_admit_71 : decode cX1_admit 71 = .ok (.iload_n 3, 1) := by decide +kernel
theorem dX1_admit_72 : decode cX1_admit 72 = .ok (.iastore, 1) := by decide +kernel
theorem dX1_admit_73 : decode cX1_admit 73 = .ok (.aload_n 0, 1) := by decide +kernel
theorem dX1_admit_74 : decode cX1_admit 74 = .ok (.getfield 21, 3) := by decide +kernel
theorem dX1_admit_77 : decode cX1_admit 77 = .ok (.aload_n 0, 1) := by decide +kernel
theorem dX1_admit_78 : decode cX1_admit 78 = .ok (.getfield 43, 3) := by decide +kernel
theorem dX1_admit_81 : decode cX1_admit 81 = .ok (.iconst 0, 1) := by decide +kernel
theorem dX1_admit_82 : decode cX1_admit 82 = .ok (.iastore, 1) := by decide +kernel
theorem dX1_admit_83 : decode cX1_admit 83 = .ok (.aload_n 0, 1) := by decide +kernel
theorem dX1_admit_84 : decode cX1_admit 84 = .ok (.dup, 1) := by decide +kernel
theorem dX1_admit_85 : decode cX1_admit 85 = .ok (.getfield 43, 3) := by decide +kernel
theorem dX1_admit_88 : decode cX1_admit 88 = .ok (.iconst 1, 1) := by decide +kernel
theorem dX1_admit_89 : decode cX1_admit 89 = .ok (.iadd, 1) := by decide +kernel
theorem dX1_admit_90 : decode cX1_admit 90 = .ok (.putfield 43, 3) := by decide +kernel
theorem dX1_admit_93 : decode cX1_admit 93 = .ok (.aload_n 0, 1) := by decide +kernel
theorem dX1_admit_94 : decode cX1_admit 94 = .ok (.getfield 43, 3) := by decide +kernel
theorem dX1_admit_97 : decode cX1_admit 97 = .ok (.iconst 1, 1) := by decide +kernel
theorem dX1_admit_98 : decode cX1_admit 98 = .ok (.isub, 1) := by decide +kernel
theorem dX1_admit_99 : decode cX1_admit 99 = .ok (.ireturn, 1) := by decide +kernel
theorem dX1_bringNews_0 : decode cX1_bringNews 0 = .ok (.aload_n 0, 1) := by decide +kernel
theorem dX1_bringNews_1 : decode cX1_bringNews 1 = .ok (.iload_n 1, 1) := by decide +kernel
theorem dX1_bringNews_2 : decode cX1_bringNews 2 = .ok (.invokevirtual 52, 3) := by decide +kernel
theorem dX1_bringNews_5 : decode cX1_bringNews 5 = .ok (.ifCond .ne 4, 3) := by decide +kernel
theorem dX1_bringNews_8 : decode cX1_bringNews 8 = .ok (.return_, 1) := by decide +kernel
theorem dX1_bringNews_9 : decode cX1_bringNews 9 = .ok (.aload_n 0, 1) := by decide +kernel
theorem dX1_bringNews_10 : decode cX1_bringNews 10 = .ok (.getfield 21, 3) := by decide +kernel
theorem dX1_bringNews_13 : decode cX1_bringNews 13 = .ok (.iload_n 1, 1) := by decide +kernel
theorem dX1_bringNews_14 : decode cX1_bringNews 14 = .ok (.aload_n 0, 1) := by decide +kernel
theorem dX1_bringNews_15 : decode cX1_bringNews 15 = .ok (.getfield 21, 3) := by decide +kernel
theorem dX1_bringNews_18 : decode cX1_bringNews 18 = .ok (.iload_n 1, 1) := by decide +kernel
theorem dX1_bringNews_19 : decode cX1_bringNews 19 = .ok (.iaload, 1) := by decide +kernel
theorem dX1_bringNews_20 : decode cX1_bringNews 20 = .ok (.iconst 1, 1) := by decide +kernel
theorem dX1_bringNews_21 : decode cX1_bringNews 21 = .ok (.iadd, 1) := by decide +kernel
theorem dX1_bringNews_22 : decode cX1_bringNews 22 = .ok (.invokestatic 63, 3) := by decide +kernel
theorem dX1_bringNews_25 : decode cX1_bringNews 25 = .ok (.iastore, 1) := by decide +kernel
theorem dX1_bringNews_26 : decode cX1_bringNews 26 = .ok (.aload_n 0, 1) := by decide +kernel
theorem dX1_bringNews_27 : decode cX1_bringNews 27 = .ok (.getfield 18, 3) := by decide +kernel
theorem dX1_bringNews_30 : decode cX1_bringNews 30 = .ok (.iload_n 1, 1) := by decide +kernel
theorem dX1_bringNews_31 : decode cX1_bringNews 31 = .ok (.iconst 0, 1) := by decide +kernel
theorem dX1_bringNews_32 : decode cX1_bringNews 32 = .ok (.iastore, 1) := by decide +kernel
theorem dX1_bringNews_33 : decode cX1_bringNews 33 = .ok (.return_, 1) := by decide +kernel
theorem dX1_heldInAll_0 : decode cX1_heldInAll 0 = .ok (.iconst 0, 1) := by decide +kernel
theorem dX1_heldInAll_1 : decode cX1_heldInAll 1 = .ok (.istore_n 1, 1) := by decide +kernel
theorem dX1_heldInAll_2 : decode cX1_heldInAll 2 = .ok (.iconst 0, 1) := by decide +kernel
theorem dX1_heldInAll_3 : decode cX1_heldInAll 3 = .ok (.istore_n 2, 1) := by decide +kernel
theorem dX1_heldInAll_4 : decode cX1_heldInAll 4 = .ok (.iload_n 2, 1) := by decide +kernel
theorem dX1_heldInAll_5 : decode cX1_heldInAll 5 = .ok (.bipush 6, 2) := by decide +kernel
theorem dX1_heldInAll_7 : decode cX1_heldInAll 7 = .ok (.if_icmp .ge 18, 3) := by decide +kernel
theorem dX1_heldInAll_10 : decode cX1_heldInAll 10 = .ok (.iload_n 1, 1) := by decide +kernel
theorem dX1_heldInAll_11 : decode cX1_heldInAll 11 = .ok (.aload_n 0, 1) := by decide +kernel
theorem dX1_heldInAll_12 : decode cX1_heldInAll 12 = .ok (.getfield 30, 3) := by decide +kernel
theorem dX1_heldInAll_15 : decode cX1_heldInAll 15 = .ok (.iload_n 2, 1) := by decide +kernel
theorem dX1_heldInAll_16 : decode cX1_heldInAll 16 = .ok (.iaload, 1) := by decide +kernel
theorem dX1_heldInAll_17 : decode cX1_heldInAll 17 = .ok (.iadd, 1) := by decide +kernel
theorem dX1_heldInAll_18 : decode cX1_heldInAll 18 = .ok (.istore_n 1, 1) := by decide +kernel
theorem dX1_heldInAll_19 : decode cX1_heldInAll 19 = .ok (.iinc 2 1, 3) := by decide +kernel
theorem dX1_heldInAll_22 : decode cX1_heldInAll 22 = .ok (.goto (-18), 3) := by decide +kernel
theorem dX1_heldInAll_25 : decode cX1_heldInAll 25 = .ok (.iload_n 1, 1) := by decide +kernel
theorem dX1_heldInAll_26 : decode cX1_heldInAll 26 = .ok (.ireturn, 1) := by decide +kernel
theorem dX1_fullCups_0 : decode cX1_fullCups 0 = .ok (.iconst 0, 1) := by decide +kernel
theorem dX1_fullCups_1 : decode cX1_fullCups 1 = .ok (.istore_n 1, 1) := by decide +kernel
theorem dX1_fullCups_2 : decode cX1_fullCups 2 = .ok (.iconst 0, 1) := by decide +kernel
theorem dX1_fullCups_3 : decode cX1_fullCups 3 = .ok (.istore_n 2, 1) := by decide +kernel
theorem dX1_fullCups_4 : decode cX1_fullCups 4 = .ok (.iload_n 2, 1) := by decide +kernel
theorem dX1_fullCups_5 : decode cX1_fullCups 5 = .ok (.bipush 6, 2) := by decide +kernel
theorem dX1_fullCups_7 : decode cX1_fullCups 7 = .ok (.if_icmp .ge 30, 3) := by decide +kernel
theorem dX1_fullCups_10 : decode cX1_fullCups 10 = .ok (.aload_n 0, 1) := by decide +kernel
theorem dX1_fullCups_11 : decode cX1_fullCups 11 = .ok (.getfield 30, 3) := by decide +kernel
theorem dX1_fullCups_14 : decode cX1_fullCups 14 = .ok (.iload_n 2, 1) := by decide +kernel
theorem dX1_fullCups_15 : decode cX1_fullCups 15 = .ok (.iaload, 1) := by decide +kernel
theorem dX1_fullCups_16 : decode cX1_fullCups 16 = .ok (.aload_n 0, 1) := by decide +kernel
theorem dX1_fullCups_17 : decode cX1_fullCups 17 = .ok (.getfield 24, 3) := by decide +kernel
theorem dX1_fullCups_20 : decode cX1_fullCups 20 = .ok (.iload_n 2, 1) := by decide +kernel
theorem dX1_fullCups_21 : decode cX1_fullCups 21 = .ok (.iaload, 1) := by decide +kernel
theorem dX1_fullCups_22 : decode cX1_fullCups 22 = .ok (.if_icmp .ne 9, 3) := by decide +kernel
theorem dX1_fullCups_25 : decode cX1_fullCups 25 = .ok (.iload_n 1, 1) := by decide +kernel
theorem dX1_fullCups_26 : decode cX1_fullCups 26 = .ok (.iconst 1, 1) := by decide +kernel
theorem dX1_fullCups_27 : decode cX1_fullCups 27 = .ok (.iload_n 2, 1) := by decide +kernel
theorem dX1_fullCups_28 : decode cX1_fullCups 28 = .ok (.ishl, 1) := by decide +kernel
theorem dX1_fullCups_29 : decode cX1_fullCups 29 = .ok (.ior, 1) := by decide +kernel
theorem dX1_fullCups_30 : decode cX1_fullCups 30 = .ok (.istore_n 1, 1) := by decide +kernel
theorem dX1_fullCups_31 : decode cX1_fullCups 31 = .ok (.iinc 2 1, 3) := by decide +kernel
theorem dX1_fullCups_34 : decode cX1_fullCups 34 = .ok (.goto (-30), 3) := by decide +kernel
theorem dX1_fullCups_37 : decode cX1_fullCups 37 = .ok (.iload_n 1, 1) := by decide +kernel
theorem dX1_fullCups_38 : decode cX1_fullCups 38 = .ok (.ireturn, 1) := by decide +kernel
theorem dX2_init_0 : decode cX2_init 0 = .ok (.aload_n 0, 1) := by decide +kernel
theorem dX2_init_1 : decode cX2_init 1 = .ok (.invokespecial 3, 3) := by decide +kernel
theorem dX2_init_4 : decode cX2_init 4 = .ok (.aload_n 0, 1) := by decide +kernel
theorem dX2_init_5 : decode cX2_init 5 = .ok (.bipush 6, 2) := by decide +kernel
theorem dX2_init_7 : decode cX2_init 7 = .ok (.anewarray 9, 3) := by decide +kernel
theorem dX2_init_10 : decode cX2_init 10 = .ok (.putfield 11, 3) := by decide +kernel
theorem dX2_init_13 : decode cX2_init 13 = .ok (.aload_n 0, 1) := by decide +kernel
theorem dX2_init_14 : decode cX2_init 14 = .ok (.iconst 1, 1) := by decide +kernel
theorem dX2_init_15 : decode cX2_init 15 = .ok (.putfield 17, 3) := by decide +kernel
theorem dX2_init_18 : decode cX2_init 18 = .ok (.aload_n 0, 1) := by decide +kernel
theorem dX2_init_19 : decode cX2_init 19 = .ok (.bipush 32, 2) := by decide +kernel
theorem dX2_init_21 : decode cX2_init 21 = .ok (.newarray .int, 2) := by decide +kernel
theorem dX2_init_23 : decode cX2_init 23 = .ok (.putfield 21, 3) := by decide +kernel
theorem dX2_init_26 : decode cX2_init 26 = .ok (.iconst 0, 1) := by decide +kernel
theorem dX2_init_27 : decode cX2_init 27 = .ok (.istore_n 1, 1) := by decide +kernel
theorem dX2_init_28 : decode cX2_init 28 = .ok (.iload_n 1, 1) := by decide +kernel
theorem dX2_init_29 : decode cX2_init 29 = .ok (.bipush 6, 2) := by decide +kernel
theorem dX2_init_31 : decode cX2_init 31 = .ok (.if_icmp .ge 22, 3) := by decide +kernel
theorem dX2_init_34 : decode cX2_init 34 = .ok (.aload_n 0, 1) := by decide +kernel
theorem dX2_init_35 : decode cX2_init 35 = .ok (.getfield 11, 3) := by decide +kernel
theorem dX2_init_38 : decode cX2_init 38 = .ok (.iload_n 1, 1) := by decide +kernel
theorem dX2_init_39 : decode cX2_init 39 = .ok (.new 9, 3) := by decide +kernel
theorem dX2_init_42 : decode cX2_init 42 = .ok (.dup, 1) := by decide +kernel
theorem dX2_init_43 : decode cX2_init 43 = .ok (.invokespecial 25, 3) := by decide +kernel
theorem dX2_init_46 : decode cX2_init 46 = .ok (.aastore, 1) := by decide +kernel
theorem dX2_init_47 : decode cX2_init 47 = .ok (.iinc 1 1, 3) := by decide +kernel
theorem dX2_init_50 : decode cX2_init 50 = .ok (.goto (-22), 3) := by decide +kernel
theorem dX2_init_53 : decode cX2_init 53 = .ok (.aload_n 0, 1) := by decide +kernel
theorem dX2_init_54 : decode cX2_init 54 = .ok (.getfield 11, 3) := by decide +kernel
theorem dX2_init_57 : decode cX2_init 57 = .ok (.iconst 0, 1) := by decide +kernel
theorem dX2_init_58 : decode cX2_init 58 = .ok (.aaload, 1) := by decide +kernel
theorem dX2_init_59 : decode cX2_init 59 = .ok (.invokevirtual 26, 3) := by decide +kernel
theorem dX2_init_62 : decode cX2_init 62 = .ok (.return_, 1) := by decide +kernel
theorem dX2_size_0 : decode cX2_size 0 = .ok (.aload_n 0, 1) := by decide +kernel
theorem dX2_size_1 : decode cX2_size 1 = .ok (.getfield 17, 3) := by decide +kernel
theorem dX2_size_4 : decode cX2_size 4 = .ok (.ireturn, 1) := by decide +kernel
theorem dX2_isFull_0 : decode cX2_isFull 0 = .ok (.aload_n 0, 1) := by decide +kernel
theorem dX2_isFull_1 : decode cX2_isFull 1 = .ok (.getfield 17, 3) := by decide +kernel
theorem dX2_isFull_4 : decode cX2_isFull 4 = .ok (.bipush 6, 2) := by decide +kernel
theorem dX2_isFull_6 : decode cX2_isFull 6 = .ok (.if_icmp .lt 7, 3) := by decide +kernel
theorem dX2_isFull_9 : decode cX2_isFull 9 = .ok (.iconst 1, 1) := by decide +kernel
theorem dX2_isFull_10 : decode cX2_isFull 10 = .ok (.goto 4, 3) := by decide +kernel
theorem dX2_isFull_13 : decode cX2_isFull 13 = .ok (.iconst 0, 1) := by decide +kernel
theorem dX2_isFull_14 : decode cX2_isFull 14 = .ok (.ireturn, 1) := by decide +kernel
theorem dX2_hasText_0 : decode cX2_hasText 0 = .ok (.iload_n 1, 1) := by decide +kernel
theorem dX2_hasText_1 : decode cX2_hasText 1 = .ok (.ifCond .lt 15, 3) := by decide +kernel
theorem dX2_hasText_4 : decode cX2_hasText 4 = .ok (.iload_n 1, 1) := by decide +kernel
theorem dX2_hasText_5 : decode cX2_hasText 5 = .ok (.aload_n 0, 1) := by decide +kernel
theorem dX2_hasText_6 : decode cX2_hasText 6 = .ok (.getfield 17, 3) := by decide +kernel
theorem dX2_hasText_9 : decode cX2_hasText 9 = .ok (.if_icmp .ge 7, 3) := by decide +kernel
theorem dX2_hasText_12 : decode cX2_hasText 12 = .ok (.iconst 1, 1) := by decide +kernel
theorem dX2_hasText_13 : decode cX2_hasText 13 = .ok (.goto 4, 3) := by decide +kernel
theorem dX2_hasText_16 : decode cX2_hasText 16 = .ok (.iconst 0, 1) := by decide +kernel
theorem dX2_hasText_17 : decode cX2_hasText 17 = .ok (.ireturn, 1) := by decide +kernel
theorem dX2_nextText_0 : decode cX2_nextText 0 = .ok (.aload_n 0, 1) := by decide +kernel
theorem dX2_nextText_1 : decode cX2_nextText 1 = .ok (.getfield 11, 3) := by decide +kernel
theorem dX2_nextText_4 : decode cX2_nextText 4 = .ok (.aload_n 0, 1) := by decide +kernel
theorem dX2_nextText_5 : decode cX2_nextText 5 = .ok (.getfield 17, 3) := by decide +kernel
theorem dX2_nextText_8 : decode cX2_nextText 8 = .ok (.iconst 5, 1) := by decide +kernel
theorem dX2_nextText_9 : decode cX2_nextText 9 = .ok (.invokestatic 29, 3) := by decide +kernel
theorem dX2_nextText_12 : decode cX2_nextText 12 = .ok (.aaload, 1) := by decide +kernel
theorem dX2_nextText_13 : decode cX2_nextText 13 = .ok (.areturn, 1) := by decide +kernel
theorem dX2_keepNext_0 : decode cX2_keepNext 0 = .ok (.aload_n 0, 1) := by decide +kernel
theorem dX2_keepNext_1 : decode cX2_keepNext 1 = .ok (.aload_n 0, 1) := by decide +kernel
theorem dX2_keepNext_2 : decode cX2_keepNext 2 = .ok (.getfield 17, 3) := by decide +kernel
theorem dX2_keepNext_5 : decode cX2_keepNext 5 = .ok (.iconst 1, 1) := by decide +kernel
theorem dX2_keepNext_6 : decode cX2_keepNext 6 = .ok (.iadd, 1) := by decide +kernel
theorem dX2_keepNext_7 : decode cX2_keepNext 7 = .ok (.bipush 6, 2) := by decide +kernel
theorem dX2_keepNext_9 : decode cX2_keepNext 9 = .ok (.invokestatic 29, 3) := by decide +kernel
theorem dX2_keepNext_12 : decode cX2_keepNext 12 = .ok (.putfield 17, 3) := by decide +kernel
theorem dX2_keepNext_15 : decode cX2_keepNext 15 = .ok (.aload_n 0, 1) := by decide +kernel
theorem dX2_keepNext_16 : decode cX2_keepNext 16 = .ok (.getfield 17, 3) := by decide +kernel
theorem dX2_keepNext_19 : decode cX2_keepNext 19 = .ok (.iconst 1, 1) := by decide +kernel
theorem dX2_keepNext_20 : decode cX2_keepNext 20 = .ok (.isub, 1) := by decide +kernel
theorem dX2_keepNext_21 : decode cX2_keepNext 21 = .ok (.ireturn, 1) := by decide +kernel
theorem dX2_yieldOf_0 : decode cX2_yieldOf 0 = .ok (.aload_n 1, 1) := by decide +kernel
theorem dX2_yieldOf_1 : decode cX2_yieldOf 1 = .ok (.iload_n 2, 1) := by decide +kernel
theorem dX2_yieldOf_2 : decode cX2_yieldOf 2 = .ok (.invokevirtual 35, 3) := by decide +kernel
theorem dX2_yieldOf_5 : decode cX2_yieldOf 5 = .ok (.ifCond .eq 12, 3) := by decide +kernel
theorem dX2_yieldOf_8 : decode cX2_yieldOf 8 = .ok (.aload_n 1, 1) := by decide +kernel
theorem dX2_yieldOf_9 : decode cX2_yieldOf 9 = .ok (.getfield 41, 3) := by decide +kernel
theorem dX2_yieldOf_12 : decode cX2_yieldOf 12 = .ok (.iload_n 2, 1) := by decide +kernel
theorem dX2_yieldOf_13 : decode cX2_yieldOf 13 = .ok (.iaload, 1) := by decide +kernel
theorem dX2_yieldOf_14 : decode cX2_yieldOf 14 = .ok (.ifCond .ne 5, 3) := by decide +kernel
theorem dX2_yieldOf_17 : decode cX2_yieldOf 17 = .ok (.iconst 0, 1) := by decide +kernel
theorem dX2_yieldOf_18 : decode cX2_yieldOf 18 = .ok (.ireturn, 1) := by decide +kernel
theorem dX2_yieldOf_19 : decode cX2_yieldOf 19 = .ok (.aload_n 0, 1) := by decide +kernel
theorem dX2_yieldOf_20 : decode cX2_yieldOf 20 = .ok (.aload_n 1, 1) := by decide +kernel
theorem dX2_yieldOf_21 : decode cX2_yieldOf 21 = .ok (.invokevirtual 44, 3) := by decide +kernel
theorem dX2_yieldOf_24 : decode cX2_yieldOf 24 = .ok (.iconst 0, 1) := by decide +kernel
theorem dX2_yieldOf_25 : decode cX2_yieldOf 25 = .ok (.aload_n 1, 1) := by decide +kernel
theorem dX2_yieldOf_26 : decode cX2_yieldOf 26 = .ok (.iload_n 2, 1) := by decide +kernel
theorem dX2_yieldOf_27 : decode cX2_yieldOf 27 = .ok (.iconst 0, 1) := by decide +kernel
theorem dX2_yieldOf_28 : decode cX2_yieldOf 28 = .ok (.aload_n 0, 1) := by decide +kernel
theorem dX2_yieldOf_29 : decode cX2_yieldOf 29 = .ok (.getfield 21, 3) := by decide +kernel
theorem dX2_yieldOf_32 : decode cX2_yieldOf 32 = .ok (.invokevirtual 48, 3) := by decide +kernel
theorem dX2_yieldOf_35 : decode cX2_yieldOf 35 = .ok (.invokestatic 52, 3) := by decide +kernel
theorem dX2_yieldOf_38 : decode cX2_yieldOf 38 = .ok (.istore_n 3, 1) := by decide +kernel
theorem dX2_yieldOf_39 : decode cX2_yieldOf 39 = .ok (.aload_n 0, 1) := by decide +kernel
theorem dX2_yieldOf_40 : decode cX2_yieldOf 40 = .ok (.aload_n 1, 1) := by decide +kernel
theorem dX2_yieldOf_41 : decode cX2_yieldOf 41 = .ok (.iload_n 2, 1) := by decide +kernel
theorem dX2_yieldOf_42 : decode cX2_yieldOf 42 = .ok (.iload_n 3, 1) := by decide +kernel
theorem dX2_yieldOf_43 : decode cX2_yieldOf 43 = .ok (.invokevirtual 56, 3) := by decide +kernel
theorem dX2_yieldOf_46 : decode cX2_yieldOf 46 = .ok (.invokestatic 52, 3) := by decide +kernel
theorem dX2_yieldOf_49 : decode cX2_yieldOf 49 = .ok (.ireturn, 1) := by decide +kernel
theorem dX2_suitsCup_0 : decode cX2_suitsCup 0 = .ok (.aload_n 1, 1) := by decide +kernel
theorem dX2_suitsCup_1 : decode cX2_suitsCup 1 = .ok (.iload_n 2, 1) := by decide +kernel
theorem dX2_suitsCup_2 : decode cX2_suitsCup 2 = .ok (.invokevirtual 35, 3) := by decide +kernel
theorem dX2_suitsCup_5 : decode cX2_suitsCup 5 = .ok (.ifCond .eq 10, 3) := by decide +kernel
theorem dX2_suitsCup_8 : decode cX2_suitsCup 8 = .ok (.iload_n 3, 1) := by decide +kernel
theorem dX2_suitsCup_9 : decode cX2_suitsCup 9 = .ok (.invokestatic 60, 3) := by decide +kernel
theorem dX2_suitsCup_12 : decode cX2_suitsCup 12 = .ok (.ifCond .ne 5, 3) := by decide +kernel
theorem dX2_suitsCup_15 : decode cX2_suitsCup 15 = .ok (.iconst 0, 1) := by decide +kernel
theorem dX2_suitsCup_16 : decode cX2_suitsCup 16 = .ok (.ireturn, 1) := by decide +kernel
theorem dX2_suitsCup_17 : decode cX2_suitsCup 17 = .ok (.aload_n 1, 1) := by decide +kernel
theorem dX2_suitsCup_18 : decode cX2_suitsCup 18 = .ok (.getfield 63, 3) := by decide +kernel
theorem dX2_suitsCup_21 : decode cX2_suitsCup 21 = .ok (.iload_n 3, 1) := by decide +kernel
theorem dX2_suitsCup_22 : decode cX2_suitsCup 22 = .ok (.iaload, 1) := by decide +kernel
theorem dX2_suitsCup_23 : decode cX2_suitsCup 23 = .ok (.istore 4, 2) := by decide +kernel
theorem dX2_suitsCup_25 : decode cX2_suitsCup 25 = .ok (.aload_n 0, 1) := by decide +kernel
theorem dX2_suitsCup_26 : decode cX2_suitsCup 26 = .ok (.aload_n 1, 1) := by decide +kernel
theorem dX2_suitsCup_27 : decode cX2_suitsCup 27 = .ok (.invokevirtual 44, 3) := by decide +kernel
theorem dX2_suitsCup_30 : decode cX2_suitsCup 30 = .ok (.iconst 1, 1) := by decide +kernel
theorem dX2_suitsCup_31 : decode cX2_suitsCup 31 = .ok (.aload_n 1, 1) := by decide +kernel
theorem dX2_suitsCup_32 : decode cX2_suitsCup 32 = .ok (.iload_n 2, 1) := by decide +kernel
theorem dX2_suitsCup_33 : decode cX2_suitsCup 33 = .ok (.iload 4, 2) := by decide +kernel
theorem dX2_suitsCup_35 : decode cX2_suitsCup 35 = .ok (.aload_n 0, 1) := by decide +kernel
theorem dX2_suitsCup_36 : decode cX2_suitsCup 36 = .ok (.getfield 21, 3) := by decide +kernel
theorem dX2_suitsCup_39 : decode cX2_suitsCup 39 = .ok (.invokevirtual 48, 3) := by decide +kernel
theorem dX2_suitsCup_42 : decode cX2_suitsCup 42 = .ok (.ifCond .eq 7, 3) := by decide +kernel
theorem dX2_suitsCup_45 : decode cX2_suitsCup 45 = .ok (.iconst 1, 1) := by decide +kernel
theorem dX2_suitsCup_46 : decode cX2_suitsCup 46 = .ok (.goto 4, 3) := by decide +kernel
theorem dX2_suitsCup_49 : decode cX2_suitsCup 49 = .ok (.iconst 0, 1) := by decide +kernel
theorem dX2_suitsCup_50 : decode cX2_suitsCup 50 = .ok (.istore 5, 2) := by decide +kernel
theorem dX2_suitsCup_52 : decode cX2_suitsCup 52 = .ok (.iload 5, 2) := by decide +kernel
theorem dX2_suitsCup_54 : decode cX2_suitsCup 54 = .ok (.ifCond .eq 18, 3) := by decide +kernel
theorem dX2_suitsCup_57 : decode cX2_suitsCup 57 = .ok (.iload 4, 2) := by decide +kernel
theorem dX2_suitsCup_59 : decode cX2_suitsCup 59 = .ok (.aload_n 1, 1) := by decide +kernel
theorem dX2_suitsCup_60 : decode cX2_suitsCup 60 = .ok (.getfield 66, 3) := by decide +kernel
theorem dX2_suitsCup_63 : decode cX2_suitsCup 63 = .ok (.iload_n 2, 1) := by decide +kernel
theorem dX2_suitsCup_64 : decode cX2_suitsCup 64 = .ok (.iaload, 1) := by decide +kernel
theorem dX2_suitsCup_65 : decode cX2_suitsCup 65 = .ok (.if_icmp .eq 7, 3) := by decide +kernel
theorem dX2_suitsCup_68 : decode cX2_suitsCup 68 = .ok (.iconst 1, 1) := by decide +kernel
theorem dX2_suitsCup_69 : decode cX2_suitsCup 69 = .ok (.goto 4, 3) := by decide +kernel
theorem dX2_suitsCup_72 : decode cX2_suitsCup 72 = .ok (.iconst 0, 1) := by decide +kernel
theorem dX2_suitsCup_73 : decode cX2_suitsCup 73 = .ok (.istore 6, 2) := by decide +kernel
theorem dX2_suitsCup_75 : decode cX2_suitsCup 75 = .ok (.aload_n 1, 1) := by decide +kernel
theorem dX2_suitsCup_76 : decode cX2_suitsCup 76 = .ok (.getfield 69, 3) := by decide +kernel
theorem dX2_suitsCup_79 : decode cX2_suitsCup 79 = .ok (.iload_n 2, 1) := by decide +kernel
theorem dX2_suitsCup_80 : decode cX2_suitsCup 80 = .ok (.iaload, 1) := by decide +kernel
theorem dX2_suitsCup_81 : decode cX2_suitsCup 81 = .ok (.tableswitch 86 1 5 #[35, 38, 55, 73, 84], 35) := by decide +kernel
theorem dX2_suitsCup_116 : decode cX2_suitsCup 116 = .ok (.iload 6, 2) := by decide +kernel
theorem dX2_suitsCup_118 : decode cX2_suitsCup 118 = .ok (.ireturn, 1) := by decide +kernel
theorem dX2_suitsCup_119 : decode cX2_suitsCup 119 = .ok (.iload 5, 2) := by decide +kernel
theorem dX2_suitsCup_121 : decode cX2_suitsCup 121 = .ok (.ifCond .ne 9, 3) := by decide +kernel
theorem dX2_suitsCup_124 : decode cX2_suitsCup 124 = .ok (.iload 4, 2) := by decide +kernel
theorem dX2_suitsCup_126 : decode cX2_suitsCup 126 = .ok (.iconst 3, 1) := by decide +kernel
theorem dX2_suitsCup_127 : decode cX2_suitsCup 127 = .ok (.if_icmp .ge 7, 3) := by decide +kernel
theorem dX2_suitsCup_130 : decode cX2_suitsCup 130 = .ok (.iconst 1, 1) := by decide +kernel
theorem dX2_suitsCup_131 : decode cX2_suitsCup 131 = .ok (.goto 4, 3) := by decide +kernel
theorem dX2_suitsCup_134 : decode cX2_suitsCup 134 = .ok (.iconst 0, 1) := by decide +kernel
theorem dX2_suitsCup_135 : decode cX2_suitsCup 135 = .ok (.ireturn, 1) := by decide +kernel
theorem dX2_suitsCup_136 : decode cX2_suitsCup 136 = .ok (.iload 6, 2) := by decide +kernel
theorem dX2_suitsCup_138 : decode cX2_suitsCup 138 = .ok (.ifCond .ne 10, 3) := by decide +kernel
theorem dX2_suitsCup_141 : decode cX2_suitsCup 141 = .ok (.iload 4, 2) := by decide +kernel
theorem dX2_suitsCup_143 : decode cX2_suitsCup 143 = .ok (.bipush 9, 2) := by decide +kernel
theorem dX2_suitsCup_145 : decode cX2_suitsCup 145 = .ok (.if_icmp .ne 7, 3) := by decide +kernel
theorem dX2_suitsCup_148 : decode cX2_suitsCup 148 = .ok (.iconst 1, 1) := by decide +kernel
theorem dX2_suitsCup_149 : decode cX2_suitsCup 149 = .ok (.goto 4, 3) := by decide +kernel
theorem dX2_suitsCup_152 : decode cX2_suitsCup 152 = .ok (.iconst 0, 1) := by decide +kernel
theorem dX2_suitsCup_153 : decode cX2_suitsCup 153 = .ok (.ireturn, 1) := by decide +kernel
theorem dX2_suitsCup_154 : decode cX2_suitsCup 154 = .ok (.iload_n 3, 1) := by decide +kernel
theorem dX2_suitsCup_155 : decode cX2_suitsCup 155 = .ok (.iconst 5, 1) := by decide +kernel
theorem dX2_suitsCup_156 : decode cX2_suitsCup 156 = .ok (.if_icmp .ne 7, 3) := by decide +kernel
theorem dX2_suitsCup_159 : decode cX2_suitsCup 159 = .ok (.iconst 1, 1) := by decide +kernel
theorem dX2_suitsCup_160 : decode cX2_suitsCup 160 = .ok (.goto 4, 3) := by decide +kernel
theorem dX2_suitsCup_163 : decode cX2_suitsCup 163 = .ok (.iconst 0, 1) := by decide +kernel
theorem dX2_suitsCup_164 : decode cX2_suitsCup 164 = .ok (.ireturn, 1) := by decide +kernel
theorem dX2_suitsCup_165 : decode cX2_suitsCup 165 = .ok (.iconst 1, 1) := by decide +kernel
theorem dX2_suitsCup_166 : decode cX2_suitsCup 166 = .ok (.ireturn, 1) := by decide +kernel
theorem dX2_suitsCup_167 : decode cX2_suitsCup 167 = .ok (.iload 5, 2) := by decide +kernel
theorem dX2_suitsCup_169 : decode cX2_suitsCup 169 = .ok (.ireturn, 1) := by decide +kernel
theorem dX2_suitBits_0 : decode cX2_suitBits 0 = .ok (.iconst 0, 1) := by decide +kernel
theorem dX2_suitBits_1 : decode cX2_suitBits 1 = .ok (.istore_n 3, 1) := by decide +kernel
theorem dX2_suitBits_2 : decode cX2_suitBits 2 = .ok (.iconst 0, 1) := by decide +kernel
theorem dX2_suitBits_3 : decode cX2_suitBits 3 = .ok (.istore 4, 2) := by decide +kernel
theorem dX2_suitBits_5 : decode cX2_suitBits 5 = .ok (.iload 4, 2) := by decide +kernel
theorem dX2_suitBits_7 : decode cX2_suitBits 7 = .ok (.bipush 6, 2) := by decide +kernel
theorem dX2_suitBits_9 : decode cX2_suitBits 9 = .ok (.if_icmp .ge 27, 3) := by decide +kernel
theorem dX2_suitBits_12 : decode cX2_suitBits 12 = .ok (.aload_n 0, 1) := by decide +kernel
theorem dX2_suitBits_13 : decode cX2_suitBits 13 = .ok (.aload_n 1, 1) := by decide +kernel
theorem dX2_suitBits_14 : decode cX2_suitBits 14 = .ok (.iload_n 2, 1) := by decide +kernel
theorem dX2_suitBits_15 : decode cX2_suitBits 15 = .ok (.iload 4, 2) := by decide +kernel
theorem dX2_suitBits_17 : decode cX2_suitBits 17 = .ok (.invokevirtual 72, 3) := by decide +kernel
theorem dX2_suitBits_20 : decode cX2_suitBits 20 = .ok (.ifCond .eq 10, 3) := by decide +kernel
theorem dX2_suitBits_23 : decode cX2_suitBits 23 = .ok (.iload_n 3, 1) := by decide +kernel
theorem dX2_suitBits_24 : decode cX2_suitBits 24 = .ok (.iconst 1, 1) := by decide +kernel
