theorem dX2_ruling_0 : decode cX2_ruling 0 = .ok (.aload_n 0, 1) := by decide +kernel
theorem dX2_ruling_1 : decode cX2_ruling 1 = .ok (.getfield 11, 3) := by decide +kernel
theorem dX2_ruling_4 : decode cX2_ruling 4 = .ok (.aload_n 0, 1) := by decide +kernel
theorem dX2_ruling_5 : decode cX2_ruling 5 = .ok (.aload_n 1, 1) := by decide +kernel
theorem dX2_ruling_6 : decode cX2_ruling 6 = .ok (.getfield 89, 3) := by decide +kernel
theorem dX2_ruling_9 : decode cX2_ruling 9 = .ok (.invokevirtual 92, 3) := by decide +kernel
theorem dX2_ruling_12 : decode cX2_ruling 12 = .ok (.ifCond .eq 10, 3) := by decide +kernel
theorem dX2_ruling_15 : decode cX2_ruling 15 = .ok (.aload_n 1, 1) := by decide +kernel
theorem dX2_ruling_16 : decode cX2_ruling 16 = .ok (.getfield 89, 3) := by decide +kernel
theorem dX2_ruling_19 : decode cX2_ruling 19 = .ok (.goto 4, 3) := by decide +kernel
theorem dX2_ruling_22 : decode cX2_ruling 22 = .ok (.iconst 0, 1) := by decide +kernel
theorem dX2_ruling_23 : decode cX2_ruling 23 = .ok (.aaload, 1) := by decide +kernel
theorem dX2_ruling_24 : decode cX2_ruling 24 = .ok (.areturn, 1) := by decide +kernel
theorem dX3_init_0 : decode cX3_init 0 = .ok (.aload_n 0, 1) := by decide +kernel
theorem dX3_init_1 : decode cX3_init 1 = .ok (.invokespecial 3, 3) := by decide +kernel
theorem dX3_init_4 : decode cX3_init 4 = .ok (.aload_n 0, 1) := by decide +kernel
theorem dX3_init_5 : decode cX3_init 5 = .ok (.iconst 5, 1) := by decide +kernel
theorem dX3_init_6 : decode cX3_init 6 = .ok (.bipush 6, 2) := by decide +kernel
theorem dX3_init_8 : decode cX3_init 8 = .ok (.multianewarray 9 2, 4) := by decide +kernel
theorem dX3_init_12 : decode cX3_init 12 = .ok (.putfield 11, 3) := by decide +kernel
theorem dX3_init_15 : decode cX3_init 15 = .ok (.return_, 1) := by decide +kernel
set_option maxRecDepth 20000 in
theorem ggX3_pass_X3_pourAll : GoodIn wsX3_pass wsX3_pourAll := goodIn_r _ [7, 8, 1, 9, 10, 11, 6, 12, 13, 14, 15, 16, 17, 18, 19, 20, 21, 22, 23, 24, 25, 26, 27, 28, 29, 30, 31, 32, 33, 34, 35, 36, 37, 38, 39, 40, 41, 42, 43, 44, 45, 46, 47, 48, 49, 50, 51, 52, 53, 54, 55, 56, 57, 58, 59, 60, 61, 62, 63, 64, 65, 66, 67, 68, 69, 70, 71, 72, 73, 74, 75, 76, 77, 78, 79, 80, 81, 82, 83, 84, 85, 86, 87, 88, 89, 90, 91, 92, 101, 102, 103, 104, 105, 106, 107, 108, 109, 110, 111, 112, 113, 114, 115, 116, 117, 118] (by decide +kernel) (by decide +kernel)
set_option maxRecDepth 20000 in
theorem gX3_pass_X3_pourAll : GoodIn wsX3_pass (wsV RX3 16 RX3 yX3_pourAll wsX3_pourAll) := goodIn_app (goodIn_of _ (by decide +kernel)) ggX3_pass_X3_pourAll
set_option maxRecDepth 20000 in
theorem ggX3_pass_X2_easeOne : GoodIn wsX3_pass wsX2_easeOne := goodIn_r _ [96, 24, 26, 27, 28, 29, 30, 31, 97, 98, 99, 22, 100, 25, 82, 80, 81, 85, 32, 33, 34, 35, 36, 37, 38, 39, 40, 41, 42, 43, 44, 45, 46, 47, 48, 49, 50, 51, 52, 53, 54, 55, 56, 57, 58, 59, 60, 61, 62, 63, 64, 65, 66, 67, 68, 69, 70, 71, 72, 15, 16, 17, 73, 74, 75, 101, 102, 103, 104, 105, 106, 107, 108, 109, 110, 111, 113, 114, 115, 116, 117, 118] (by decide +kernel) (by decide +kernel)
set_option maxRecDepth 20000 in
theorem gX3_pass_X2_easeOne : GoodIn wsX3_pass (wsV RX3 26 RX2 yX2_easeOne wsX2_easeOne) := goodIn_app (goodIn_of _ (by decide +kernel)) ggX3_pass_X2_easeOne
theorem dX3_pass_0 : decode cX3_pass 0 = .ok (.aload_n 0, 1) := by decide +kernel
theorem dX3_pass_1 : decode cX3_pass 1 = .ok (.aload_n 1, 1) := by decide +kernel
theorem dX3_pass_2 : decode cX3_pass 2 = .ok (.aload_n 2, 1) := by decide +kernel
theorem dX3_pass_3 : decode cX3_pass 3 = .ok (.invokevirtual 16, 3) := by decide +kernel
theorem dX3_pass_6 : decode cX3_pass 6 = .ok (.istore_n 3, 1) := by decide +kernel
theorem dX3_pass_7 : decode cX3_pass 7 = .ok (.iconst 0, 1) := by decide +kernel
theorem dX3_pass_8 : decode cX3_pass 8 = .ok (.istore 4, 2) := by decide +kernel
theorem dX3_pass_10 : decode cX3_pass 10 = .ok (.iload 4, 2) := by decide +kernel
theorem dX3_pass_12 : decode cX3_pass 12 = .ok (.aload_n 2, 1) := by decide +kernel
theorem dX3_pass_13 : decode cX3_pass 13 = .ok (.getfield 20, 3) := by decide +kernel
theorem dX3_pass_16 : decode cX3_pass 16 = .ok (.if_icmp .ge 16, 3) := by decide +kernel
theorem dX3_pass_19 : decode cX3_pass 19 = .ok (.aload_n 1, 1) := by decide +kernel
theorem dX3_pass_20 : decode cX3_pass 20 = .ok (.aload_n 2, 1) := by decide +kernel
theorem dX3_pass_21 : decode cX3_pass 21 = .ok (.iload 4, 2) := by decide +kernel
theorem dX3_pass_23 : decode cX3_pass 23 = .ok (.invokevirtual 26, 3) := by decide +kernel
theorem dX3_pass_26 : decode cX3_pass 26 = .ok (.iinc 4 1, 3) := by decide +kernel
theorem dX3_pass_29 : decode cX3_pass 29 = .ok (.goto (-19), 3) := by decide +kernel
theorem dX3_pass_32 : decode cX3_pass 32 = .ok (.aload_n 2, 1) := by decide +kernel
theorem dX3_pass_33 : decode cX3_pass 33 = .ok (.dup, 1) := by decide +kernel
theorem dX3_pass_34 : decode cX3_pass 34 = .ok (.getfield 32, 3) := by decide +kernel
theorem dX3_pass_37 : decode cX3_pass 37 = .ok (.iconst 1, 1) := by decide +kernel
theorem dX3_pass_38 : decode cX3_pass 38 = .ok (.iadd, 1) := by decide +kernel
theorem dX3_pass_39 : decode cX3_pass 39 = .ok (.putfield 32, 3) := by decide +kernel
theorem dX3_pass_42 : decode cX3_pass 42 = .ok (.iload_n 3, 1) := by decide +kernel
theorem dX3_pass_43 : decode cX3_pass 43 = .ok (.ireturn, 1) := by decide +kernel
set_option maxRecDepth 20000 in
theorem ggX3_pourAll_X3_pourOf : GoodIn wsX3_pourAll wsX3_pourOf := goodIn_r _ [7, 8, 1, 9, 10, 11, 12, 13, 14, 15, 16, 17, 18, 19, 20, 21, 22, 23, 24, 25, 26, 27, 28, 29, 30, 31, 32, 33, 34, 35, 36, 37, 38, 39, 40, 41, 42, 43, 44, 45, 46, 47, 48, 49, 50, 51, 52, 53, 54, 55, 56, 57, 58, 59, 60, 61, 62, 63, 64, 65, 66, 67, 68, 69, 70, 71, 72, 73, 74, 75, 76, 77, 78, 79, 80, 81, 82, 83, 84, 85, 86, 87, 88, 89, 90, 91, 92, 93, 94, 95, 96, 97, 98, 99, 100, 101, 102, 103, 104, 105] (by decide +kernel) (by decide +kernel)
set_option maxRecDepth 20000 in
theorem gX3_pourAll_X3_pourOf : GoodIn wsX3_pourAll (wsV RX3 39 RX3 yX3_pourOf wsX3_pourOf) := goodIn_app (goodIn_of _ (by decide +kernel)) ggX3_pourAll_X3_pourOf
theorem dX3_pourAll_0 : decode cX3_pourAll 0 = .ok (.iconst 0, 1) := by decide +kernel
theorem dX3_pourAll_1 : decode cX3_pourAll 1 = .ok (.istore_n 3, 1) := by decide +kernel
theorem dX3_pourAll_2 : decode cX3_pourAll 2 = .ok (.iload_n 3, 1) := by decide +kernel
theorem dX3_pourAll_3 : decode cX3_pourAll 3 = .ok (.bipush 6, 2) := by decide +kernel
theorem dX3_pourAll_5 : decode cX3_pourAll 5 = .ok (.if_icmp .ge 16, 3) := by decide +kernel
theorem dX3_pourAll_8 : decode cX3_pourAll 8 = .ok (.aload_n 2, 1) := by decide +kernel
theorem dX3_pourAll_9 : decode cX3_pourAll 9 = .ok (.getfield 35, 3) := by decide +kernel
theorem dX3_pourAll_12 : decode cX3_pourAll 12 = .ok (.iload_n 3, 1) := by decide +kernel
theorem dX3_pourAll_13 : decode cX3_pourAll 13 = .ok (.iconst 0, 1) := by decide +kernel
theorem dX3_pourAll_14 : decode cX3_pourAll 14 = .ok (.iastore, 1) := by decide +kernel
theorem dX3_pourAll_15 : decode cX3_pourAll 15 = .ok (.iinc 3 1, 3) := by decide +kernel
theorem dX3_pourAll_18 : decode cX3_pourAll 18 = .ok (.goto (-16), 3) := by decide +kernel
theorem dX3_pourAll_21 : decode cX3_pourAll 21 = .ok (.iconst 0, 1) := by decide +kernel
theorem dX3_pourAll_22 : decode cX3_pourAll 22 = .ok (.istore_n 3, 1) := by decide +kernel
theorem dX3_pourAll_23 : decode cX3_pourAll 23 = .ok (.iconst 0, 1) := by decide +kernel
theorem dX3_pourAll_24 : decode cX3_pourAll 24 = .ok (.istore 4, 2) := by decide +kernel
theorem dX3_pourAll_26 : decode cX3_pourAll 26 = .ok (.iload 4, 2) := by decide +kernel
theorem dX3_pourAll_28 : decode cX3_pourAll 28 = .ok (.aload_n 2, 1) := by decide +kernel
theorem dX3_pourAll_29 : decode cX3_pourAll 29 = .ok (.getfield 20, 3) := by decide +kernel
theorem dX3_pourAll_32 : decode cX3_pourAll 32 = .ok (.if_icmp .ge 26, 3) := by decide +kernel
theorem dX3_pourAll_35 : decode cX3_pourAll 35 = .ok (.iload 4, 2) := by decide +kernel
theorem dX3_pourAll_37 : decode cX3_pourAll 37 = .ok (.iconst 5, 1) := by decide +kernel
theorem dX3_pourAll_38 : decode cX3_pourAll 38 = .ok (.if_icmp .ge 20, 3) := by decide +kernel
theorem dX3_pourAll_41 : decode cX3_pourAll 41 = .ok (.iload_n 3, 1) := by decide +kernel
theorem dX3_pourAll_42 : decode cX3_pourAll 42 = .ok (.aload_n 0, 1) := by decide +kernel
theorem dX3_pourAll_43 : decode cX3_pourAll 43 = .ok (.aload_n 1, 1) := by decide +kernel
theorem dX3_pourAll_44 : decode cX3_pourAll 44 = .ok (.aload_n 2, 1) := by decide +kernel
theorem dX3_pourAll_45 : decode cX3_pourAll 45 = .ok (.iload 4, 2) := by decide +kernel
theorem dX3_pourAll_47 : decode cX3_pourAll 47 = .ok (.invokevirtual 39, 3) := by decide +kernel
theorem dX3_pourAll_50 : decode cX3_pourAll 50 = .ok (.iadd, 1) := by decide +kernel
theorem dX3_pourAll_51 : decode cX3_pourAll 51 = .ok (.istore_n 3, 1) := by decide +kernel
theorem dX3_pourAll_52 : decode cX3_pourAll 52 = .ok (.iinc 4 1, 3) := by decide +kernel
theorem dX3_pourAll_55 : decode cX3_pourAll 55 = .ok (.goto (-29), 3) := by decide +kernel
theorem dX3_pourAll_58 : decode cX3_pourAll 58 = .ok (.iload_n 3, 1) := by decide +kernel
theorem dX3_pourAll_59 : decode cX3_pourAll 59 = .ok (.ireturn, 1) := by decide +kernel
set_option maxRecDepth 20000 in
theorem ggX3_pourOf_X2_yieldOf : GoodIn wsX3_pourOf wsX2_yieldOf := goodIn_r _ [12, 13, 14, 15, 16, 17, 18, 19, 20, 21, 22, 23, 11, 24, 25, 26, 27, 28, 29, 30, 31, 32, 33, 34, 35, 36, 37, 38, 39, 40, 41, 42, 43, 44, 45, 46, 47, 48, 49, 50, 51, 52, 53, 54, 55, 56, 57, 58, 59, 60, 61, 4, 5, 6, 62, 63, 64, 65, 66, 67, 68, 69, 70, 71, 72, 73, 74, 82, 83, 84, 85, 86, 87, 88, 89, 90, 91, 92, 94, 95, 96, 97, 98, 99] (by decide +kernel) (by decide +kernel)
set_option maxRecDepth 20000 in
theorem gX3_pourOf_X2_yieldOf : GoodIn wsX3_pourOf (wsV RX3 43 RX2 yX2_yieldOf wsX2_yieldOf) := goodIn_app (goodIn_of _ (by decide +kernel)) ggX3_pourOf_X2_yieldOf
set_option maxRecDepth 20000 in
theorem ggX3_pourOf_X2_suitsCup : GoodIn wsX3_pourOf wsX2_suitsCup := goodIn_r _ [78, 79, 14, 70, 71, 15, 16, 17, 18, 19, 20, 80, 59, 81, 21, 22, 23, 11, 24, 25, 26, 27, 28, 29, 30, 31, 32, 33, 34, 35, 36, 37, 38, 39, 40, 41, 42, 43, 44, 45, 46, 47, 48, 49, 50, 51, 52, 53, 54, 55, 56, 57, 82, 83, 84, 85, 86, 87, 88, 89, 90, 91, 92, 94, 95, 96, 97, 98, 99] (by decide +kernel) (by decide +kernel)
set_option maxRecDepth 20000 in
theorem gX3_pourOf_X2_suitsCup : GoodIn wsX3_pourOf (wsV RX3 56 RX2 yX2_suitsCup wsX2_suitsCup) := goodIn_app (goodIn_of _ (by decide +kernel)) ggX3_pourOf_X2_suitsCup
theorem dX3_pourOf_0 : decode cX3_pourOf 0 = .ok (.aload_n 1, 1) := by decide +kernel
theorem dX3_pourOf_1 : decode cX3_pourOf 1 = .ok (.aload_n 2, 1) := by decide +kernel
theorem dX3_pourOf_2 : decode cX3_pourOf 2 = .ok (.iload_n 3, 1) := by decide +kernel
theorem dX3_pourOf_3 : decode cX3_pourOf 3 = .ok (.invokevirtual 43, 3) := by decide +kernel
theorem dX3_pourOf_6 : decode cX3_pourOf 6 = .ok (.istore 4, 2) := by decide +kernel
theorem dX3_pourOf_8 : decode cX3_pourOf 8 = .ok (.iload 4, 2) := by decide +kernel
theorem dX3_pourOf_10 : decode cX3_pourOf 10 = .ok (.istore 5, 2) := by decide +kernel
theorem dX3_pourOf_12 : decode cX3_pourOf 12 = .ok (.iconst 0, 1) := by decide +kernel
theorem dX3_pourOf_13 : decode cX3_pourOf 13 = .ok (.istore 6, 2) := by decide +kernel
theorem dX3_pourOf_15 : decode cX3_pourOf 15 = .ok (.iload 6, 2) := by decide +kernel
theorem dX3_pourOf_17 : decode cX3_pourOf 17 = .ok (.bipush 6, 2) := by decide +kernel
theorem dX3_pourOf_19 : decode cX3_pourOf 19 = .ok (.if_icmp .ge 80, 3) := by decide +kernel
theorem dX3_pourOf_22 : decode cX3_pourOf 22 = .ok (.iload 5, 2) := by decide +kernel
theorem dX3_pourOf_24 : decode cX3_pourOf 24 = .ok (.aload_n 2, 1) := by decide +kernel
theorem dX3_pourOf_25 : decode cX3_pourOf 25 = .ok (.getfield 47, 3) := by decide +kernel
theorem dX3_pourOf_28 : decode cX3_pourOf 28 = .ok (.iload 6, 2) := by decide +kernel
theorem dX3_pourOf_30 : decode cX3_pourOf 30 = .ok (.iaload, 1) := by decide +kernel
theorem dX3_pourOf_31 : decode cX3_pourOf 31 = .ok (.aload_n 2, 1) := by decide +kernel
theorem dX3_pourOf_32 : decode cX3_pourOf 32 = .ok (.getfield 35, 3) := by decide +kernel
theorem dX3_pourOf_35 : decode cX3_pourOf 35 = .ok (.iload 6, 2) := by decide +kernel
theorem dX3_pourOf_37 : decode cX3_pourOf 37 = .ok (.iaload, 1) := by decide +kernel
theorem dX3_pourOf_38 : decode cX3_pourOf 38 = .ok (.isub, 1) := by decide +kernel
theorem dX3_pourOf_39 : decode cX3_pourOf 39 = .ok (.invokestatic 50, 3) := by decide +kernel
theorem dX3_pourOf_42 : decode cX3_pourOf 42 = .ok (.istore 7, 2) := by decide +kernel
theorem dX3_pourOf_44 : decode cX3_pourOf 44 = .ok (.iload 7, 2) := by decide +kernel
theorem dX3_pourOf_46 : decode cX3_pourOf 46 = .ok (.ifCond .le 17, 3) := by decide +kernel
theorem dX3_pourOf_49 : decode cX3_pourOf 49 = .ok (.aload_n 1, 1) := by decide +kernel
theorem dX3_pourOf_50 : decode cX3_pourOf 50 = .ok (.aload_n 2, 1) := by decide +kernel
theorem dX3_pourOf_51 : decode cX3_pourOf 51 = .ok (.iload_n 3, 1) := by decide +kernel
theorem dX3_pourOf_52 : decode cX3_pourOf 52 = .ok (.iload 6, 2) := by decide +kernel
theorem dX3_pourOf_54 : decode cX3_pourOf 54 = .ok (.invokevirtual 56, 3) := by decide +kernel
theorem dX3_pourOf_57 : decode cX3_pourOf 57 = .ok (.ifCond .ne 6, 3) := by decide +kernel
theorem dX3_pourOf_60 : decode cX3_pourOf 60 = .ok (.iconst 0, 1) := by decide +kernel
theorem dX3_pourOf_61 : decode cX3_pourOf 61 = .ok (.istore 7, 2) := by decide +kernel
theorem dX3_pourOf_63 : decode cX3_pourOf 63 = .ok (.aload_n 0, 1) := by decide +kernel
theorem dX3_pourOf_64 : decode cX3_pourOf 64 = .ok (.getfield 11, 3) := by decide +kernel
theorem dX3_pourOf_67 : decode cX3_pourOf 67 = .ok (.iload_n 3, 1) := by decide +kernel
theorem dX3_pourOf_68 : decode cX3_pourOf 68 = .ok (.aaload, 1) := by decide +kernel
theorem dX3_pourOf_69 : decode cX3_pourOf 69 = .ok (.iload 6, 2) := by decide +kernel
theorem dX3_pourOf_71 : decode cX3_pourOf 71 = .ok (.iload 7, 2) := by decide +kernel
theorem dX3_pourOf_73 : decode cX3_pourOf 73 = .ok (.iastore, 1) := by decide +kernel
theorem dX3_pourOf_74 : decode cX3_pourOf 74 = .ok (.aload_n 2, 1) := by decide +kernel
theorem dX3_pourOf_75 : decode cX3_pourOf 75 = .ok (.getfield 35, 3) := by decide +kernel
theorem dX3_pourOf_78 : decode cX3_pourOf 78 = .ok (.iload 6, 2) := by decide +kernel
theorem dX3_pourOf_80 : decode cX3_pourOf 80 = .ok (.dup2, 1) := by decide +kernel
theorem dX3_pourOf_81 : decode cX3_pourOf 81 = .ok (.iaload, 1) := by decide +kernel
theorem dX3_pourOf_82 : decode cX3_pourOf 82 = .ok (.iload 7, 2) := by decide +kernel
theorem dX3_pourOf_84 : decode cX3_pourOf 84 = .ok (.iadd, 1) := by decide +kernel
theorem dX3_pourOf_85 : decode cX3_pourOf 85 = .ok (.iastore, 1) := by decide +kernel
theorem dX3_pourOf_86 : decode cX3_pourOf 86 = .ok (.iload 5, 2) := by decide +kernel
theorem dX3_pourOf_88 : decode cX3_pourOf 88 = .ok (.iload 7, 2) := by decide +kernel
theorem dX3_pourOf_90 : decode cX3_pourOf 90 = .ok (.isub, 1) := by decide +kernel
theorem dX3_pourOf_91 : decode cX3_pourOf 91 = .ok (.istore 5, 2) := by decide +kernel
theorem dX3_pourOf_93 : decode cX3_pourOf 93 = .ok (.iinc 6 1, 3) := by decide +kernel
theorem dX3_pourOf_96 : decode cX3_pourOf 96 = .ok (.goto (-81), 3) := by decide +kernel
theorem dX3_pourOf_99 : decode cX3_pourOf 99 = .ok (.iload 4, 2) := by decide +kernel
theorem dX3_pourOf_101 : decode cX3_pourOf 101 = .ok (.iload 5, 2) := by decide +kernel
theorem dX3_pourOf_103 : decode cX3_pourOf 103 = .ok (.isub, 1) := by decide +kernel
theorem dX3_pourOf_104 : decode cX3_pourOf 104 = .ok (.ireturn, 1) := by decide +kernel
set_option maxRecDepth 20000 in
theorem ggX4_init_X6_init : GoodIn wsX4_init wsX6_init := goodIn_r _ [11, 12, 2, 3, 4, 13, 14, 22, 23, 24] (by decide +kernel) (by decide +kernel)
set_option maxRecDepth 20000 in
theorem gX4_init_X6_init_n17 : GoodIn wsX4_init (wsX6_init) := ggX4_init_X6_init
theorem dX4_init_0 : decode cX4_init 0 = .ok (.aload_n 0, 1) := by decide +kernel
theorem dX4_init_1 : decode cX4_init 1 = .ok (.invokespecial 3, 3) := by decide +kernel
theorem dX4_init_4 : decode cX4_init 4 = .ok (.aload_n 0, 1) := by decide +kernel
theorem dX4_init_5 : decode cX4_init 5 = .ok (.sipush 160, 3) := by decide +kernel
theorem dX4_init_8 : decode cX4_init 8 = .ok (.newarray .int, 2) := by decide +kernel
theorem dX4_init_10 : decode cX4_init 10 = .ok (.putfield 9, 3) := by decide +kernel
theorem dX4_init_13 : decode cX4_init 13 = .ok (.aload_n 0, 1) := by decide +kernel
theorem dX4_init_14 : decode cX4_init 14 = .ok (.new 15, 3) := by decide +kernel
theorem dX4_init_17 : decode cX4_init 17 = .ok (.dup, 1) := by decide +kernel
theorem dX4_init_18 : decode cX4_init 18 = .ok (.invokespecial 17, 3) := by decide +kernel
theorem dX4_init_21 : decode cX4_init 21 = .ok (.putfield 18, 3) := by decide +kernel
theorem dX4_init_24 : decode cX4_init 24 = .ok (.return_, 1) := by decide +kernel
theorem dX4_take_0 : decode cX4_take 0 = .ok (.aload_n 0, 1) := by decide +kernel
theorem dX4_take_1 : decode cX4_take 1 = .ok (.getfield 22, 3) := by decide +kernel
theorem dX4_take_4 : decode cX4_take 4 = .ok (.sipush 160, 3) := by decide +kernel
theorem dX4_take_7 : decode cX4_take 7 = .ok (.if_icmp .lt 5, 3) := by decide +kernel
theorem dX4_take_10 : decode cX4_take 10 = .ok (.iconst 0, 1) := by decide +kernel
theorem dX4_take_11 : decode cX4_take 11 = .ok (.ireturn, 1) := by decide +kernel
theorem dX4_take_12 : decode cX4_take 12 = .ok (.aload_n 0, 1) := by decide +kernel
theorem dX4_take_13 : decode cX4_take 13 = .ok (.getfield 9, 3) := by decide +kernel
theorem dX4_take_16 : decode cX4_take 16 = .ok (.aload_n 0, 1) := by decide +kernel
theorem dX4_take_17 : decode cX4_take 17 = .ok (.getfield 22, 3) := by decide +kernel
theorem dX4_take_20 : decode cX4_take 20 = .ok (.iload_n 1, 1) := by decide +kernel
theorem dX4_take_21 : decode cX4_take 21 = .ok (.iastore, 1) := by decide +kernel
theorem dX4_take_22 : decode cX4_take 22 = .ok (.aload_n 0, 1) := by decide +kernel
theorem dX4_take_23 : decode cX4_take 23 = .ok (.dup, 1) := by decide +kernel
theorem dX4_take_24 : decode cX4_take 24 = .ok (.getfield 22, 3) := by decide +kernel
theorem dX4_take_27 : decode cX4_take 27 = .ok (.iconst 1, 1) := by decide +kernel
theorem dX4_take_28 : decode cX4_take 28 = .ok (.iadd, 1) := by decide +kernel
theorem dX4_take_29 : decode cX4_take 29 = .ok (.putfield 22, 3) := by decide +kernel
theorem dX4_take_32 : decode cX4_take 32 = .ok (.iconst 1, 1) := by decide +kernel
theorem dX4_take_33 : decode cX4_take 33 = .ok (.ireturn, 1) := by decide +kernel
set_option maxRecDepth 20000 in
theorem ggX4_read_X6_clear : GoodIn wsX4_read wsX6_clear := goodIn_r _ [10, 11, 207, 208, 209] (by decide +kernel) (by decide +kernel)
set_option maxRecDepth 20000 in
theorem gX4_read_X6_clear : GoodIn wsX4_read (wsV RX4 26 RX6 yX6_clear wsX6_clear) := goodIn_app (goodIn_of _ (by decide +kernel)) ggX4_read_X6_clear
set_option maxRecDepth 20000 in
theorem ggX4_read_X4_step : GoodIn wsX4_read wsX4_step := goodIn_r _ [16, 2, 4, 17, 5, 3, 18, 19, 15, 20, 21, 22, 23, 24, 25, 26, 27, 28, 29, 30, 31, 32, 33, 34, 35, 36, 37, 38, 39, 40, 41, 42, 43, 44, 45, 46, 47, 48, 49, 50, 51, 52, 53, 54, 55, 56, 57, 58, 59, 60, 61, 62, 63, 64, 65, 66, 67, 68, 69, 70, 71, 72, 73, 74, 75, 76, 77, 78, 79, 80, 81, 82, 83, 84, 85, 86, 87, 88, 89, 90, 91, 92, 93, 94, 95, 96, 97, 98, 99, 100, 101, 102, 103, 104, 105, 106, 107, 108, 109, 110, 111, 112, 113, 114, 115, 116, 117, 118, 119, 120, 121, 122, 123, 124, 125, 126, 127, 128, 129, 130, 131, 132, 133, 134, 135, 136, 137, 138, 139, 140, 141, 142, 143, 144, 145, 146, 147, 148, 149, 150, 200, 201, 202, 203, 204, 205, 206] (by decide +kernel) (by decide +kernel)
set_option maxRecDepth 20000 in
theorem gX4_read_X4_step : GoodIn wsX4_read (wsV RX4 32 RX4 yX4_step wsX4_step) := goodIn_app (goodIn_of _ (by decide +kernel)) ggX4_read_X4_step
set_option maxRecDepth 20000 in
theorem ggX4_read_X4_readPart : GoodIn wsX4_read wsX4_readPart := goodIn_r _ [154, 3, 1, 12, 13, 14, 15, 16, 2, 4, 17, 5, 18, 19, 20, 21, 22, 23, 24, 25, 26, 27, 28, 29, 30, 31, 32, 33, 34, 35, 36, 37, 38, 39, 40, 41, 42, 43, 44, 45, 46, 47, 48, 49, 50, 51, 52, 53, 54, 55, 56, 57, 58, 59, 60, 61, 62, 63, 64, 65, 66, 67, 68, 69, 70, 71, 72, 73, 74, 75, 76, 77, 78, 79, 80, 81, 82, 83, 84, 85, 86, 87, 88, 89, 90, 91, 92, 93, 94, 95, 96, 97, 98, 99, 100, 101, 102, 103, 104, 105, 106, 107, 108, 109, 110, 111, 112, 113, 114, 115, 116, 117, 118, 119, 120, 121, 122, 123, 124, 125, 126, 127, 128, 129, 130, 131, 132, 133, 134, 135, 136, 137, 138, 139, 140, 141, 142, 143, 144, 145, 146, 147, 148, 149, 150, 155, 156, 157, 158, 159, 160, 161, 162, 163, 164, 9, 165, 11, 166, 167, 168, 169, 170, 171, 172, 173, 174, 175, 176, 177, 178, 179, 180, 181, 182, 183, 184, 185, 186, 187, 188, 189, 190, 191, 192, 193, 194, 195, 196, 197, 198, 199, 200, 201, 202, 203, 204, 205, 206, 207, 208, 209] (by decide +kernel) (by decide +kernel)
set_option maxRecDepth 20000 in
theorem gX4_read_X4_readPart : GoodIn wsX4_read (wsV RX4 37 RX4 yX4_readPart wsX4_readPart) := goodIn_app (goodIn_of _ (by decide +kernel)) ggX4_read_X4_readPart
theorem dX4_read_0 : decode cX4_read 0 = .ok (.aload_n 0, 1) := by decide +kernel
theorem dX4_read_1 : decode cX4_read 1 = .ok (.aload_n 1, 1) := by decide +kernel
theorem dX4_read_2 : decode cX4_read 2 = .ok (.putfield 18, 3) := by decide +kernel
theorem dX4_read_5 : decode cX4_read 5 = .ok (.aload_n 0, 1) := by decide +kernel
theorem dX4_read_6 : decode cX4_read 6 = .ok (.getfield 18, 3) := by decide +kernel
theorem dX4_read_9 : decode cX4_read 9 = .ok (.invokevirtual 26, 3) := by decide +kernel
theorem dX4_read_12 : decode cX4_read 12 = .ok (.aload_n 0, 1) := by decide +kernel
theorem dX4_read_13 : decode cX4_read 13 = .ok (.iconst 0, 1) := by decide +kernel
theorem dX4_read_14 : decode cX4_read 14 = .ok (.putfield 29, 3) := by decide +kernel
theorem dX4_read_17 : decode cX4_read 17 = .ok (.aload_n 0, 1) := by decide +kernel
theorem dX4_read_18 : decode cX4_read 18 = .ok (.invokevirtual 32, 3) := by decide +kernel
theorem dX4_read_21 : decode cX4_read 21 = .ok (.aload_n 0, 1) := by decide +kernel
theorem dX4_read_22 : decode cX4_read 22 = .ok (.sipush 256, 3) := by decide +kernel
theorem dX4_read_25 : decode cX4_read 25 = .ok (.iconst 0, 1) := by decide +kernel
theorem dX4_read_26 : decode cX4_read 26 = .ok (.invokevirtual 37, 3) := by decide +kernel
theorem dX4_read_29 : decode cX4_read 29 = .ok (.ifCond .eq 39, 3) := by decide +kernel
theorem dX4_read_32 : decode cX4_read 32 = .ok (.aload_n 0, 1) := by decide +kernel
theorem dX4_read_33 : decode cX4_read 33 = .ok (.sipush 257, 3) := by decide +kernel
theorem dX4_read_36 : decode cX4_read 36 = .ok (.iconst 1, 1) := by decide +kernel
theorem dX4_read_37 : decode cX4_read 37 = .ok (.invokevirtual 37, 3) := by decide +kernel
theorem dX4_read_40 : decode cX4_read 40 = .ok (.ifCond .eq 28, 3) := by decide +kernel
theorem dX4_read_43 : decode cX4_read 43 = .ok (.aload_n 0, 1) := by decide +kernel
theorem dX4_read_44 : decode cX4_read 44 = .ok (.sipush 258, 3) := by decide +kernel
theorem dX4_read_47 : decode cX4_read 47 = .ok (.iconst 2, 1) := by decide +kernel
theorem dX4_read_48 : decode cX4_read 48 = .ok (.invokevirtual 37, 3) := by decide +kernel
theorem dX4_read_51 : decode cX4_read 51 = .ok (.ifCond .eq 17, 3) := by decide +kernel
theorem dX4_read_54 : decode cX4_read 54 = .ok (.aload_n 0, 1) := by decide +kernel
theorem dX4_read_55 : decode cX4_read 55 = .ok (.getfield 41, 3) := by decide +kernel
theorem dX4_read_58 : decode cX4_read 58 = .ok (.sipush 269, 3) := by decide +kernel
theorem dX4_read_61 : decode cX4_read 61 = .ok (.if_icmp .ne 7, 3) := by decide +kernel
theorem dX4_read_64 : decode cX4_read 64 = .ok (.iconst 1, 1) := by decide +kernel
theorem dX4_read_65 : decode cX4_read 65 = .ok (.goto 4, 3) := by decide +kernel
theorem dX4_read_68 : decode cX4_read 68 = .ok (.iconst 0, 1) := by decide +kernel
theorem dX4_read_69 : decode cX4_read 69 = .ok (.istore_n 2, 1) := by decide +kernel
theorem dX4_read_70 : decode cX4_read 70 = .ok (.aload_n 0, 1) := by decide +kernel
theorem dX4_read_71 : decode cX4_read 71 = .ok (.iconst 0, 1) := by decide +kernel
theorem dX4_read_72 : decode cX4_read 72 = .ok (.putfield 22, 3) := by decide +kernel
theorem dX4_read_75 : decode cX4_read 75 = .ok (.iload_n 2, 1) := by decide +kernel
theorem dX4_read_76 : decode cX4_read 76 = .ok (.ifCond .eq 7, 3) := by decide +kernel
theorem dX4_read_79 : decode cX4_read 79 = .ok (.iconst (-1), 1) := by decide +kernel
theorem dX4_read_80 : decode cX4_read 80 = .ok (.goto 7, 3) := by decide +kernel
theorem dX4_read_83 : decode cX4_read 83 = .ok (.aload_n 0, 1) := by decide +kernel
theorem dX4_read_84 : decode cX4_read 84 = .ok (.getfield 44, 3) := by decide +kernel
theorem dX4_read_87 : decode cX4_read 87 = .ok (.ireturn, 1) := by decide +kernel
set_option maxRecDepth 20000 in
theorem ggX4_readPart_X4_step : GoodIn wsX4_readPart wsX4_step := goodIn_r _ [7, 8, 9, 10, 11, 1, 12, 13, 6, 14, 15, 16, 17, 18, 19, 20, 21, 22, 23, 24, 25, 26, 27, 28, 29, 30, 31, 32, 33, 34, 35, 36, 37, 38, 39, 40, 41, 42, 43, 44, 45, 46, 47, 48, 49, 50, 51, 52, 53, 54, 55, 56, 57, 58, 59, 60, 61, 62, 63, 64, 65, 66, 67, 68, 69, 70, 71, 72, 73, 74, 75, 76, 77, 78, 79, 80, 81, 82, 83, 84, 85, 86, 87, 88, 89, 90, 91, 92, 93, 94, 95, 96, 97, 98, 99, 100, 101, 102, 103, 104, 105, 106, 107, 108, 109, 110, 111, 112, 113, 114, 115, 116, 117, 118, 119, 120, 121, 122, 123, 124, 125, 126, 127, 128, 129, 130, 131, 132, 133, 134, 135, 136, 137, 138, 139, 140, 141, 142, 143, 144, 192, 193, 194, 195, 196, 197, 198] (by decide +kernel) (by decide +kernel)
set_option maxRecDepth 20000 in
theorem gX4_readPart_X4_step : GoodIn wsX4_readPart (wsV RX4 32 RX4 yX4_step wsX4_step) := goodIn_app (goodIn_of _ (by decide +kernel)) ggX4_readPart_X4_step
set_option maxRecDepth 20000 in
theorem ggX4_readPart_X4_readAny : GoodIn wsX4_readPart wsX4_readAny := goodIn_r _ [148, 1, 2, 149, 150, 151, 6, 3, 4, 5, 7, 8, 9, 10, 11, 12, 13, 14, 15, 16, 17, 18, 19, 20, 21, 22, 23, 24, 25, 26, 27, 28, 29, 30, 31, 32, 33, 34, 35, 36, 37, 38, 39, 40, 41, 42, 43, 44, 45, 46, 47, 48, 49, 50, 51, 52, 53, 54, 55, 56, 57, 58, 59, 60, 61, 62, 63, 64, 65, 66, 67, 68, 69, 70, 71, 72, 73, 74, 75, 76, 77, 78, 79, 80, 81, 82, 83, 84, 85, 86, 87, 88, 89, 90, 91, 92, 93, 94, 95, 96, 97, 98, 99, 100, 101, 102, 103, 104, 105, 106, 107, 108, 109, 110, 111, 112, 113, 114, 115, 116, 117, 118, 119, 120, 121, 122, 123, 124, 125, 126, 127, 128, 129, 130, 131, 132, 133, 134, 135, 136, 137, 138, 139, 140, 141, 142, 143, 144, 152, 153, 154, 155, 156, 157, 158, 159, 160, 161, 162, 163, 145, 146, 147, 164, 165, 166, 167, 168, 169, 170, 171, 172, 173, 174, 175, 176, 177, 178, 179, 180, 181, 182, 183, 184, 185, 186, 192, 193, 194, 195, 196, 197, 198, 199, 200, 201] (by decide +kernel) (by decide +kernel)
set_option maxRecDepth 20000 in
theorem gX4_readPart_X4_readAny : GoodIn wsX4_readPart (wsV RX4 47 RX4 yX4_readAny wsX4_readAny) := goodIn_app (goodIn_of _ (by decide +kernel)) ggX4_readPart_X4_readAny
set_option maxRecDepth 20000 in
theorem ggX4_readPart_X6_endPart : GoodIn wsX4_readPart wsX6_endPart := goodIn_r _ [190, 191, 157, 199, 200, 201] (by decide +kernel) (by decide +kernel)
set_option maxRecDepth 20000 in
theorem gX4_readPart_X6_endPart : GoodIn wsX4_readPart (wsV RX4 51 RX6 yX6_endPart wsX6_endPart) := goodIn_app (goodIn_of _ (by decide +kernel)) ggX4_readPart_X6_endPart
theorem dX4_readPart_0 : decode cX4_readPart 0 = .ok (.aload_n 0, 1) := by decide +kernel
theorem dX4_readPart_1 : decode cX4_readPart 1 = .ok (.getfield 41, 3) := by decide +kernel
theorem dX4_readPart_4 : decode cX4_readPart 4 = .ok (.iload_n 1, 1) := by decide +kernel
theorem dX4_readPart_5 : decode cX4_readPart 5 = .ok (.if_icmp .eq 5, 3) := by decide +kernel
theorem dX4_readPart_8 : decode cX4_readPart 8 = .ok (.iconst 0, 1) := by decide +kernel
theorem dX4_readPart_9 : decode cX4_readPart 9 = .ok (.ireturn, 1) := by decide +kernel
theorem dX4_readPart_10 : decode cX4_readPart 10 = .ok (.aload_n 0, 1) := by decide +kernel
theorem dX4_readPart_11 : decode cX4_readPart 11 = .ok (.invokevirtual 32, 3) := by decide +kernel
theorem dX4_readPart_14 : decode cX4_readPart 14 = .ok (.aload_n 0, 1) := by decide +kernel
theorem dX4_readPart_15 : decode cX4_readPart 15 = .ok (.iconst 0, 1) := by decide +kernel
theorem dX4_readPart_16 : decode cX4_readPart 16 = .ok (.invokevirtual 47, 3) := by decide +kernel
theorem dX4_readPart_19 : decode cX4_readPart 19 = .ok (.ifCond .eq 12, 3) := by decide +kernel
theorem dX4_readPart_22 : decode cX4_readPart 22 = .ok (.aload_n 0, 1) := by decide +kernel
theorem dX4_readPart_23 : decode cX4_readPart 23 = .ok (.getfield 41, 3) := by decide +kernel
theorem dX4_readPart_26 : decode cX4_readPart 26 = .ok (.bipush 59, 2) := by decide +kernel
theorem dX4_readPart_28 : decode cX4_readPart 28 = .ok (.if_icmp .eq 5, 3) := by decide +kernel
theorem dX4_readPart_31 : decode cX4_readPart 31 = .ok (.iconst 0, 1) := by decide +kernel
theorem dX4_readPart_32 : decode cX4_readPart 32 = .ok (.ireturn, 1) := by decide +kernel
theorem dX4_readPart_33 : decode cX4_readPart 33 = .ok (.aload_n 0, 1) := by decide +kernel
theorem dX4_readPart_34 : decode cX4_readPart 34 = .ok (.invokevirtual 32, 3) := by decide +kernel
theorem dX4_readPart_37 : decode cX4_readPart 37 = .ok (.aload_n 0, 1) := by decide +kernel
theorem dX4_readPart_38 : decode cX4_readPart 38 = .ok (.getfield 18, 3) := by decide +kernel
theorem dX4_readPart_41 : decode cX4_readPart 41 = .ok (.iload_n 2, 1) := by decide +kernel
theorem dX4_readPart_42 : decode cX4_readPart 42 = .ok (.invokevirtual 51, 3) := by decide +kernel
theorem dX4_readPart_45 : decode cX4_readPart 45 = .ok (.iconst 1, 1) := by decide +kernel
theorem dX4_readPart_46 : decode cX4_readPart 46 = .ok (.ireturn, 1) := by decide +kernel
set_option maxRecDepth 20000 in
theorem ggX4_readAny_X4_readAnd : GoodIn wsX4_readAny wsX4_readAnd := goodIn_r _ [155, 1, 2, 156, 157, 158, 6, 7, 8, 9, 10, 11, 12, 13, 14, 15, 16, 17, 18, 19, 20, 21, 22, 23, 24, 25, 26, 27, 28, 29, 30, 31, 32, 33, 34, 35, 36, 37, 38, 39, 40, 41, 42, 43, 44, 45, 46, 47, 48, 49, 50, 51, 52, 53, 54, 55, 56, 57, 58, 59, 60, 61, 62, 63, 64, 65, 66, 67, 68, 69, 70, 71, 72, 73, 74, 75, 76, 77, 78, 79, 80, 81, 82, 83, 84, 85, 86, 87, 88, 89, 90, 91, 92, 93, 94, 95, 96, 97, 98, 99, 100, 101, 102, 103, 104, 105, 106, 107, 108, 109, 110, 111, 112, 113, 114, 115, 116, 117, 118, 119, 120, 121, 122, 123, 124, 125, 126, 127, 128, 129, 130, 131, 132, 133, 134, 135, 136, 137, 138, 139, 140, 141, 142, 143, 144, 145, 146, 147, 148, 149, 150, 151, 152, 153, 154, 0, 3, 4, 5, 159, 160, 161, 162, 163, 164, 165, 166, 167, 168, 169, 170, 171, 172, 173, 174, 175, 176, 177, 178, 179, 180, 181, 182, 183, 184, 185, 186, 187, 188, 189, 190, 191, 192, 193, 194, 195] (by decide +kernel) (by decide +kernel)
set_option maxRecDepth 20000 in
theorem gX4_readAny_X4_readAnd : GoodIn wsX4_readAny (wsV RX4 55 RX4 yX4_readAnd wsX4_readAnd) := goodIn_app (goodIn_of _ (by decide +kernel)) ggX4_readAny_X4_readAnd
set_option maxRecDepth 20000 in
theorem ggX4_readAny_X4_step : GoodIn wsX4_readAny wsX4_step := goodIn_r _ [10, 11, 12, 13, 14, 1, 15, 16, 6, 17, 18, 19, 20, 21, 22, 23, 24, 25, 26, 27, 28, 29, 30, 31, 32, 33, 34, 35, 36, 37, 38, 39, 40, 41, 42, 43, 44, 45, 46, 47, 48, 49, 50, 51, 52, 53, 54, 55, 56, 57, 58, 59, 60, 61, 62, 63, 64, 65, 66, 67, 68, 69, 70, 71, 72, 73, 74, 75, 76, 77, 78, 79, 80, 81, 82, 83, 84, 85, 86, 87, 88, 89, 90, 91, 92, 93, 94, 95, 96, 97, 98, 99, 100, 101, 102, 103, 104, 105, 106, 107, 108, 109, 110, 111, 112, 113, 114, 115, 116, 117, 118, 119, 120, 121, 122, 123, 124, 125, 126, 127, 128, 129, 130, 131, 132, 133, 134, 135, 136, 137, 138, 139, 140, 141, 142, 143, 144, 145, 146, 147, 186, 187, 188, 189, 190, 191, 192] (by decide +kernel) (by decide +kernel)
set_option maxRecDepth 20000 in
theorem gX4_readAny_X4_step : GoodIn wsX4_readAny (wsV RX4 32 RX4 yX4_step wsX4_step) := goodIn_app (goodIn_of _ (by decide +kernel)) ggX4_readAny_X4_step
set_option maxRecDepth 20000 in
theorem ggX4_readAny_X6_add : GoodIn wsX4_readAny wsX6_add := goodIn_r _ [152, 153, 154, 193, 194, 195] (by decide +kernel) (by decide +kernel)
set_option maxRecDepth 20000 in
theorem gX4_readAny_X6_add : GoodIn wsX4_readAny (wsV RX4 58 RX6 yX6_add wsX6_add) := goodIn_app (goodIn_of _ (by decide +kernel)) ggX4_readAny_X6_add
theorem dX4_readAny_0 : decode cX4_readAny 0 = .ok (.aload_n 0, 1) := by decide +kernel
theorem dX4_readAny_1 : decode cX4_readAny 1 = .ok (.iload_n 1, 1) := by decide +kernel
theorem dX4_readAny_2 : decode cX4_readAny 2 = .ok (.invokevirtual 55, 3) := by decide +kernel
theorem dX4_readAny_5 : decode cX4_readAny 5 = .ok (.ifCond .ne 5, 3) := by decide +kernel
theorem dX4_readAny_8 : decode cX4_readAny 8 = .ok (.iconst 0, 1) := by decide +kernel
theorem dX4_readAny_9 : decode cX4_readAny 9 = .ok (.ireturn, 1) := by decide +kernel
theorem dX4_readAny_10 : decode cX4_readAny 10 = .ok (.iconst 0, 1) := by decide +kernel
theorem dX4_readAny_11 : decode cX4_readAny 11 = .ok (.istore_n 2, 1) := by decide +kernel
theorem dX4_readAny_12 : decode cX4_readAny 12 = .ok (.iload_n 2, 1) := by decide +kernel
theorem dX4_readAny_13 : decode cX4_readAny 13 = .ok (.sipush 160, 3) := by decide +kernel
theorem dX4_readAny_16 : decode cX4_readAny 16 = .ok (.if_icmp .ge 43, 3) := by decide +kernel
theorem dX4_readAny_19 : decode cX4_readAny 19 = .ok (.aload_n 0, 1) := by decide +kernel
theorem dX4_readAny_20 : decode cX4_readAny 20 = .ok (.getfield 41, 3) := by decide +kernel
theorem dX4_readAny_23 : decode cX4_readAny 23 = .ok (.sipush 259, 3) := by decide +kernel
theorem dX4_readAny_26 : decode cX4_readAny 26 = .ok (.if_icmp .ne 33, 3) := by decide +kernel
theorem dX4_readAny_29 : decode cX4_readAny 29 = .ok (.aload_n 0, 1) := by decide +kernel
theorem dX4_readAny_30 : decode cX4_readAny 30 = .ok (.invokevirtual 32, 3) := by decide +kernel
theorem dX4_readAny_33 : decode cX4_readAny 33 = .ok (.aload_n 0, 1) := by decide +kernel
theorem dX4_readAny_34 : decode cX4_readAny 34 = .ok (.iload_n 1, 1) := by decide +kernel
theorem dX4_readAny_35 : decode cX4_readAny 35 = .ok (.invokevirtual 55, 3) := by decide +kernel
theorem dX4_readAny_38 : decode cX4_readAny 38 = .ok (.ifCond .ne 5, 3) := by decide +kernel
theorem dX4_readAny_41 : decode cX4_readAny 41 = .ok (.iconst 0, 1) := by decide +kernel
theorem dX4_readAny_42 : decode cX4_readAny 42 = .ok (.ireturn, 1) := by decide +kernel
theorem dX4_readAny_43 : decode cX4_readAny 43 = .ok (.aload_n 0, 1) := by decide +kernel
theorem dX4_readAny_44 : decode cX4_readAny 44 = .ok (.getfield 18, 3) := by decide +kernel
theorem dX4_readAny_47 : decode cX4_readAny 47 = .ok (.sipush (-259), 3) := by decide +kernel
theorem dX4_readAny_50 : decode cX4_readAny 50 = .ok (.invokevirtual 58, 3) := by decide +kernel
theorem dX4_readAny_53 : decode cX4_readAny 53 = .ok (.iinc 2 1, 3) := by decide +kernel
theorem dX4_readAny_56 : decode cX4_readAny 56 = .ok (.goto (-44), 3) := by decide +kernel
theorem dX4_readAny_59 : decode cX4_readAny 59 = .ok (.iconst 1, 1) := by decide +kernel
theorem dX4_readAny_60 : decode cX4_readAny 60 = .ok (.ireturn, 1) := by decide +kernel
set_option maxRecDepth 20000 in
theorem ggX4_readAnd_X4_readNot : GoodIn wsX4_readAnd wsX4_readNot := goodIn_r _ [167, 1, 2, 168, 169, 170, 6, 7, 8, 9, 10, 11, 12, 13, 14, 15, 16, 17, 18, 19, 20, 21, 22, 23, 24, 25, 26, 27, 28, 29, 30, 31, 32, 33, 34, 35, 36, 37, 38, 39, 40, 41, 42, 43, 44, 45, 46, 47, 48, 49, 50, 51, 52, 53, 54, 55, 56, 57, 58, 59, 60, 61, 62, 63, 64, 65, 66, 67, 68, 69, 70, 71, 72, 73, 74, 75, 76, 77, 78, 79, 80, 81, 82, 83, 84, 85, 86, 87, 88, 89, 90, 91, 92, 93, 94, 95, 96, 97, 98, 99, 100, 101, 102, 103, 104, 105, 106, 107, 108, 109, 110, 111, 112, 113, 114, 115, 116, 117, 118, 119, 120, 121, 122, 123, 124, 125, 126, 127, 128, 129, 130, 131, 132, 133, 134, 135, 136, 137, 138, 139, 140, 141, 142, 143, 144, 145, 146, 147, 3, 4, 5, 148, 149, 150, 151, 152, 153, 154, 0, 155, 156, 157, 158, 159, 160, 161, 162, 163, 164, 165, 166, 171, 172, 173, 174, 175, 176, 177, 178, 179, 180, 181, 182, 183, 184, 185, 186, 187, 188, 189, 190, 191, 192, 193, 194, 195] (by decide +kernel) (by decide +kernel)
set_option maxRecDepth 20000 in
theorem gX4_readAnd_X4_readNot : GoodIn wsX4_readAnd (wsV RX4 61 RX4 yX4_readNot wsX4_readNot) := goodIn_app (goodIn_of _ (by decide +kernel)) ggX4_readAnd_X4_readNot
set_option maxRecDepth 20000 in
theorem ggX4_readAnd_X4_step : GoodIn wsX4_readAnd wsX4_step := goodIn_r _ [10, 11, 12, 13, 14, 1, 15, 16, 6, 17, 18, 19, 20, 21, 22, 23, 24, 25, 26, 27, 28, 29, 30, 31, 32, 33, 34, 35, 36, 37, 38, 39, 40, 41, 42, 43, 44, 45, 46, 47, 48, 49, 50, 51, 52, 53, 54, 55, 56, 57, 58, 59, 60, 61, 62, 63, 64, 65, 66, 67, 68, 69, 70, 71, 72, 73, 74, 75, 76, 77, 78, 79, 80, 81, 82, 83, 84, 85, 86, 87, 88, 89, 90, 91, 92, 93, 94, 95, 96, 97, 98, 99, 100, 101, 102, 103, 104, 105, 106, 107, 108, 109, 110, 111, 112, 113, 114, 115, 116, 117, 118, 119, 120, 121, 122, 123, 124, 125, 126, 127, 128, 129, 130, 131, 132, 133, 134, 135, 136, 137, 138, 139, 140, 141, 142, 143, 144, 145, 146, 147, 186, 187, 188, 189, 190, 191, 192] (by decide +kernel) (by decide +kernel)
set_option maxRecDepth 20000 in
theorem gX4_readAnd_X4_step : GoodIn wsX4_readAnd (wsV RX4 32 RX4 yX4_step wsX4_step) := goodIn_app (goodIn_of _ (by decide +kernel)) ggX4_readAnd_X4_step
set_option maxRecDepth 20000 in
theorem ggX4_readAnd_X6_add : GoodIn wsX4_readAnd wsX6_add := goodIn_r _ [152, 153, 154, 193, 194, 195] (by decide +kernel) (by decide +kernel)
set_option maxRecDepth 20000 in
theorem gX4_readAnd_X6_add : GoodIn wsX4_readAnd (wsV RX4 58 RX6 yX6_add wsX6_add) := goodIn_app (goodIn_of _ (by decide +kernel)) ggX4_readAnd_X6_add
theorem dX4_readAnd_0 : decode cX4_readAnd 0 = .ok (.aload_n 0, 1) := by decide +kernel
theorem dX4_readAnd_1 : decode cX4_readAnd 1 = .ok (.iload_n 1, 1) := by decide +kernel
theorem dX4_readAnd_2 : decode cX4_readAnd 2 = .ok (.invokevirtual 61, 3) := by decide +kernel
theorem dX4_readAnd_5 : decode cX4_readAnd 5 = .ok (.ifCond .ne 5, 3) := by decide +kernel
theorem dX4_readAnd_8 : decode cX4_readAnd 8 = .ok (.iconst 0, 1) := by decide +kernel
theorem dX4_readAnd_9 : decode cX4_readAnd 9 = .ok (.ireturn, 1) := by decide +kernel
theorem dX4_readAnd_10 : decode cX4_readAnd 10 = .ok (.iconst 0, 1) := by decide +kernel
theorem dX4_readAnd_11 : decode cX4_readAnd 11 = .ok (.istore_n 2, 1) := by decide +kernel
theorem dX4_readAnd_12 : decode cX4_readAnd 12 = .ok (.iload_n 2, 1) := by decide +kernel
theorem dX4_readAnd_13 : decode cX4_readAnd 13 = .ok (.sipush 160, 3) := by decide +kernel
theorem dX4_readAnd_16 : decode cX4_readAnd 16 = .ok (.if_icmp .ge 43, 3) := by decide +kernel
theorem dX4_readAnd_19 : decode cX4_readAnd 19 = .ok (.aload_n 0, 1) := by decide +kernel
theorem dX4_readAnd_20 : decode cX4_readAnd 20 = .ok (.getfield 41, 3) := by decide +kernel
theorem dX4_readAnd_23 : decode cX4_readAnd 23 = .ok (.sipush 260, 3) := by decide +kernel
theorem dX4_readAnd_26 : decode cX4_readAnd 26 = .ok (.if_icmp .ne 33, 3) := by decide +kernel
theorem dX4_readAnd_29 : decode cX4_readAnd 29 = .ok (.aload_n 0, 1) := by decide +kernel
theorem dX4_readAnd_30 : decode cX4_readAnd 30 = .ok (.invokevirtual 32, 3) := by decide +kernel
theorem dX4_readAnd_33 : decode cX4_readAnd 33 = .ok (.aload_n 0, 1) := by decide +kernel
theorem dX4_readAnd_34 : decode cX4_readAnd 34 = .ok (.iload_n 1, 1) := by decide +kernel
theorem dX4_readAnd_35 : decode cX4_readAnd 35 = .ok (.invokevirtual 61, 3) := by decide +kernel
theorem dX4_readAnd_38 : decode cX4_readAnd 38 = .ok (.ifCond .ne 5, 3) := by decide +kernel
theorem dX4_readAnd_41 : decode cX4_readAnd 41 = .ok (.iconst 0, 1) := by decide +kernel
theorem dX4_readAnd_42 : decode cX4_readAnd 42 = .ok (.ireturn, 1) := by decide +kernel
theorem dX4_readAnd_43 : decode cX4_readAnd 43 = .ok (.aload_n 0, 1) := by decide +kernel
theorem dX4_readAnd_44 : decode cX4_readAnd 44 = .ok (.getfield 18, 3) := by decide +kernel
theorem dX4_readAnd_47 : decode cX4_readAnd 47 = .ok (.sipush (-260), 3) := by decide +kernel
theorem dX4_readAnd_50 : decode cX4_readAnd 50 = .ok (.invokevirtual 58, 3) := by decide +kernel
theorem dX4_readAnd_53 : decode cX4_readAnd 53 = .ok (.iinc 2 1, 3) := by decide +kernel
theorem dX4_readAnd_56 : decode cX4_readAnd 56 = .ok (.goto (-44), 3) := by decide +kernel
theorem dX4_readAnd_59 : decode cX4_readAnd 59 = .ok (.iconst 1, 1) := by decide +kernel
theorem dX4_readAnd_60 : decode cX4_readAnd 60 = .ok (.ireturn, 1) := by decide +kernel
set_option maxRecDepth 20000 in
theorem ggX4_readNot_X4_readComparison : GoodIn wsX4_readNot wsX4_readComparison := goodIn_r _ [167, 1, 2, 168, 169, 170, 6, 7, 8, 9, 10, 11, 12, 13, 14, 15, 16, 17, 18, 19, 20, 21, 22, 23, 24, 25, 26, 27, 28, 29, 30, 31, 32, 33, 34, 35, 36, 37, 38, 39, 40, 41, 42, 43, 44, 45, 46, 47, 48, 49, 50, 51, 52, 53, 54, 55, 56, 57, 58, 59, 60, 61, 62, 63, 64, 65, 66, 67, 68, 69, 70, 71, 72, 73, 74, 75, 76, 77, 78, 79, 80, 81, 82, 83, 84, 85, 86, 87, 88, 89, 90, 91, 92, 93, 94, 95, 96, 97, 98, 99, 100, 101, 102, 103, 104, 105, 106, 107, 108, 109, 110, 111, 112, 113, 114, 115, 116, 117, 118, 119, 120, 121, 122, 123, 124, 125, 126, 127, 128, 129, 130, 131, 132, 133, 134, 135, 136, 137, 138, 139, 140, 141, 142, 143, 144, 145, 146, 147, 151, 152, 153, 154, 155, 156, 157, 158, 148, 149, 150, 159, 160, 161, 162, 163, 164, 165, 166, 0, 3, 4, 5, 171, 172, 173, 174, 175, 176, 177, 178, 179, 180, 181, 182, 183, 184, 185, 186, 187, 188, 189, 190, 191, 192, 193, 194, 195] (by decide +kernel) (by decide +kernel)
set_option maxRecDepth 20000 in
theorem gX4_readNot_X4_readComparison : GoodIn wsX4_readNot (wsV RX4 64 RX4 yX4_readComparison wsX4_readComparison) := goodIn_app (goodIn_of _ (by decide +kernel)) ggX4_readNot_X4_readComparison
set_option maxRecDepth 20000 in
theorem ggX4_readNot_X4_step : GoodIn wsX4_readNot wsX4_step := goodIn_r _ [10, 11, 12, 13, 14, 1, 15, 16, 6, 17, 18, 19, 20, 21, 22, 23, 24, 25, 26, 27, 28, 29, 30, 31, 32, 33, 34, 35, 36, 37, 38, 39, 40, 41, 42, 43, 44, 45, 46, 47, 48, 49, 50, 51, 52, 53, 54, 55, 56, 57, 58, 59, 60, 61, 62, 63, 64, 65, 66, 67, 68, 69, 70, 71, 72, 73, 74, 75, 76, 77, 78, 79, 80, 81, 82, 83, 84, 85, 86, 87, 88, 89, 90, 91, 92, 93, 94, 95, 96, 97, 98, 99, 100, 101, 102, 103, 104, 105, 106, 107, 108, 109, 110, 111, 112, 113, 114, 115, 116, 117, 118, 119, 120, 121, 122, 123, 124, 125, 126, 127, 128, 129, 130, 131, 132, 133, 134, 135, 136, 137, 138, 139, 140, 141, 142, 143, 144, 145, 146, 147, 186, 187, 188, 189, 190, 191, 192] (by decide +kernel) (by decide +kernel)
set_option maxRecDepth 20000 in
theorem gX4_readNot_X4_step : GoodIn wsX4_readNot (wsV RX4 32 RX4 yX4_step wsX4_step) := goodIn_app (goodIn_of _ (by decide +kernel)) ggX4_readNot_X4_step
set_option maxRecDepth 20000 in
theorem ggX4_readNot_X4_readNot : GoodIn wsX4_readNot wsX4_readNot := goodIn_r _ [0, 1, 2, 3, 4, 5, 6, 7, 8, 9, 10, 11, 12, 13, 14, 15, 16, 17, 18, 19, 20, 21, 22, 23, 24, 25, 26, 27, 28, 29, 30, 31, 32, 33, 34, 35, 36, 37, 38, 39, 40, 41, 42, 43, 44, 45, 46, 47, 48, 49, 50, 51, 52, 53, 54, 55, 56, 57, 58, 59, 60, 61, 62, 63, 64, 65, 66, 67, 68, 69, 70, 71, 72, 73, 74, 75, 76, 77, 78, 79, 80, 81, 82, 83, 84, 85, 86, 87, 88, 89, 90, 91, 92, 93, 94, 95, 96, 97, 98, 99, 100, 101, 102, 103, 104, 105, 106, 107, 108, 109, 110, 111, 112, 113, 114, 115, 116, 117, 118, 119, 120, 121, 122, 123, 124, 125, 126, 127, 128, 129, 130, 131, 132, 133, 134, 135, 136, 137, 138, 139, 140, 141, 142, 143, 144, 145, 146, 147, 148, 149, 150, 151, 152, 153, 154, 155, 156, 157, 158, 159, 160, 161, 162, 163, 164, 165, 166, 167, 168, 169, 170, 171, 172, 173, 174, 175, 176, 177, 178, 179, 180, 181, 182, 183, 184, 185, 186, 187, 188, 189, 190, 191, 192, 193, 194, 195] (by decide +kernel) (by decide +kernel)
set_option maxRecDepth 20000 in
theorem gX4_readNot_X4_readNot : GoodIn wsX4_readNot (wsV RX4 61 RX4 yX4_readNot wsX4_readNot) := goodIn_app (goodIn_of _ (by decide +kernel)) ggX4_readNot_X4_readNot
set_option maxRecDepth 20000 in
theorem ggX4_readNot_X6_add : GoodIn wsX4_readNot wsX6_add := goodIn_r _ [155, 156, 157, 193, 194, 195] (by decide +kernel) (by decide +kernel)
set_option maxRecDepth 20000 in
theorem gX4_readNot_X6_add : GoodIn wsX4_readNot (wsV RX4 58 RX6 yX6_add wsX6_add) := goodIn_app (goodIn_of _ (by decide +kernel)) ggX4_readNot_X6_add
theorem dX4_readNot_0 : decode cX4_readNot 0 = .ok (.aload_n 0, 1) := by decide +kernel
theorem dX4_readNot_1 : decode cX4_readNot 1 = .ok (.getfield 41, 3) := by decide +kernel
theorem dX4_readNot_4 : decode cX4_readNot 4 = .ok (.sipush 261, 3) := by decide +kernel
theorem dX4_readNot_7 : decode cX4_readNot 7 = .ok (.if_icmp .eq 9, 3) := by decide +kernel
theorem dX4_readNot_10 : decode cX4_readNot 10 = .ok (.aload_n 0, 1) := by decide +kernel
theorem dX4_readNot_11 : decode cX4_readNot 11 = .ok (.iload_n 1, 1) := by decide +kernel
theorem dX4_readNot_12 : decode cX4_readNot 12 = .ok (.invokevirtual 64, 3) := by decide +kernel
theorem dX4_readNot_15 : decode cX4_readNot 15 = .ok (.ireturn, 1) := by decide +kernel
theorem dX4_readNot_16 : decode cX4_readNot 16 = .ok (.iload_n 1, 1) := by decide +kernel
theorem dX4_readNot_17 : decode cX4_readNot 17 = .ok (.iconst 5, 1) := by decide +kernel
theorem dX4_readNot_18 : decode cX4_readNot 18 = .ok (.if_icmp .lt 5, 3) := by decide +kernel
theorem dX4_readNot_21 : decode cX4_readNot 21 = .ok (.iconst 0, 1) := by decide +kernel
theorem dX4_readNot_22 : decode cX4_readNot 22 = .ok (.ireturn, 1) := by decide +kernel
theorem dX4_readNot_23 : decode cX4_readNot 23 = .ok (.aload_n 0, 1) := by decide +kernel
theorem dX4_readNot_24 : decode cX4_readNot 24 = .ok (.invokevirtual 32, 3) := by decide +kernel
theorem dX4_readNot_27 : decode cX4_readNot 27 = .ok (.aload_n 0, 1) := by decide +kernel
theorem dX4_readNot_28 : decode cX4_readNot 28 = .ok (.iload_n 1, 1) := by decide +kernel
theorem dX4_readNot_29 : decode cX4_readNot 29 = .ok (.iconst 1, 1) := by decide +kernel
theorem dX4_readNot_30 : decode cX4_readNot 30 = .ok (.iadd, 1) := by decide +kernel
theorem dX4_readNot_31 : decode cX4_readNot 31 = .ok (.invokevirtual 61, 3) := by decide +kernel
theorem dX4_readNot_34 : decode cX4_readNot 34 = .ok (.ifCond .ne 5, 3) := by decide +kernel
theorem dX4_readNot_37 : decode cX4_readNot 37 = .ok (.iconst 0, 1) := by decide +kernel
theorem dX4_readNot_38 : decode cX4_readNot 38 = .ok (.ireturn, 1) := by decide +kernel
theorem dX4_readNot_39 : decode cX4_readNot 39 = .ok (.aload_n 0, 1) := by decide +kernel
theorem dX4_readNot_40 : decode cX4_readNot 40 = .ok (.getfield 18, 3) := by decide +kernel
theorem dX4_readNot_43 : decode cX4_readNot 43 = .ok (.sipush (-261), 3) := by decide +kernel
theorem dX4_readNot_46 : decode cX4_readNot 46 = .ok (.invokevirtual 58, 3) := by decide +kernel
theorem dX4_readNot_49 : decode cX4_readNot 49 = .ok (.iconst 1, 1) := by decide +kernel
theorem dX4_readNot_50 : decode cX4_readNot 50 = .ok (.ireturn, 1) := by decide +kernel
set_option maxRecDepth 20000 in
theorem ggX4_readComparison_X4_readSum : GoodIn wsX4_readComparison wsX4_readSum := goodIn_r _ [181, 1, 2, 182, 183, 184, 6, 7, 8, 9, 10, 11, 12, 13, 14, 15, 16, 17, 18, 19, 20, 21, 22, 23, 24, 25, 26, 27, 28, 29, 30, 31, 32, 33, 34, 35, 36, 37, 38, 39, 40, 41, 42, 43, 44, 45, 46, 47, 48, 49, 50, 51, 52, 53, 54, 55, 56, 57, 58, 59, 60, 61, 62, 63, 64, 65, 66, 67, 68, 69, 70, 71, 72, 73, 74, 75, 76, 77, 78, 79, 80, 81, 82, 83, 84, 85, 86, 87, 88, 89, 90, 91, 92, 93, 94, 95, 96, 97, 98, 99, 100, 101, 102, 103, 104, 105, 106, 107, 108, 109, 110, 111, 112, 113, 114, 115, 116, 117, 118, 119, 120, 121, 122, 123, 124, 125, 126, 127, 128, 129, 130, 131, 132, 133, 134, 135, 136, 137, 138, 139, 140, 141, 142, 143, 144, 145, 146, 147, 148, 149, 150, 151, 152, 153, 154, 155, 156, 157, 158, 159, 160, 161, 162, 163, 164, 165, 166, 0, 3, 4, 5, 167, 168, 169, 170, 171, 172, 173, 174, 175, 176, 177, 178, 179, 180, 185, 186, 187, 188, 189, 190, 191, 192, 193, 194, 195] (by decide +kernel) (by decide +kernel)
set_option maxRecDepth 20000 in
theorem gX4_readComparison_X4_readSum : GoodIn wsX4_readComparison (wsV RX4 67 RX4 yX4_readSum wsX4_readSum) := goodIn_app (goodIn_of _ (by decide +kernel)) ggX4_readComparison_X4_readSum
set_option maxRecDepth 20000 in
theorem ggX4_readComparison_X4_step : GoodIn wsX4_readComparison wsX4_step := goodIn_r _ [10, 11, 12, 13, 14, 1, 15, 16, 6, 17, 18, 19, 20, 21, 22, 23, 24, 25, 26, 27, 28, 29, 30, 31, 32, 33, 34, 35, 36, 37, 38, 39, 40, 41, 42, 43, 44, 45, 46, 47, 48, 49, 50, 51, 52, 53, 54, 55, 56, 57, 58, 59, 60, 61, 62, 63, 64, 65, 66, 67, 68, 69, 70, 71, 72, 73, 74, 75, 76, 77, 78, 79, 80, 81, 82, 83, 84, 85, 86, 87, 88, 89, 90, 91, 92, 93, 94, 95, 96, 97, 98, 99, 100, 101, 102, 103, 104, 105, 106, 107, 108, 109, 110, 111, 112, 113, 114, 115, 116, 117, 118, 119, 120, 121, 122, 123, 124, 125, 126, 127, 128, 129, 130, 131, 132, 133, 134, 135, 136, 137, 138, 139, 140, 141, 142, 143, 144, 145, 146, 147, 186, 187, 188, 189, 190, 191, 192] (by decide +kernel) (by decide +kernel)
set_option maxRecDepth 20000 in
theorem gX4_readComparison_X4_step : GoodIn wsX4_readComparison (wsV RX4 32 RX4 yX4_step wsX4_step) := goodIn_app (goodIn_of _ (by decide +kernel)) ggX4_readComparison_X4_step
set_option maxRecDepth 20000 in
theorem ggX4_readComparison_X6_add : GoodIn wsX4_readComparison wsX6_add := goodIn_r _ [152, 153, 154, 193, 194, 195] (by decide +kernel) (by decide +kernel)
set_option maxRecDepth 20000 in
theorem gX4_readComparison_X6_add : GoodIn wsX4_readComparison (wsV RX4 58 RX6 yX6_add wsX6_add) := goodIn_app (goodIn_of _ (by decide +kernel)) ggX4_readComparison_X6_add
theorem dX4_readComparison_0 : decode cX4_readComparison 0 = .ok (.aload_n 0, 1) := by decide +kernel
theorem dX4_readComparison_1 : decode cX4_readComparison 1 = .ok (.iload_n 1, 1) := by decide +kernel
theorem dX4_readComparison_2 : decode cX4_readComparison 2 = .ok (.invokevirtual 67, 3) := by decide +kernel
theorem dX4_readComparison_5 : decode cX4_readComparison 5 = .ok (.ifCond .ne 5, 3) := by decide +kernel
theorem dX4_readComparison_8 : decode cX4_readComparison 8 = .ok (.iconst 0, 1) := by decide +kernel
theorem dX4_readComparison_9 : decode cX4_readComparison 9 = .ok (.ireturn, 1) := by decide +kernel
theorem dX4_readComparison_10 : decode cX4_readComparison 10 = .ok (.aload_n 0, 1) := by decide +kernel
theorem dX4_readComparison_11 : decode cX4_readComparison 11 = .ok (.getfield 41, 3) := by decide +kernel
theorem dX4_readComparison_14 : decode cX4_readComparison 14 = .ok (.bipush 60, 2) := by decide +kernel
theorem dX4_readComparison_16 : decode cX4_readComparison 16 = .ok (.if_icmp .eq 14, 3) := by decide +kernel
theorem dX4_readComparison_19 : decode cX4_readComparison 19 = .ok (.aload_n 0, 1) := by decide +kernel
theorem dX4_readComparison_20 : decode cX4_readComparison 20 = .ok (.getfield 41, 3) := by decide +kernel
theorem dX4_readComparison_23 : decode cX4_readComparison 23 = .ok (.bipush 61, 2) := by decide +kernel
theorem dX4_readComparison_25 : decode cX4_readComparison 25 = .ok (.if_icmp .eq 5, 3) := by decide +kernel
theorem dX4_readComparison_28 : decode cX4_readComparison 28 = .ok (.iconst 1, 1) := by decide +kernel
theorem dX4_readComparison_29 : decode cX4_readComparison 29 = .ok (.ireturn, 1) := by decide +kernel
theorem dX4_readComparison_30 : decode cX4_readComparison 30 = .ok (.aload_n 0, 1) := by decide +kernel
theorem dX4_readComparison_31 : decode cX4_readComparison 31 = .ok (.getfield 41, 3) := by decide +kernel
theorem dX4_readComparison_34 : decode cX4_readComparison 34 = .ok (.istore_n 2, 1) := by decide +kernel
theorem dX4_readComparison_35 : decode cX4_readComparison 35 = .ok (.aload_n 0, 1) := by decide +kernel
theorem dX4_readComparison_36 : decode cX4_readComparison 36 = .ok (.invokevirtual 32, 3) := by decide +kernel
theorem dX4_readComparison_39 : decode cX4_readComparison 39 = .ok (.aload_n 0, 1) := by decide +kernel
theorem dX4_readComparison_40 : decode cX4_readComparison 40 = .ok (.iload_n 1, 1) := by decide +kernel
theorem dX4_readComparison_41 : decode cX4_readComparison 41 = .ok (.invokevirtual 67, 3) := by decide +kernel
theorem dX4_readComparison_44 : decode cX4_readComparison 44 = .ok (.ifCond .ne 5, 3) := by decide +kernel
theorem dX4_readComparison_47 : decode cX4_readComparison 47 = .ok (.iconst 0, 1) := by decide +kernel
theorem dX4_readComparison_48 : decode cX4_readComparison 48 = .ok (.ireturn, 1) := by decide +kernel
theorem dX4_readComparison_49 : decode cX4_readComparison 49 = .ok (.aload_n 0, 1) := by decide +kernel
theorem dX4_readComparison_50 : decode cX4_readComparison 50 = .ok (.getfield 18, 3) := by decide +kernel
theorem dX4_readComparison_53 : decode cX4_readComparison 53 = .ok (.iload_n 2, 1) := by decide +kernel
theorem dX4_readComparison_54 : decode cX4_readComparison 54 = .ok (.ineg, 1) := by decide +kernel
theorem dX4_readComparison_55 : decode cX4_readComparison 55 = .ok (.invokevirtual 58, 3) := by decide +kernel
theorem dX4_readComparison_58 : decode cX4_readComparison 58 = .ok (.iconst 1, 1) := by decide +kernel
theorem dX4_readComparison_59 : decode cX4_readComparison 59 = .ok (.ireturn, 1) := by decide +kernel
set_option maxRecDepth 20000 in
theorem ggX4_readSum_X4_readTerm : GoodIn wsX4_readSum wsX4_readTerm := goodIn_r _ [185, 1, 2, 179, 180, 181, 6, 7, 8, 9, 10, 11, 12, 13, 14, 15, 16, 17, 18, 19, 20, 21, 22, 23, 24, 25, 26, 27, 28, 29, 30, 31, 32, 33, 34, 35, 36, 37, 38, 39, 40, 41, 42, 43, 44, 45, 46, 47, 48, 49, 50, 51, 52, 53, 54, 55, 56, 57, 58, 59, 60, 61, 62, 63, 64, 65, 66, 67, 68, 69, 70, 71, 72, 73, 74, 75, 76, 77, 78, 79, 80, 81, 82, 83, 84, 85, 86, 87, 88, 89, 90, 91, 92, 93, 94, 95, 96, 97, 98, 99, 100, 101, 102, 103, 104, 105, 106, 107, 108, 109, 110, 111, 112, 113, 114, 115, 116, 117, 118, 119, 120, 121, 122, 123, 124, 125, 126, 127, 128, 129, 130, 131, 132, 133, 134, 135, 136, 137, 138, 139, 140, 141, 142, 143, 144, 145, 146, 147, 148, 149, 150, 151, 152, 153, 154, 155, 156, 157, 158, 159, 160, 161, 162, 163, 164, 165, 166, 167, 168, 169, 170, 171, 172, 173, 174, 175, 176, 177, 178, 182, 183, 184, 0, 3, 4, 5, 186, 187, 188, 189, 190, 191, 192, 193, 194, 195] (by decide +kernel) (by decide +kernel)
set_option maxRecDepth 20000 in
theorem gX4_readSum_X4_readTerm : GoodIn wsX4_readSum (wsV RX4 70 RX4 yX4_readTerm wsX4_readTerm) := goodIn_app (goodIn_of _ (by decide +kernel)) ggX4_readSum_X4_readTerm
set_option maxRecDepth 20000 in
theorem ggX4_readSum_X4_step : GoodIn wsX4_readSum wsX4_step := goodIn_r _ [10, 11, 12, 13, 14, 1, 15, 16, 6, 17, 18, 19, 20, 21, 22, 23, 24, 25, 26, 27, 28, 29, 30, 31, 32, 33, 34, 35, 36, 37, 38, 39, 40, 41, 42, 43, 44, 45, 46, 47, 48, 49, 50, 51, 52, 53, 54, 55, 56, 57, 58, 59, 60, 61, 62, 63, 64, 65, 66, 67, 68, 69, 70, 71, 72, 73, 74, 75, 76, 77, 78, 79, 80, 81, 82, 83, 84, 85, 86, 87, 88, 89, 90, 91, 92, 93, 94, 95, 96, 97, 98, 99, 100, 101, 102, 103, 104, 105, 106, 107, 108, 109, 110, 111, 112, 113, 114, 115, 116, 117, 118, 119, 120, 121, 122, 123, 124, 125, 126, 127, 128, 129, 130, 131, 132, 133, 134, 135, 136, 137, 138, 139, 140, 141, 142, 143, 144, 145, 146, 147, 186, 187, 188, 189, 190, 191, 192] (by decide +kernel) (by decide +kernel)
set_option maxRecDepth 20000 in
theorem gX4_readSum_X4_step : GoodIn wsX4_readSum (wsV RX4 32 RX4 yX4_step wsX4_step) := goodIn_app (goodIn_of _ (by decide +kernel)) ggX4_readSum_X4_step
set_option maxRecDepth 20000 in
theorem ggX4_readSum_X6_add : GoodIn wsX4_readSum wsX6_add := goodIn_r _ [152, 153, 154, 193, 194, 195] (by decide +kernel) (by decide +kernel)
set_option maxRecDepth 20000 in
theorem gX4_readSum_X6_add : GoodIn wsX4_readSum (wsV RX4 58 RX6 yX6_add wsX6_add) := goodIn_app (goodIn_of _ (by decide +kernel)) ggX4_readSum_X6_add
theorem dX4_readSum_0 : decode cX4_readSum 0 = .ok (.aload_n 0, 1) := by decide +kernel
theorem dX4_readSum_1 : decode cX4_readSum 1 = .ok (.iload_n 1, 1) := by decide +kernel
theorem dX4_readSum_2 : decode cX4_readSum 2 = .ok (.invokevirtual 70, 3) := by decide +kernel
theorem dX4_readSum_5 : decode cX4_readSum 5 = .ok (.ifCond .ne 5, 3) := by decide +kernel
theorem dX4_readSum_8 : decode cX4_readSum 8 = .ok (.iconst 0, 1) := by decide +kernel
theorem dX4_readSum_9 : decode cX4_readSum 9 = .ok (.ireturn, 1) := by decide +kernel
theorem dX4_readSum_10 : decode cX4_readSum 10 = .ok (.iconst 0, 1) := by decide +kernel
theorem dX4_readSum_11 : decode cX4_readSum 11 = .ok (.istore_n 2, 1) := by decide +kernel
theorem dX4_readSum_12 : decode cX4_readSum 12 = .ok (.iload_n 2, 1) := by decide +kernel
theorem dX4_readSum_13 : decode cX4_readSum 13 = .ok (.sipush 160, 3) := by decide +kernel
theorem dX4_readSum_16 : decode cX4_readSum 16 = .ok (.if_icmp .ge 55, 3) := by decide +kernel
theorem dX4_readSum_19 : decode cX4_readSum 19 = .ok (.aload_n 0, 1) := by decide +kernel
theorem dX4_readSum_20 : decode cX4_readSum 20 = .ok (.getfield 41, 3) := by decide +kernel
theorem dX4_readSum_23 : decode cX4_readSum 23 = .ok (.bipush 43, 2) := by decide +kernel
theorem dX4_readSum_25 : decode cX4_readSum 25 = .ok (.if_icmp .eq 12, 3) := by decide +kernel
theorem dX4_readSum_28 : decode cX4_readSum 28 = .ok (.aload_n 0, 1) := by decide +kernel
theorem dX4_readSum_29 : decode cX4_readSum 29 = .ok (.getfield 41, 3) := by decide +kernel
theorem dX4_readSum_32 : decode cX4_readSum 32 = .ok (.bipush 45, 2) := by decide +kernel
theorem dX4_readSum_34 : decode cX4_readSum 34 = .ok (.if_icmp .ne 37, 3) := by decide +kernel
theorem dX4_readSum_37 : decode cX4_readSum 37 = .ok (.aload_n 0, 1) := by decide +kernel
theorem dX4_readSum_38 : decode cX4_readSum 38 = .ok (.getfield 41, 3) := by decide +kernel
theorem dX4_readSum_41 : decode cX4_readSum 41 = .ok (.istore_n 3, 1) := by decide +kernel
theorem dX4_readSum_42 : decode cX4_readSum 42 = .ok (.aload_n 0, 1) := by decide +kernel
theorem dX4_readSum_43 : decode cX4_readSum 43 = .ok (.invokevirtual 32, 3) := by decide +kernel
theorem dX4_readSum_46 : decode cX4_readSum 46 = .ok (.aload_n 0, 1) := by decide +kernel
theorem dX4_readSum_47 : decode cX4_readSum 47 = .ok (.iload_n 1, 1) := by decide +kernel
theorem dX4_readSum_48 : decode cX4_readSum 48 = .ok (.invokevirtual 70, 3) := by decide +kernel
theorem dX4_readSum_51 : decode cX4_readSum 51 = .ok (.ifCond .ne 5, 3) := by decide +kernel
theorem dX4_readSum_54 : decode cX4_readSum 54 = .ok (.iconst 0, 1) := by decide +kernel
theorem dX4_readSum_55 : decode cX4_readSum 55 = .ok (.ireturn, 1) := by decide +kernel
theorem dX4_readSum_56 : decode cX4_readSum 56 = .ok (.aload_n 0, 1) := by decide +kernel
theorem dX4_readSum_57 : decode cX4_readSum 57 = .ok (.getfield 18, 3) := by decide +kernel
theorem dX4_readSum_60 : decode cX4_readSum 60 = .ok (.iload_n 3, 1) := by decide +kernel
theorem dX4_readSum_61 : decode cX4_readSum 61 = .ok (.ineg, 1) := by decide +kernel
theorem dX4_readSum_62 : decode cX4_readSum 62 = .ok (.invokevirtual 58, 3) := by decide +kernel
theorem dX4_readSum_65 : decode cX4_readSum 65 = .ok (.iinc 2 1, 3) := by decide +kernel
theorem dX4_readSum_68 : decode cX4_readSum 68 = .ok (.goto (-56), 3) := by decide +kernel
theorem dX4_readSum_71 : decode cX4_readSum 71 = .ok (.iconst 1, 1) := by decide +kernel
theorem dX4_readSum_72 : decode cX4_readSum 72 = .ok (.ireturn, 1) := by decide +kernel
set_option maxRecDepth 20000 in
theorem ggX4_readTerm_X4_readOne : GoodIn wsX4_readTerm wsX4_readOne := goodIn_r _ [175, 1, 2, 86, 176, 177, 24, 178, 148, 149, 150, 151, 152, 153, 154, 7, 8, 9, 6, 10, 11, 12, 13, 14, 15, 16, 17, 18, 19, 20, 21, 22, 23, 25, 26, 27, 28, 29, 30, 31, 32, 33, 34, 35, 36, 37, 38, 39, 40, 41, 42, 43, 44, 45, 46, 47, 48, 49, 50, 51, 52, 53, 54, 55, 56, 57, 58, 59, 60, 61, 62, 63, 64, 65, 66, 67, 68, 69, 70, 71, 72, 73, 74, 75, 76, 77, 78, 79, 80, 81, 82, 83, 84, 85, 87, 88, 89, 90, 91, 92, 93, 94, 95, 96, 97, 98, 99, 100, 101, 102, 103, 104, 105, 106, 107, 108, 109, 110, 111, 112, 113, 114, 115, 116, 117, 118, 119, 120, 121, 122, 123, 124, 125, 126, 127, 128, 129, 130, 131, 132, 133, 134, 135, 136, 137, 138, 139, 140, 141, 142, 143, 144, 145, 146, 147, 3, 4, 5, 179, 180, 181, 155, 156, 157, 158, 159, 160, 161, 162, 163, 164, 165, 166, 167, 168, 169, 170, 171, 172, 173, 174, 182, 183, 184, 185, 0, 186, 187, 188, 189, 190, 191, 192, 193, 194, 195] (by decide +kernel) (by decide +kernel)
set_option maxRecDepth 20000 in
theorem gX4_readTerm_X4_readOne : GoodIn wsX4_readTerm (wsV RX4 73 RX4 yX4_readOne wsX4_readOne) := goodIn_app (goodIn_of _ (by decide +kernel)) ggX4_readTerm_X4_readOne
set_option maxRecDepth 20000 in
theorem ggX4_readTerm_X4_step : GoodIn wsX4_readTerm wsX4_step := goodIn_r _ [10, 11, 12, 13, 14, 1, 15, 16, 6, 17, 18, 19, 20, 21, 22, 23, 24, 25, 26, 27, 28, 29, 30, 31, 32, 33, 34, 35, 36, 37, 38, 39, 40, 41, 42, 43, 44, 45, 46, 47, 48, 49, 50, 51, 52, 53, 54, 55, 56, 57, 58, 59, 60, 61, 62, 63, 64, 65, 66, 67, 68, 69, 70, 71, 72, 73, 74, 75, 76, 77, 78, 79, 80, 81, 82, 83, 84, 85, 86, 87, 88, 89, 90, 91, 92, 93, 94, 95, 96, 97, 98, 99, 100, 101, 102, 103, 104, 105, 106, 107, 108, 109, 110, 111, 112, 113, 114, 115, 116, 117, 118, 119, 120, 121, 122, 123, 124, 125, 126, 127, 128, 129, 130, 131, 132, 133, 134, 135, 136, 137, 138, 139, 140, 141, 142, 143, 144, 145, 146, 147, 186, 187, 188, 189, 190, 191, 192] (by decide +kernel) (by decide +kernel)
set_option maxRecDepth 20000 in
theorem gX4_readTerm_X4_step : GoodIn wsX4_readTerm (wsV RX4 32 RX4 yX4_step wsX4_step) := goodIn_app (goodIn_of _ (by decide +kernel)) ggX4_readTerm_X4_step
set_option maxRecDepth 20000 in
theorem ggX4_readTerm_X6_add : GoodIn wsX4_readTerm wsX6_add := goodIn_r _ [152, 153, 154, 193, 194, 195] (by decide +kernel) (by decide +kernel)
set_option maxRecDepth 20000 in
theorem gX4_readTerm_X6_add : GoodIn wsX4_readTerm (wsV RX4 58 RX6 yX6_add wsX6_add) := goodIn_app (goodIn_of _ (by decide +kernel)) ggX4_readTerm_X6_add
theorem dX4_readTerm_0 : decode cX4_readTerm 0 = .ok (.aload_n 0, 1) := by decide +kernel
theorem dX4_readTerm_1 : decode cX4_readTerm 1 = .ok (.iload_n 1, 1) := by decide +kernel
theorem dX4_readTerm_2 : decode cX4_readTerm 2 = .ok (.invokevirtual 73, 3) := by decide +kernel
theorem dX4_readTerm_5 : decode cX4_readTerm 5 = .ok (.ifCond .ne 5, 3) := by decide +kernel
theorem dX4_readTerm_8 : decode cX4_readTerm 8 = .ok (.iconst 0, 1) := by decide +kernel
theorem dX4_readTerm_9 : decode cX4_readTerm 9 = .ok (.ireturn, 1) := by decide +kernel
theorem dX4_readTerm_10 : decode cX4_readTerm 10 = .ok (.iconst 0, 1) := by decide +kernel
theorem dX4_readTerm_11 : decode cX4_readTerm 11 = .ok (.istore_n 2, 1) := by decide +kernel
theorem dX4_readTerm_12 : decode cX4_readTerm 12 = .ok (.iload_n 2, 1) := by decide +kernel
theorem dX4_readTerm_13 : decode cX4_readTerm 13 = .ok (.sipush 160, 3) := by decide +kernel
theorem dX4_readTerm_16 : decode cX4_readTerm 16 = .ok (.if_icmp .ge 41, 3) := by decide +kernel
theorem dX4_readTerm_19 : decode cX4_readTerm 19 = .ok (.aload_n 0, 1) := by decide +kernel
theorem dX4_readTerm_20 : decode cX4_readTerm 20 = .ok (.getfield 41, 3) := by decide +kernel
theorem dX4_readTerm_23 : decode cX4_readTerm 23 = .ok (.bipush 42, 2) := by decide +kernel
theorem dX4_readTerm_25 : decode cX4_readTerm 25 = .ok (.if_icmp .ne 32, 3) := by decide +kernel
theorem dX4_readTerm_28 : decode cX4_readTerm 28 = .ok (.aload_n 0, 1) := by decide +kernel
theorem dX4_readTerm_29 : decode cX4_readTerm 29 = .ok (.invokevirtual 32, 3) := by decide +kernel
theorem dX4_readTerm_32 : decode cX4_readTerm 32 = .ok (.aload_n 0, 1) := by decide +kernel
theorem dX4_readTerm_33 : decode cX4_readTerm 33 = .ok (.iload_n 1, 1) := by decide +kernel
theorem dX4_readTerm_34 : decode cX4_readTerm 34 = .ok (.invokevirtual 73, 3) := by decide +kernel
theorem dX4_readTerm_37 : decode cX4_readTerm 37 = .ok (.ifCond .ne 5, 3) := by decide +kernel
theorem dX4_readTerm_40 : decode cX4_readTerm 40 = .ok (.iconst 0, 1) := by decide +kernel
theorem dX4_readTerm_41 : decode cX4_readTerm 41 = .ok (.ireturn, 1) := by decide +kernel
theorem dX4_readTerm_42 : decode cX4_readTerm 42 = .ok (.aload_n 0, 1) := by decide +kernel
theorem dX4_readTerm_43 : decode cX4_readTerm 43 = .ok (.getfield 18, 3) := by decide +kernel
theorem dX4_readTerm_46 : decode cX4_readTerm 46 = .ok (.bipush (-42), 2) := by decide +kernel
theorem dX4_readTerm_48 : decode cX4_readTerm 48 = .ok (.invokevirtual 58, 3) := by decide +kernel
theorem dX4_readTerm_51 : decode cX4_readTerm 51 = .ok (.iinc 2 1, 3) := by decide +kernel
theorem dX4_readTerm_54 : decode cX4_readTerm 54 = .ok (.goto (-42), 3) := by decide +kernel
theorem dX4_readTerm_57 : decode cX4_readTerm 57 = .ok (.iconst 1, 1) := by decide +kernel
theorem dX4_readTerm_58 : decode cX4_readTerm 58 = .ok (.ireturn, 1) := by decide +kernel
set_option maxRecDepth 20000 in
theorem ggX4_readOne_X7_isName : GoodIn wsX4_readOne wsX7_isName := goodIn_r _ [7] (by decide +kernel) (by decide +kernel)
set_option maxRecDepth 20000 in
theorem gX4_readOne_X7_isName : GoodIn wsX4_readOne (va_wsS RX4 76 yX7_isName wsX7_isName) := goodIn_app (goodIn_of _ (by decide +kernel)) ggX4_readOne_X7_isName
set_option maxRecDepth 20000 in
theorem ggX4_readOne_X6_add : GoodIn wsX4_readOne wsX6_add := goodIn_r _ [12, 13, 14, 193, 194, 195] (by decide +kernel) (by decide +kernel)
set_option maxRecDepth 20000 in
theorem gX4_readOne_X6_add : GoodIn wsX4_readOne (wsV RX4 58 RX6 yX6_add wsX6_add) := goodIn_app (goodIn_of _ (by decide +kernel)) ggX4_readOne_X6_add
set_option maxRecDepth 20000 in
theorem ggX4_readOne_X4_step : GoodIn wsX4_readOne wsX4_step := goodIn_r _ [19, 20, 21, 22, 23, 1, 24, 25, 18, 26, 27, 28, 29, 30, 31, 32, 6, 33, 34, 35, 36, 37, 38, 39, 40, 41, 42, 43, 44, 45, 46, 47, 48, 49, 50, 51, 52, 53, 54, 55, 56, 57, 58, 59, 60, 61, 62, 63, 64, 65, 66, 67, 68, 69, 70, 71, 72, 73, 74, 75, 76, 77, 78, 79, 80, 81, 82, 83, 84, 85, 86, 87, 88, 89, 90, 91, 92, 93, 3, 94, 95, 96, 97, 98, 99, 100, 101, 102, 103, 104, 105, 106, 107, 108, 109, 110, 111, 112, 113, 114, 115, 116, 117, 118, 119, 120, 121, 122, 123, 124, 125, 126, 127, 128, 129, 130, 131, 132, 133, 134, 135, 136, 137, 138, 139, 140, 141, 142, 143, 144, 145, 146, 147, 148, 149, 150, 151, 152, 153, 154, 186, 187, 188, 189, 190, 191, 192] (by decide +kernel) (by decide +kernel)
set_option maxRecDepth 20000 in
theorem gX4_readOne_X4_step : GoodIn wsX4_readOne (wsV RX4 32 RX4 yX4_step wsX4_step) := goodIn_app (goodIn_of _ (by decide +kernel)) ggX4_readOne_X4_step
set_option maxRecDepth 20000 in
theorem ggX4_readOne_X4_readOne : GoodIn wsX4_readOne wsX4_readOne := goodIn_r _ [0, 1, 2, 3, 4, 5, 6, 7, 8, 9, 10, 11, 12, 13, 14, 15, 16, 17, 18, 19, 20, 21, 22, 23, 24, 25, 26, 27, 28, 29, 30, 31, 32, 33, 34, 35, 36, 37, 38, 39, 40, 41, 42, 43, 44, 45, 46, 47, 48, 49, 50, 51, 52, 53, 54, 55, 56, 57, 58, 59, 60, 61, 62, 63, 64, 65, 66, 67, 68, 69, 70, 71, 72, 73, 74, 75, 76, 77, 78, 79, 80, 81, 82, 83, 84, 85, 86, 87, 88, 89, 90, 91, 92, 93, 94, 95, 96, 97, 98, 99, 100, 101, 102, 103, 104, 105, 106, 107, 108, 109, 110, 111, 112, 113, 114, 115, 116, 117, 118, 119, 120, 121, 122, 123, 124, 125, 126, 127, 128, 129, 130, 131, 132, 133, 134, 135, 136, 137, 138, 139, 140, 141, 142, 143, 144, 145, 146, 147, 148, 149, 150, 151, 152, 153, 154, 155, 156, 157, 158, 159, 160, 161, 162, 163, 164, 165, 166, 167, 168, 169, 170, 171, 172, 173, 174, 175, 176, 177, 178, 179, 180, 181, 182, 183, 184, 185, 186, 187, 188, 189, 190, 191, 192, 193, 194, 195] (by decide +kernel) (by decide +kernel)
set_option maxRecDepth 20000 in
theorem gX4_readOne_X4_readOne : GoodIn wsX4_readOne (wsV RX4 73 RX4 yX4_readOne wsX4_readOne) := goodIn_app (goodIn_of _ (by decide +kernel)) ggX4_readOne_X4_readOne
set_option maxRecDepth 20000 in
theorem ggX4_readOne_X4_readBracket : GoodIn wsX4_readOne wsX4_readBracket := goodIn_r _ [169, 1, 15, 16, 17, 18, 19, 20, 21, 22, 23, 24, 25, 26, 27, 28, 29, 30, 31, 32, 6, 33, 34, 35, 36, 37, 38, 39, 40, 41, 42, 43, 44, 45, 46, 47, 48, 49, 50, 51, 52, 53, 54, 55, 56, 57, 58, 59, 60, 61, 62, 63, 64, 65, 66, 67, 68, 69, 70, 71, 72, 73, 74, 75, 76, 77, 78, 79, 80, 81, 82, 83, 84, 85, 86, 87, 88, 89, 90, 91, 92, 93, 3, 94, 95, 96, 97, 98, 99, 100, 101, 102, 103, 104, 105, 106, 107, 108, 109, 110, 111, 112, 113, 114, 115, 116, 117, 118, 119, 120, 121, 122, 123, 124, 125, 126, 127, 128, 129, 130, 131, 132, 133, 134, 135, 136, 137, 138, 139, 140, 141, 142, 143, 144, 145, 146, 147, 148, 149, 150, 151, 152, 153, 154, 170, 171, 172, 161, 2, 162, 163, 164, 8, 9, 10, 11, 12, 13, 14, 165, 166, 167, 168, 173, 174, 175, 176, 177, 178, 179, 180, 0, 4, 5, 7, 155, 156, 157, 158, 159, 160, 181, 182, 183, 184, 185, 186, 187, 188, 189, 190, 191, 192, 193, 194, 195] (by decide +kernel) (by decide +kernel)
set_option maxRecDepth 20000 in
theorem gX4_readOne_X4_readBracket : GoodIn wsX4_readOne (wsV RX4 82 RX4 yX4_readBracket wsX4_readBracket) := goodIn_app (goodIn_of _ (by decide +kernel)) ggX4_readOne_X4_readBracket
theorem dX4_readOne_0 : decode cX4_readOne 0 = .ok (.aload_n 0, 1) := by decide +kernel
theorem dX4_readOne_1 : decode cX4_readOne 1 = .ok (.getfield 41, 3) := by decide +kernel
theorem dX4_readOne_4 : decode cX4_readOne 4 = .ok (.sipush 268, 3) := by decide +kernel
theorem dX4_readOne_7 : decode cX4_readOne 7 = .ok (.if_icmp .eq 13, 3) := by decide +kernel
theorem dX4_readOne_10 : decode cX4_readOne 10 = .ok (.aload_n 0, 1) := by decide +kernel
theorem dX4_readOne_11 : decode cX4_readOne 11 = .ok (.getfield 41, 3) := by decide +kernel
theorem dX4_readOne_14 : decode cX4_readOne 14 = .ok (.invokestatic 76, 3) := by decide +kernel
theorem dX4_readOne_17 : decode cX4_readOne 17 = .ok (.ifCond .eq 38, 3) := by decide +kernel
theorem dX4_readOne_20 : decode cX4_readOne 20 = .ok (.aload_n 0, 1) := by decide +kernel
theorem dX4_readOne_21 : decode cX4_readOne 21 = .ok (.getfield 18, 3) := by decide +kernel
theorem dX4_readOne_24 : decode cX4_readOne 24 = .ok (.aload_n 0, 1) := by decide +kernel
theorem dX4_readOne_25 : decode cX4_readOne 25 = .ok (.getfield 41, 3) := by decide +kernel
theorem dX4_readOne_28 : decode cX4_readOne 28 = .ok (.sipush 268, 3) := by decide +kernel
theorem dX4_readOne_31 : decode cX4_readOne 31 = .ok (.if_icmp .ne 10, 3) := by decide +kernel
theorem dX4_readOne_34 : decode cX4_readOne 34 = .ok (.aload_n 0, 1) := by decide +kernel
theorem dX4_readOne_35 : decode cX4_readOne 35 = .ok (.getfield 79, 3) := by decide +kernel
theorem dX4_readOne_38 : decode cX4_readOne 38 = .ok (.goto 8, 3) := by decide +kernel
theorem dX4_readOne_41 : decode cX4_readOne 41 = .ok (.aload_n 0, 1) := by decide +kernel
theorem dX4_readOne_42 : decode cX4_readOne 42 = .ok (.getfield 41, 3) := by decide +kernel
