theorem dX8_fitting_34 : decode cX8_fitting 34 = .ok (.iinc 6 1, 3) := by decide +kernel
theorem dX8_fitting_37 : decode cX8_fitting 37 = .ok (.goto (-31), 3) := by decide +kernel
theorem dX8_fitting_40 : decode cX8_fitting 40 = .ok (.iload 5, 2) := by decide +kernel
theorem dX8_fitting_42 : decode cX8_fitting 42 = .ok (.ireturn, 1) := by decide +kernel
set_option maxRecDepth 20000 in
theorem ggX8_troublesFitting_X8_fits : GoodIn wsX8_troublesFitting wsX8_fits := goodIn_r _ [5, 6, 7, 8, 9, 10, 11, 12, 13, 14, 15, 16, 17, 18, 19, 20, 21, 22, 23, 24, 25, 26, 27, 28, 29, 30, 31, 32, 33, 34, 35, 36, 37, 38, 39, 40, 4, 41, 42, 43, 44, 45, 46, 47, 48, 49, 50, 51, 52, 53, 54, 55, 56, 57, 58, 59, 60, 61, 62, 63, 64, 65, 66, 67, 68, 69, 70, 71, 72, 73, 74, 75, 76, 77, 78, 79, 80, 81, 82, 83, 84, 85, 86, 87, 88, 89, 90, 91, 92, 93, 94, 95, 96, 97, 98, 99, 100, 101, 102, 103, 104, 105, 106, 107, 108, 109, 110, 111, 112, 113, 114, 115, 116, 117, 118, 119, 120, 121, 122, 123, 124, 125, 126, 127, 128, 129, 130, 131, 132, 133, 134, 135, 136, 137, 138, 139, 140, 141, 142, 143, 144, 145, 146, 147, 148, 149, 150] (by decide +kernel) (by decide +kernel)
set_option maxRecDepth 20000 in
theorem gX8_troublesFitting_X8_fits : GoodIn wsX8_troublesFitting (wsV RX8 275 RX8 yX8_fits wsX8_fits) := goodIn_app (goodIn_of _ (by decide +kernel)) ggX8_troublesFitting_X8_fits
theorem dX8_troublesFitting_0 : decode cX8_troublesFitting 0 = .ok (.iconst 0, 1) := by decide +kernel
theorem dX8_troublesFitting_1 : decode cX8_troublesFitting 1 = .ok (.istore_n 3, 1) := by decide +kernel
theorem dX8_troublesFitting_2 : decode cX8_troublesFitting 2 = .ok (.iconst 0, 1) := by decide +kernel
theorem dX8_troublesFitting_3 : decode cX8_troublesFitting 3 = .ok (.istore 4, 2) := by decide +kernel
theorem dX8_troublesFitting_5 : decode cX8_troublesFitting 5 = .ok (.iload 4, 2) := by decide +kernel
theorem dX8_troublesFitting_7 : decode cX8_troublesFitting 7 = .ok (.bipush 99, 2) := by decide +kernel
theorem dX8_troublesFitting_9 : decode cX8_troublesFitting 9 = .ok (.if_icmp .gt 24, 3) := by decide +kernel
theorem dX8_troublesFitting_12 : decode cX8_troublesFitting 12 = .ok (.aload_n 0, 1) := by decide +kernel
theorem dX8_troublesFitting_13 : decode cX8_troublesFitting 13 = .ok (.aload_n 1, 1) := by decide +kernel
theorem dX8_troublesFitting_14 : decode cX8_troublesFitting 14 = .ok (.iload_n 2, 1) := by decide +kernel
theorem dX8_troublesFitting_15 : decode cX8_troublesFitting 15 = .ok (.iconst 3, 1) := by decide +kernel
theorem dX8_troublesFitting_16 : decode cX8_troublesFitting 16 = .ok (.iload 4, 2) := by decide +kernel
theorem dX8_troublesFitting_18 : decode cX8_troublesFitting 18 = .ok (.invokevirtual 275, 3) := by decide +kernel
theorem dX8_troublesFitting_21 : decode cX8_troublesFitting 21 = .ok (.ifCond .eq 6, 3) := by decide +kernel
theorem dX8_troublesFitting_24 : decode cX8_troublesFitting 24 = .ok (.iinc 3 1, 3) := by decide +kernel
theorem dX8_troublesFitting_27 : decode cX8_troublesFitting 27 = .ok (.iinc 4 1, 3) := by decide +kernel
theorem dX8_troublesFitting_30 : decode cX8_troublesFitting 30 = .ok (.goto (-25), 3) := by decide +kernel
theorem dX8_troublesFitting_33 : decode cX8_troublesFitting 33 = .ok (.iload_n 3, 1) := by decide +kernel
theorem dX8_troublesFitting_34 : decode cX8_troublesFitting 34 = .ok (.ireturn, 1) := by decide +kernel
set_option maxRecDepth 20000 in
theorem ggX8_leastTroubleFitting_X8_fits : GoodIn wsX8_leastTroubleFitting wsX8_fits := goodIn_r _ [5, 6, 7, 8, 9, 10, 11, 12, 13, 14, 15, 16, 17, 18, 19, 20, 21, 22, 23, 24, 25, 26, 27, 28, 29, 30, 31, 32, 33, 34, 35, 36, 37, 38, 39, 40, 4, 41, 42, 43, 44, 45, 46, 47, 48, 49, 50, 51, 52, 53, 54, 55, 56, 57, 58, 59, 60, 61, 62, 63, 64, 65, 66, 67, 68, 69, 70, 71, 72, 73, 74, 75, 76, 77, 78, 79, 80, 81, 82, 83, 84, 85, 86, 87, 88, 89, 90, 91, 92, 93, 94, 95, 96, 97, 98, 99, 100, 101, 102, 103, 104, 105, 106, 107, 108, 109, 110, 111, 112, 113, 114, 115, 116, 117, 118, 119, 120, 121, 122, 123, 124, 125, 126, 127, 128, 129, 130, 131, 132, 133, 134, 135, 136, 137, 138, 139, 140, 141, 142, 143, 144, 145, 146, 147, 148, 149, 150] (by decide +kernel) (by decide +kernel)
set_option maxRecDepth 20000 in
theorem gX8_leastTroubleFitting_X8_fits : GoodIn wsX8_leastTroubleFitting (wsV RX8 275 RX8 yX8_fits wsX8_fits) := goodIn_app (goodIn_of _ (by decide +kernel)) ggX8_leastTroubleFitting_X8_fits
theorem dX8_leastTroubleFitting_0 : decode cX8_leastTroubleFitting 0 = .ok (.iconst 0, 1) := by decide +kernel
theorem dX8_leastTroubleFitting_1 : decode cX8_leastTroubleFitting 1 = .ok (.istore_n 3, 1) := by decide +kernel
theorem dX8_leastTroubleFitting_2 : decode cX8_leastTroubleFitting 2 = .ok (.iload_n 3, 1) := by decide +kernel
theorem dX8_leastTroubleFitting_3 : decode cX8_leastTroubleFitting 3 = .ok (.bipush 99, 2) := by decide +kernel
theorem dX8_leastTroubleFitting_5 : decode cX8_leastTroubleFitting 5 = .ok (.if_icmp .gt 22, 3) := by decide +kernel
theorem dX8_leastTroubleFitting_8 : decode cX8_leastTroubleFitting 8 = .ok (.aload_n 0, 1) := by decide +kernel
theorem dX8_leastTroubleFitting_9 : decode cX8_leastTroubleFitting 9 = .ok (.aload_n 1, 1) := by decide +kernel
theorem dX8_leastTroubleFitting_10 : decode cX8_leastTroubleFitting 10 = .ok (.iload_n 2, 1) := by decide +kernel
theorem dX8_leastTroubleFitting_11 : decode cX8_leastTroubleFitting 11 = .ok (.iconst 3, 1) := by decide +kernel
theorem dX8_leastTroubleFitting_12 : decode cX8_leastTroubleFitting 12 = .ok (.iload_n 3, 1) := by decide +kernel
theorem dX8_leastTroubleFitting_13 : decode cX8_leastTroubleFitting 13 = .ok (.invokevirtual 275, 3) := by decide +kernel
theorem dX8_leastTroubleFitting_16 : decode cX8_leastTroubleFitting 16 = .ok (.ifCond .eq 5, 3) := by decide +kernel
theorem dX8_leastTroubleFitting_19 : decode cX8_leastTroubleFitting 19 = .ok (.iload_n 3, 1) := by decide +kernel
theorem dX8_leastTroubleFitting_20 : decode cX8_leastTroubleFitting 20 = .ok (.ireturn, 1) := by decide +kernel
theorem dX8_leastTroubleFitting_21 : decode cX8_leastTroubleFitting 21 = .ok (.iinc 3 1, 3) := by decide +kernel
theorem dX8_leastTroubleFitting_24 : decode cX8_leastTroubleFitting 24 = .ok (.goto (-22), 3) := by decide +kernel
theorem dX8_leastTroubleFitting_27 : decode cX8_leastTroubleFitting 27 = .ok (.iconst (-1), 1) := by decide +kernel
theorem dX8_leastTroubleFitting_28 : decode cX8_leastTroubleFitting 28 = .ok (.ireturn, 1) := by decide +kernel
set_option maxRecDepth 20000 in
theorem ggX8_onesFitting_X1_takeFrom : GoodIn wsX8_onesFitting wsX1_takeFrom := goodIn_r _ [8, 9, 10, 11, 12, 13, 14, 15, 16, 17, 18, 19, 20, 21, 22, 23, 117, 118, 119, 120, 121, 122, 123, 124, 125, 126, 127] (by decide +kernel) (by decide +kernel)
set_option maxRecDepth 20000 in
theorem gX8_onesFitting_X1_takeFrom : GoodIn wsX8_onesFitting (wsV RX8 137 RX1 yX1_takeFrom wsX1_takeFrom) := goodIn_app (goodIn_of _ (by decide +kernel)) ggX8_onesFitting_X1_takeFrom
set_option maxRecDepth 20000 in
theorem ggX8_onesFitting_X8_firstOtherwise : GoodIn wsX8_onesFitting wsX8_firstOtherwise := goodIn_r _ [28, 29, 30, 31, 3, 32, 33, 34, 35, 36, 37, 38, 39, 40, 41, 42, 7, 43, 12, 44, 45, 46, 47, 48, 49, 50, 51, 52, 53, 54, 55, 56, 57, 58, 59, 60, 61, 62, 63, 64, 65, 66, 67, 68, 69, 70, 71, 72, 73, 74, 75, 76, 77, 78, 79, 80, 81, 27, 82, 83, 84, 85, 86, 87, 88, 89, 90, 91, 92, 93, 94, 95, 96, 97, 98, 99, 100, 101, 102, 103, 104, 105, 106, 107, 128, 129, 130, 108, 109, 110, 111, 112, 113, 114, 115, 116, 117, 118, 119, 120, 121, 122, 123, 124, 125, 126, 127, 131, 132, 133, 134, 135, 136] (by decide +kernel) (by decide +kernel)
set_option maxRecDepth 20000 in
theorem gX8_onesFitting_X8_firstOtherwise : GoodIn wsX8_onesFitting (wsV RX8 202 RX8 yX8_firstOtherwise wsX8_firstOtherwise) := goodIn_app (goodIn_of _ (by decide +kernel)) ggX8_onesFitting_X8_firstOtherwise
theorem dX8_onesFitting_0 : decode cX8_onesFitting 0 = .ok (.iconst 0, 1) := by decide +kernel
theorem dX8_onesFitting_1 : decode cX8_onesFitting 1 = .ok (.istore_n 2, 1) := by decide +kernel
theorem dX8_onesFitting_2 : decode cX8_onesFitting 2 = .ok (.iconst 0, 1) := by decide +kernel
theorem dX8_onesFitting_3 : decode cX8_onesFitting 3 = .ok (.istore_n 3, 1) := by decide +kernel
theorem dX8_onesFitting_4 : decode cX8_onesFitting 4 = .ok (.iload_n 3, 1) := by decide +kernel
theorem dX8_onesFitting_5 : decode cX8_onesFitting 5 = .ok (.aload_n 0, 1) := by decide +kernel
theorem dX8_onesFitting_6 : decode cX8_onesFitting 6 = .ok (.getfield 10, 3) := by decide +kernel
theorem dX8_onesFitting_9 : decode cX8_onesFitting 9 = .ok (.getfield 236, 3) := by decide +kernel
theorem dX8_onesFitting_12 : decode cX8_onesFitting 12 = .ok (.if_icmp .ge 36, 3) := by decide +kernel
theorem dX8_onesFitting_15 : decode cX8_onesFitting 15 = .ok (.aload_n 0, 1) := by decide +kernel
theorem dX8_onesFitting_16 : decode cX8_onesFitting 16 = .ok (.getfield 16, 3) := by decide +kernel
theorem dX8_onesFitting_19 : decode cX8_onesFitting 19 = .ok (.aload_n 0, 1) := by decide +kernel
theorem dX8_onesFitting_20 : decode cX8_onesFitting 20 = .ok (.getfield 10, 3) := by decide +kernel
theorem dX8_onesFitting_23 : decode cX8_onesFitting 23 = .ok (.invokevirtual 137, 3) := by decide +kernel
theorem dX8_onesFitting_26 : decode cX8_onesFitting 26 = .ok (.aload_n 0, 1) := by decide +kernel
theorem dX8_onesFitting_27 : decode cX8_onesFitting 27 = .ok (.aload_n 1, 1) := by decide +kernel
theorem dX8_onesFitting_28 : decode cX8_onesFitting 28 = .ok (.iload_n 3, 1) := by decide +kernel
theorem dX8_onesFitting_29 : decode cX8_onesFitting 29 = .ok (.invokevirtual 202, 3) := by decide +kernel
theorem dX8_onesFitting_32 : decode cX8_onesFitting 32 = .ok (.iconst (-1), 1) := by decide +kernel
theorem dX8_onesFitting_33 : decode cX8_onesFitting 33 = .ok (.if_icmp .ne 9, 3) := by decide +kernel
theorem dX8_onesFitting_36 : decode cX8_onesFitting 36 = .ok (.iload_n 2, 1) := by decide +kernel
theorem dX8_onesFitting_37 : decode cX8_onesFitting 37 = .ok (.iconst 1, 1) := by decide +kernel
theorem dX8_onesFitting_38 : decode cX8_onesFitting 38 = .ok (.iload_n 3, 1) := by decide +kernel
theorem dX8_onesFitting_39 : decode cX8_onesFitting 39 = .ok (.ishl, 1) := by decide +kernel
theorem dX8_onesFitting_40 : decode cX8_onesFitting 40 = .ok (.ior, 1) := by decide +kernel
theorem dX8_onesFitting_41 : decode cX8_onesFitting 41 = .ok (.istore_n 2, 1) := by decide +kernel
theorem dX8_onesFitting_42 : decode cX8_onesFitting 42 = .ok (.iinc 3 1, 3) := by decide +kernel
theorem dX8_onesFitting_45 : decode cX8_onesFitting 45 = .ok (.goto (-41), 3) := by decide +kernel
theorem dX8_onesFitting_48 : decode cX8_onesFitting 48 = .ok (.iload_n 2, 1) := by decide +kernel
theorem dX8_onesFitting_49 : decode cX8_onesFitting 49 = .ok (.ireturn, 1) := by decide +kernel
theorem dX9_in_0 : decode cX9_in 0 = .ok (.lload_n 0, 1) := by decide +kernel
theorem dX9_in_1 : decode cX9_in 1 = .ok (.lload_n 2, 1) := by decide +kernel
theorem dX9_in_2 : decode cX9_in 2 = .ok (.lcmp, 1) := by decide +kernel
theorem dX9_in_3 : decode cX9_in 3 = .ok (.ifCond .lt 14, 3) := by decide +kernel
theorem dX9_in_6 : decode cX9_in 6 = .ok (.lload_n 0, 1) := by decide +kernel
theorem dX9_in_7 : decode cX9_in 7 = .ok (.lload 4, 2) := by decide +kernel
theorem dX9_in_9 : decode cX9_in 9 = .ok (.lcmp, 1) := by decide +kernel
theorem dX9_in_10 : decode cX9_in 10 = .ok (.ifCond .gt 7, 3) := by decide +kernel
theorem dX9_in_13 : decode cX9_in 13 = .ok (.iconst 1, 1) := by decide +kernel
theorem dX9_in_14 : decode cX9_in 14 = .ok (.goto 4, 3) := by decide +kernel
theorem dX9_in_17 : decode cX9_in 17 = .ok (.iconst 0, 1) := by decide +kernel
theorem dX9_in_18 : decode cX9_in 18 = .ok (.ireturn, 1) := by decide +kernel
theorem dX9_within_0 : decode cX9_within 0 = .ok (.iload_n 0, 1) := by decide +kernel
theorem dX9_within_1 : decode cX9_within 1 = .ok (.iload_n 1, 1) := by decide +kernel
theorem dX9_within_2 : decode cX9_within 2 = .ok (.if_icmp .ge 7, 3) := by decide +kernel
theorem dX9_within_5 : decode cX9_within 5 = .ok (.iload_n 1, 1) := by decide +kernel
theorem dX9_within_6 : decode cX9_within 6 = .ok (.goto 13, 3) := by decide +kernel
theorem dX9_within_9 : decode cX9_within 9 = .ok (.iload_n 0, 1) := by decide +kernel
theorem dX9_within_10 : decode cX9_within 10 = .ok (.iload_n 2, 1) := by decide +kernel
theorem dX9_within_11 : decode cX9_within 11 = .ok (.if_icmp .le 7, 3) := by decide +kernel
theorem dX9_within_14 : decode cX9_within 14 = .ok (.iload_n 2, 1) := by decide +kernel
theorem dX9_within_15 : decode cX9_within 15 = .ok (.goto 4, 3) := by decide +kernel
theorem dX9_within_18 : decode cX9_within 18 = .ok (.iload_n 0, 1) := by decide +kernel
theorem dX9_within_19 : decode cX9_within 19 = .ok (.ireturn, 1) := by decide +kernel
set_option maxRecDepth 20000 in
theorem ggX9_init_X9_spell : GoodIn wsX9_init wsX9_spell := goodIn_r _ [30, 5, 31, 32, 33, 34, 35, 36, 37, 38, 39, 40, 41, 42, 43, 44, 45, 46, 47, 48, 49, 50, 51, 52, 53, 54, 55, 56, 57, 58, 59, 60, 61, 62, 63, 64, 65, 66, 67, 68, 69, 70, 71, 72, 73, 74] (by decide +kernel) (by decide +kernel)
set_option maxRecDepth 20000 in
theorem gX9_init_X9_spell : GoodIn wsX9_init (wsV RX9 70 RX9 yX9_spell wsX9_spell) := goodIn_app (goodIn_of _ (by decide +kernel)) ggX9_init_X9_spell
theorem dX9_init_0 : decode cX9_init 0 = .ok (.aload_n 0, 1) := by decide +kernel
theorem dX9_init_1 : decode cX9_init 1 = .ok (.invokespecial 7, 3) := by decide +kernel
theorem dX9_init_4 : decode cX9_init 4 = .ok (.aload_n 0, 1) := by decide +kernel
theorem dX9_init_5 : decode cX9_init 5 = .ok (.sipush 960, 3) := by decide +kernel
theorem dX9_init_8 : decode cX9_init 8 = .ok (.newarray .int, 2) := by decide +kernel
theorem dX9_init_10 : decode cX9_init 10 = .ok (.putfield 13, 3) := by decide +kernel
theorem dX9_init_13 : decode cX9_init 13 = .ok (.aload_n 0, 1) := by decide +kernel
theorem dX9_init_14 : decode cX9_init 14 = .ok (.bipush 6, 2) := by decide +kernel
theorem dX9_init_16 : decode cX9_init 16 = .ok (.newarray .int, 2) := by decide +kernel
theorem dX9_init_18 : decode cX9_init 18 = .ok (.putfield 17, 3) := by decide +kernel
theorem dX9_init_21 : decode cX9_init 21 = .ok (.aload_n 0, 1) := by decide +kernel
theorem dX9_init_22 : decode cX9_init 22 = .ok (.sipush 160, 3) := by decide +kernel
theorem dX9_init_25 : decode cX9_init 25 = .ok (.newarray .int, 2) := by decide +kernel
theorem dX9_init_27 : decode cX9_init 27 = .ok (.putfield 20, 3) := by decide +kernel
theorem dX9_init_30 : decode cX9_init 30 = .ok (.aload_n 0, 1) := by decide +kernel
theorem dX9_init_31 : decode cX9_init 31 = .ok (.iconst 5, 1) := by decide +kernel
theorem dX9_init_32 : decode cX9_init 32 = .ok (.newarray .int, 2) := by decide +kernel
theorem dX9_init_34 : decode cX9_init 34 = .ok (.putfield 23, 3) := by decide +kernel
theorem dX9_init_37 : decode cX9_init 37 = .ok (.aload_n 0, 1) := by decide +kernel
theorem dX9_init_38 : decode cX9_init 38 = .ok (.bipush 15, 2) := by decide +kernel
theorem dX9_init_40 : decode cX9_init 40 = .ok (.newarray .int, 2) := by decide +kernel
theorem dX9_init_42 : decode cX9_init 42 = .ok (.putfield 26, 3) := by decide +kernel
theorem dX9_init_45 : decode cX9_init 45 = .ok (.aload_n 0, 1) := by decide +kernel
theorem dX9_init_46 : decode cX9_init 46 = .ok (.bipush 18, 2) := by decide +kernel
theorem dX9_init_48 : decode cX9_init 48 = .ok (.newarray .int, 2) := by decide +kernel
theorem dX9_init_50 : decode cX9_init 50 = .ok (.putfield 29, 3) := by decide +kernel
theorem dX9_init_53 : decode cX9_init 53 = .ok (.aload_n 0, 1) := by decide +kernel
theorem dX9_init_54 : decode cX9_init 54 = .ok (.sipush 1024, 3) := by decide +kernel
theorem dX9_init_57 : decode cX9_init 57 = .ok (.newarray .long, 2) := by decide +kernel
theorem dX9_init_59 : decode cX9_init 59 = .ok (.putfield 32, 3) := by decide +kernel
theorem dX9_init_62 : decode cX9_init 62 = .ok (.aload_n 0, 1) := by decide +kernel
theorem dX9_init_63 : decode cX9_init 63 = .ok (.sipush 1024, 3) := by decide +kernel
theorem dX9_init_66 : decode cX9_init 66 = .ok (.newarray .int, 2) := by decide +kernel
theorem dX9_init_68 : decode cX9_init 68 = .ok (.putfield 36, 3) := by decide +kernel
theorem dX9_init_71 : decode cX9_init 71 = .ok (.aload_n 0, 1) := by decide +kernel
theorem dX9_init_72 : decode cX9_init 72 = .ok (.bipush 30, 2) := by decide +kernel
theorem dX9_init_74 : decode cX9_init 74 = .ok (.newarray .int, 2) := by decide +kernel
theorem dX9_init_76 : decode cX9_init 76 = .ok (.putfield 39, 3) := by decide +kernel
theorem dX9_init_79 : decode cX9_init 79 = .ok (.aload_n 0, 1) := by decide +kernel
theorem dX9_init_80 : decode cX9_init 80 = .ok (.iconst 5, 1) := by decide +kernel
theorem dX9_init_81 : decode cX9_init 81 = .ok (.newarray .int, 2) := by decide +kernel
theorem dX9_init_83 : decode cX9_init 83 = .ok (.putfield 42, 3) := by decide +kernel
theorem dX9_init_86 : decode cX9_init 86 = .ok (.aload_n 0, 1) := by decide +kernel
theorem dX9_init_87 : decode cX9_init 87 = .ok (.bipush 34, 2) := by decide +kernel
theorem dX9_init_89 : decode cX9_init 89 = .ok (.newarray .int, 2) := by decide +kernel
theorem dX9_init_91 : decode cX9_init 91 = .ok (.putfield 45, 3) := by decide +kernel
theorem dX9_init_94 : decode cX9_init 94 = .ok (.aload_n 0, 1) := by decide +kernel
theorem dX9_init_95 : decode cX9_init 95 = .ok (.bipush 15, 2) := by decide +kernel
theorem dX9_init_97 : decode cX9_init 97 = .ok (.newarray .int, 2) := by decide +kernel
theorem dX9_init_99 : decode cX9_init 99 = .ok (.putfield 48, 3) := by decide +kernel
theorem dX9_init_102 : decode cX9_init 102 = .ok (.aload_n 0, 1) := by decide +kernel
theorem dX9_init_103 : decode cX9_init 103 = .ok (.bipush 18, 2) := by decide +kernel
theorem dX9_init_105 : decode cX9_init 105 = .ok (.newarray .int, 2) := by decide +kernel
theorem dX9_init_107 : decode cX9_init 107 = .ok (.putfield 51, 3) := by decide +kernel
theorem dX9_init_110 : decode cX9_init 110 = .ok (.aload_n 0, 1) := by decide +kernel
theorem dX9_init_111 : decode cX9_init 111 = .ok (.iconst (-1), 1) := by decide +kernel
theorem dX9_init_112 : decode cX9_init 112 = .ok (.putfield 54, 3) := by decide +kernel
theorem dX9_init_115 : decode cX9_init 115 = .ok (.aload_n 0, 1) := by decide +kernel
theorem dX9_init_116 : decode cX9_init 116 = .ok (.iconst 4, 1) := by decide +kernel
theorem dX9_init_117 : decode cX9_init 117 = .ok (.newarray .boolean, 2) := by decide +kernel
theorem dX9_init_119 : decode cX9_init 119 = .ok (.putfield 57, 3) := by decide +kernel
theorem dX9_init_122 : decode cX9_init 122 = .ok (.aload_n 0, 1) := by decide +kernel
theorem dX9_init_123 : decode cX9_init 123 = .ok (.iconst 4, 1) := by decide +kernel
theorem dX9_init_124 : decode cX9_init 124 = .ok (.newarray .int, 2) := by decide +kernel
theorem dX9_init_126 : decode cX9_init 126 = .ok (.putfield 61, 3) := by decide +kernel
theorem dX9_init_129 : decode cX9_init 129 = .ok (.aload_n 0, 1) := by decide +kernel
theorem dX9_init_130 : decode cX9_init 130 = .ok (.iconst 4, 1) := by decide +kernel
theorem dX9_init_131 : decode cX9_init 131 = .ok (.newarray .int, 2) := by decide +kernel
theorem dX9_init_133 : decode cX9_init 133 = .ok (.putfield 64, 3) := by decide +kernel
theorem dX9_init_136 : decode cX9_init 136 = .ok (.aload_n 0, 1) := by decide +kernel
theorem dX9_init_137 : decode cX9_init 137 = .ok (.sipush 160, 3) := by decide +kernel
theorem dX9_init_140 : decode cX9_init 140 = .ok (.newarray .int, 2) := by decide +kernel
theorem dX9_init_142 : decode cX9_init 142 = .ok (.putfield 67, 3) := by decide +kernel
theorem dX9_init_145 : decode cX9_init 145 = .ok (.iconst 0, 1) := by decide +kernel
theorem dX9_init_146 : decode cX9_init 146 = .ok (.istore_n 1, 1) := by decide +kernel
theorem dX9_init_147 : decode cX9_init 147 = .ok (.iload_n 1, 1) := by decide +kernel
theorem dX9_init_148 : decode cX9_init 148 = .ok (.bipush 6, 2) := by decide +kernel
theorem dX9_init_150 : decode cX9_init 150 = .ok (.if_icmp .ge 30, 3) := by decide +kernel
theorem dX9_init_153 : decode cX9_init 153 = .ok (.aload_n 0, 1) := by decide +kernel
theorem dX9_init_154 : decode cX9_init 154 = .ok (.getfield 29, 3) := by decide +kernel
theorem dX9_init_157 : decode cX9_init 157 = .ok (.iconst 3, 1) := by decide +kernel
theorem dX9_init_158 : decode cX9_init 158 = .ok (.iload_n 1, 1) := by decide +kernel
theorem dX9_init_159 : decode cX9_init 159 = .ok (.imul, 1) := by decide +kernel
theorem dX9_init_160 : decode cX9_init 160 = .ok (.bipush 10, 2) := by decide +kernel
theorem dX9_init_162 : decode cX9_init 162 = .ok (.iastore, 1) := by decide +kernel
theorem dX9_init_163 : decode cX9_init 163 = .ok (.aload_n 0, 1) := by decide +kernel
theorem dX9_init_164 : decode cX9_init 164 = .ok (.getfield 29, 3) := by decide +kernel
theorem dX9_init_167 : decode cX9_init 167 = .ok (.iconst 3, 1) := by decide +kernel
theorem dX9_init_168 : decode cX9_init 168 = .ok (.iload_n 1, 1) := by decide +kernel
theorem dX9_init_169 : decode cX9_init 169 = .ok (.imul, 1) := by decide +kernel
theorem dX9_init_170 : decode cX9_init 170 = .ok (.iconst 1, 1) := by decide +kernel
theorem dX9_init_171 : decode cX9_init 171 = .ok (.iadd, 1) := by decide +kernel
theorem dX9_init_172 : decode cX9_init 172 = .ok (.iload_n 1, 1) := by decide +kernel
theorem dX9_init_173 : decode cX9_init 173 = .ok (.iastore, 1) := by decide +kernel
theorem dX9_init_174 : decode cX9_init 174 = .ok (.iinc 1 1, 3) := by decide +kernel
theorem dX9_init_177 : decode cX9_init 177 = .ok (.goto (-30), 3) := by decide +kernel
theorem dX9_init_180 : decode cX9_init 180 = .ok (.aload_n 0, 1) := by decide +kernel
theorem dX9_init_181 : decode cX9_init 181 = .ok (.iconst 0, 1) := by decide +kernel
theorem dX9_init_182 : decode cX9_init 182 = .ok (.bipush 121, 2) := by decide +kernel
theorem dX9_init_184 : decode cX9_init 184 = .ok (.bipush 105, 2) := by decide +kernel
theorem dX9_init_186 : decode cX9_init 186 = .ok (.bipush 101, 2) := by decide +kernel
theorem dX9_init_188 : decode cX9_init 188 = .ok (.bipush 108, 2) := by decide +kernel
theorem dX9_init_190 : decode cX9_init 190 = .ok (.bipush 100, 2) := by decide +kernel
theorem dX9_init_192 : decode cX9_init 192 = .ok (.bipush 115, 2) := by decide +kernel
theorem dX9_init_194 : decode cX9_init 194 = .ok (.bipush 32, 2) := by decide +kernel
theorem dX9_init_196 : decode cX9_init 196 = .ok (.bipush 49, 2) := by decide +kernel
theorem dX9_init_198 : decode cX9_init 198 = .ok (.invokevirtual 70, 3) := by decide +kernel
theorem dX9_init_201 : decode cX9_init 201 = .ok (.aload_n 0, 1) := by decide +kernel
theorem dX9_init_202 : decode cX9_init 202 = .ok (.bipush 8, 2) := by decide +kernel
theorem dX9_init_204 : decode cX9_init 204 = .ok (.bipush 32, 2) := by decide +kernel
theorem dX9_init_206 : decode cX9_init 206 = .ok (.bipush 43, 2) := by decide +kernel
theorem dX9_init_208 : decode cX9_init 208 = .ok (.bipush 32, 2) := by decide +kernel
theorem dX9_init_210 : decode cX9_init 210 = .ok (.bipush 116, 2) := by decide +kernel
theorem dX9_init_212 : decode cX9_init 212 = .ok (.bipush 114, 2) := by decide +kernel
theorem dX9_init_214 : decode cX9_init 214 = .ok (.bipush 111, 2) := by decide +kernel
theorem dX9_init_216 : decode cX9_init 216 = .ok (.bipush 117, 2) := by decide +kernel
theorem dX9_init_218 : decode cX9_init 218 = .ok (.bipush 98, 2) := by decide +kernel
theorem dX9_init_220 : decode cX9_init 220 = .ok (.invokevirtual 70, 3) := by decide +kernel
theorem dX9_init_223 : decode cX9_init 223 = .ok (.aload_n 0, 1) := by decide +kernel
theorem dX9_init_224 : decode cX9_init 224 = .ok (.bipush 16, 2) := by decide +kernel
theorem dX9_init_226 : decode cX9_init 226 = .ok (.bipush 108, 2) := by decide +kernel
theorem dX9_init_228 : decode cX9_init 228 = .ok (.bipush 101, 2) := by decide +kernel
theorem dX9_init_230 : decode cX9_init 230 = .ok (.bipush 32, 2) := by decide +kernel
theorem dX9_init_232 : decode cX9_init 232 = .ok (.bipush 59, 2) := by decide +kernel
theorem dX9_init_234 : decode cX9_init 234 = .ok (.bipush 32, 2) := by decide +kernel
theorem dX9_init_236 : decode cX9_init 236 = .ok (.bipush 115, 2) := by decide +kernel
theorem dX9_init_238 : decode cX9_init 238 = .ok (.bipush 117, 2) := by decide +kernel
theorem dX9_init_240 : decode cX9_init 240 = .ok (.bipush 105, 2) := by decide +kernel
theorem dX9_init_242 : decode cX9_init 242 = .ok (.invokevirtual 70, 3) := by decide +kernel
theorem dX9_init_245 : decode cX9_init 245 = .ok (.aload_n 0, 1) := by decide +kernel
theorem dX9_init_246 : decode cX9_init 246 = .ok (.bipush 24, 2) := by decide +kernel
theorem dX9_init_248 : decode cX9_init 248 = .ok (.bipush 116, 2) := by decide +kernel
theorem dX9_init_250 : decode cX9_init 250 = .ok (.bipush 115, 2) := by decide +kernel
theorem dX9_init_252 : decode cX9_init 252 = .ok (.bipush 32, 2) := by decide +kernel
theorem dX9_init_254 : decode cX9_init 254 = .ok (.bipush 49, 2) := by decide +kernel
theorem dX9_init_256 : decode cX9_init 256 = .ok (.bipush 32, 2) := by decide +kernel
theorem dX9_init_258 : decode cX9_init 258 = .ok (.bipush 59, 2) := by decide +kernel
theorem dX9_init_260 : decode cX9_init 260 = .ok (.bipush 32, 2) := by decide +kernel
theorem dX9_init_262 : decode cX9_init 262 = .ok (.bipush 101, 2) := by decide +kernel
theorem dX9_init_264 : decode cX9_init 264 = .ok (.invokevirtual 70, 3) := by decide +kernel
theorem dX9_init_267 : decode cX9_init 267 = .ok (.aload_n 0, 1) := by decide +kernel
theorem dX9_init_268 : decode cX9_init 268 = .ok (.bipush 32, 2) := by decide +kernel
theorem dX9_init_270 : decode cX9_init 270 = .ok (.bipush 97, 2) := by decide +kernel
theorem dX9_init_272 : decode cX9_init 272 = .ok (.bipush 115, 2) := by decide +kernel
theorem dX9_init_274 : decode cX9_init 274 = .ok (.bipush 101, 2) := by decide +kernel
theorem dX9_init_276 : decode cX9_init 276 = .ok (.bipush 115, 2) := by decide +kernel
theorem dX9_init_278 : decode cX9_init 278 = .ok (.bipush 32, 2) := by decide +kernel
theorem dX9_init_280 : decode cX9_init 280 = .ok (.bipush 48, 2) := by decide +kernel
theorem dX9_init_282 : decode cX9_init 282 = .ok (.bipush 32, 2) := by decide +kernel
theorem dX9_init_284 : decode cX9_init 284 = .ok (.bipush 59, 2) := by decide +kernel
theorem dX9_init_286 : decode cX9_init 286 = .ok (.invokevirtual 70, 3) := by decide +kernel
theorem dX9_init_289 : decode cX9_init 289 = .ok (.aload_n 0, 1) := by decide +kernel
theorem dX9_init_290 : decode cX9_init 290 = .ok (.getfield 17, 3) := by decide +kernel
theorem dX9_init_293 : decode cX9_init 293 = .ok (.iconst 0, 1) := by decide +kernel
theorem dX9_init_294 : decode cX9_init 294 = .ok (.bipush 40, 2) := by decide +kernel
theorem dX9_init_296 : decode cX9_init 296 = .ok (.iastore, 1) := by decide +kernel
theorem dX9_init_297 : decode cX9_init 297 = .ok (.aload_n 0, 1) := by decide +kernel
theorem dX9_init_298 : decode cX9_init 298 = .ok (.iconst 1, 1) := by decide +kernel
theorem dX9_init_299 : decode cX9_init 299 = .ok (.putfield 74, 3) := by decide +kernel
theorem dX9_init_302 : decode cX9_init 302 = .ok (.return_, 1) := by decide +kernel
theorem dX9_spell_0 : decode cX9_spell 0 = .ok (.aload_n 0, 1) := by decide +kernel
theorem dX9_spell_1 : decode cX9_spell 1 = .ok (.getfield 13, 3) := by decide +kernel
theorem dX9_spell_4 : decode cX9_spell 4 = .ok (.iload_n 1, 1) := by decide +kernel
theorem dX9_spell_5 : decode cX9_spell 5 = .ok (.iload_n 2, 1) := by decide +kernel
theorem dX9_spell_6 : decode cX9_spell 6 = .ok (.iastore, 1) := by decide +kernel
theorem dX9_spell_7 : decode cX9_spell 7 = .ok (.aload_n 0, 1) := by decide +kernel
theorem dX9_spell_8 : decode cX9_spell 8 = .ok (.getfield 13, 3) := by decide +kernel
theorem dX9_spell_11 : decode cX9_spell 11 = .ok (.iload_n 1, 1) := by decide +kernel
theorem dX9_spell_12 : decode cX9_spell 12 = .ok (.iconst 1, 1) := by decide +kernel
theorem dX9_spell_13 : decode cX9_spell 13 = .ok (.iadd, 1) := by decide +kernel
theorem dX9_spell_14 : decode cX9_spell 14 = .ok (.iload_n 3, 1) := by decide +kernel
theorem dX9_spell_15 : decode cX9_spell 15 = .ok (.iastore, 1) := by decide +kernel
theorem dX9_spell_16 : decode cX9_spell 16 = .ok (.aload_n 0, 1) := by decide +kernel
theorem dX9_spell_17 : decode cX9_spell 17 = .ok (.getfield 13, 3) := by decide +kernel
theorem dX9_spell_20 : decode cX9_spell 20 = .ok (.iload_n 1, 1) := by decide +kernel
theorem dX9_spell_21 : decode cX9_spell 21 = .ok (.iconst 2, 1) := by decide +kernel
theorem dX9_spell_22 : decode cX9_spell 22 = .ok (.iadd, 1) := by decide +kernel
theorem dX9_spell_23 : decode cX9_spell 23 = .ok (.iload 4, 2) := by decide +kernel
theorem dX9_spell_25 : decode cX9_spell 25 = .ok (.iastore, 1) := by decide +kernel
theorem dX9_spell_26 : decode cX9_spell 26 = .ok (.aload_n 0, 1) := by decide +kernel
theorem dX9_spell_27 : decode cX9_spell 27 = .ok (.getfield 13, 3) := by decide +kernel
theorem dX9_spell_30 : decode cX9_spell 30 = .ok (.iload_n 1, 1) := by decide +kernel
theorem dX9_spell_31 : decode cX9_spell 31 = .ok (.iconst 3, 1) := by decide +kernel
theorem dX9_spell_32 : decode cX9_spell 32 = .ok (.iadd, 1) := by decide +kernel
theorem dX9_spell_33 : decode cX9_spell 33 = .ok (.iload 5, 2) := by decide +kernel
theorem dX9_spell_35 : decode cX9_spell 35 = .ok (.iastore, 1) := by decide +kernel
theorem dX9_spell_36 : decode cX9_spell 36 = .ok (.aload_n 0, 1) := by decide +kernel
theorem dX9_spell_37 : decode cX9_spell 37 = .ok (.getfield 13, 3) := by decide +kernel
theorem dX9_spell_40 : decode cX9_spell 40 = .ok (.iload_n 1, 1) := by decide +kernel
theorem dX9_spell_41 : decode cX9_spell 41 = .ok (.iconst 4, 1) := by decide +kernel
theorem dX9_spell_42 : decode cX9_spell 42 = .ok (.iadd, 1) := by decide +kernel
theorem dX9_spell_43 : decode cX9_spell 43 = .ok (.iload 6, 2) := by decide +kernel
theorem dX9_spell_45 : decode cX9_spell 45 = .ok (.iastore, 1) := by decide +kernel
theorem dX9_spell_46 : decode cX9_spell 46 = .ok (.aload_n 0, 1) := by decide +kernel
theorem dX9_spell_47 : decode cX9_spell 47 = .ok (.getfield 13, 3) := by decide +kernel
theorem dX9_spell_50 : decode cX9_spell 50 = .ok (.iload_n 1, 1) := by decide +kernel
theorem dX9_spell_51 : decode cX9_spell 51 = .ok (.iconst 5, 1) := by decide +kernel
theorem dX9_spell_52 : decode cX9_spell 52 = .ok (.iadd, 1) := by decide +kernel
theorem dX9_spell_53 : decode cX9_spell 53 = .ok (.iload 7, 2) := by decide +kernel
theorem dX9_spell_55 : decode cX9_spell 55 = .ok (.iastore, 1) := by decide +kernel
theorem dX9_spell_56 : decode cX9_spell 56 = .ok (.aload_n 0, 1) := by decide +kernel
theorem dX9_spell_57 : decode cX9_spell 57 = .ok (.getfield 13, 3) := by decide +kernel
theorem dX9_spell_60 : decode cX9_spell 60 = .ok (.iload_n 1, 1) := by decide +kernel
theorem dX9_spell_61 : decode cX9_spell 61 = .ok (.bipush 6, 2) := by decide +kernel
theorem dX9_spell_63 : decode cX9_spell 63 = .ok (.iadd, 1) := by decide +kernel
theorem dX9_spell_64 : decode cX9_spell 64 = .ok (.iload 8, 2) := by decide +kernel
theorem dX9_spell_66 : decode cX9_spell 66 = .ok (.iastore, 1) := by decide +kernel
theorem dX9_spell_67 : decode cX9_spell 67 = .ok (.aload_n 0, 1) := by decide +kernel
theorem dX9_spell_68 : decode cX9_spell 68 = .ok (.getfield 13, 3) := by decide +kernel
theorem dX9_spell_71 : decode cX9_spell 71 = .ok (.iload_n 1, 1) := by decide +kernel
theorem dX9_spell_72 : decode cX9_spell 72 = .ok (.bipush 7, 2) := by decide +kernel
theorem dX9_spell_74 : decode cX9_spell 74 = .ok (.iadd, 1) := by decide +kernel
theorem dX9_spell_75 : decode cX9_spell 75 = .ok (.iload 9, 2) := by decide +kernel
theorem dX9_spell_77 : decode cX9_spell 77 = .ok (.iastore, 1) := by decide +kernel
theorem dX9_spell_78 : decode cX9_spell 78 = .ok (.return_, 1) := by decide +kernel
set_option maxRecDepth 20000 in
theorem ggX9_isOne_X9_in : GoodIn wsX9_isOne wsX9_in := goodIn_r _ [5] (by decide +kernel) (by decide +kernel)
set_option maxRecDepth 20000 in
theorem gX9_isOne_X9_in : GoodIn wsX9_isOne (va_wsS RX9 80 yX9_in wsX9_in) := goodIn_app (goodIn_of _ (by decide +kernel)) ggX9_isOne_X9_in
theorem dX9_isOne_0 : decode cX9_isOne 0 = .ok (.iload_n 1, 1) := by decide +kernel
theorem dX9_isOne_1 : decode cX9_isOne 1 = .ok (.i2l, 1) := by decide +kernel
theorem dX9_isOne_2 : decode cX9_isOne 2 = .ok (.lconst 0, 1) := by decide +kernel
theorem dX9_isOne_3 : decode cX9_isOne 3 = .ok (.aload_n 0, 1) := by decide +kernel
theorem dX9_isOne_4 : decode cX9_isOne 4 = .ok (.getfield 77, 3) := by decide +kernel
theorem dX9_isOne_7 : decode cX9_isOne 7 = .ok (.iconst 1, 1) := by decide +kernel
theorem dX9_isOne_8 : decode cX9_isOne 8 = .ok (.isub, 1) := by decide +kernel
theorem dX9_isOne_9 : decode cX9_isOne 9 = .ok (.i2l, 1) := by decide +kernel
theorem dX9_isOne_10 : decode cX9_isOne 10 = .ok (.invokestatic 80, 3) := by decide +kernel
theorem dX9_isOne_13 : decode cX9_isOne 13 = .ok (.ireturn, 1) := by decide +kernel
set_option maxRecDepth 20000 in
theorem ggX9_isCup_X9_in : GoodIn wsX9_isCup wsX9_in := goodIn_r _ [5] (by decide +kernel) (by decide +kernel)
set_option maxRecDepth 20000 in
theorem gX9_isCup_X9_in : GoodIn wsX9_isCup (va_wsS RX9 80 yX9_in wsX9_in) := goodIn_app (goodIn_of _ (by decide +kernel)) ggX9_isCup_X9_in
theorem dX9_isCup_0 : decode cX9_isCup 0 = .ok (.iload_n 0, 1) := by decide +kernel
theorem dX9_isCup_1 : decode cX9_isCup 1 = .ok (.i2l, 1) := by decide +kernel
theorem dX9_isCup_2 : decode cX9_isCup 2 = .ok (.lconst 0, 1) := by decide +kernel
theorem dX9_isCup_3 : decode cX9_isCup 3 = .ok (.ldc2_w 84, 3) := by decide +kernel
theorem dX9_isCup_6 : decode cX9_isCup 6 = .ok (.invokestatic 80, 3) := by decide +kernel
theorem dX9_isCup_9 : decode cX9_isCup 9 = .ok (.ireturn, 1) := by decide +kernel
set_option maxRecDepth 20000 in
theorem ggX9_isOf_X9_isCup : GoodIn wsX9_isOf wsX9_isCup := goodIn_r _ [4, 5, 6, 7, 3, 8] (by decide +kernel) (by decide +kernel)
set_option maxRecDepth 20000 in
theorem gX9_isOf_X9_isCup : GoodIn wsX9_isOf (va_wsS RX9 86 yX9_isCup wsX9_isCup) := goodIn_app (goodIn_of _ (by decide +kernel)) ggX9_isOf_X9_isCup
set_option maxRecDepth 20000 in
theorem ggX9_isOf_X9_isOne : GoodIn wsX9_isOf wsX9_isOne := goodIn_r _ [12, 13, 6, 7, 3, 8, 14, 15, 16, 17, 18, 19, 20, 21, 22, 23, 24, 25, 26, 27, 28, 29, 30, 31, 32, 33, 34, 35, 36, 37, 38, 39, 40, 41, 42, 43, 44, 45, 46, 47, 48, 49, 50, 51, 52, 53, 54, 55, 56, 57] (by decide +kernel) (by decide +kernel)
set_option maxRecDepth 20000 in
theorem gX9_isOf_X9_isOne : GoodIn wsX9_isOf (wsV RX9 90 RX9 yX9_isOne wsX9_isOne) := goodIn_app (goodIn_of _ (by decide +kernel)) ggX9_isOf_X9_isOne
theorem dX9_isOf_0 : decode cX9_isOf 0 = .ok (.iload_n 1, 1) := by decide +kernel
theorem dX9_isOf_1 : decode cX9_isOf 1 = .ok (.iconst 2, 1) := by decide +kernel
theorem dX9_isOf_2 : decode cX9_isOf 2 = .ok (.if_icmp .lt 38, 3) := by decide +kernel
theorem dX9_isOf_5 : decode cX9_isOf 5 = .ok (.iload_n 1, 1) := by decide +kernel
theorem dX9_isOf_6 : decode cX9_isOf 6 = .ok (.iconst 5, 1) := by decide +kernel
theorem dX9_isOf_7 : decode cX9_isOf 7 = .ok (.if_icmp .eq 15, 3) := by decide +kernel
theorem dX9_isOf_10 : decode cX9_isOf 10 = .ok (.iload_n 1, 1) := by decide +kernel
theorem dX9_isOf_11 : decode cX9_isOf 11 = .ok (.bipush 6, 2) := by decide +kernel
theorem dX9_isOf_13 : decode cX9_isOf 13 = .ok (.if_icmp .eq 9, 3) := by decide +kernel
theorem dX9_isOf_16 : decode cX9_isOf 16 = .ok (.iload_n 1, 1) := by decide +kernel
theorem dX9_isOf_17 : decode cX9_isOf 17 = .ok (.bipush 10, 2) := by decide +kernel
theorem dX9_isOf_19 : decode cX9_isOf 19 = .ok (.if_icmp .ne 13, 3) := by decide +kernel
theorem dX9_isOf_22 : decode cX9_isOf 22 = .ok (.iload_n 2, 1) := by decide +kernel
theorem dX9_isOf_23 : decode cX9_isOf 23 = .ok (.invokestatic 86, 3) := by decide +kernel
theorem dX9_isOf_26 : decode cX9_isOf 26 = .ok (.ifCond .eq 18, 3) := by decide +kernel
theorem dX9_isOf_29 : decode cX9_isOf 29 = .ok (.goto 11, 3) := by decide +kernel
theorem dX9_isOf_32 : decode cX9_isOf 32 = .ok (.aload_n 0, 1) := by decide +kernel
theorem dX9_isOf_33 : decode cX9_isOf 33 = .ok (.iload_n 2, 1) := by decide +kernel
theorem dX9_isOf_34 : decode cX9_isOf 34 = .ok (.invokevirtual 90, 3) := by decide +kernel
theorem dX9_isOf_37 : decode cX9_isOf 37 = .ok (.ifCond .eq 7, 3) := by decide +kernel
theorem dX9_isOf_40 : decode cX9_isOf 40 = .ok (.iconst 1, 1) := by decide +kernel
theorem dX9_isOf_41 : decode cX9_isOf 41 = .ok (.goto 4, 3) := by decide +kernel
theorem dX9_isOf_44 : decode cX9_isOf 44 = .ok (.iconst 0, 1) := by decide +kernel
theorem dX9_isOf_45 : decode cX9_isOf 45 = .ok (.ireturn, 1) := by decide +kernel
theorem dX9_mostOf_0 : decode cX9_mostOf 0 = .ok (.iload_n 0, 1) := by decide +kernel
theorem dX9_mostOf_1 : decode cX9_mostOf 1 = .ok (.ifCond .ne 9, 3) := by decide +kernel
theorem dX9_mostOf_4 : decode cX9_mostOf 4 = .ok (.sipush 999, 3) := by decide +kernel
theorem dX9_mostOf_7 : decode cX9_mostOf 7 = .ok (.goto 31, 3) := by decide +kernel
theorem dX9_mostOf_10 : decode cX9_mostOf 10 = .ok (.iload_n 0, 1) := by decide +kernel
theorem dX9_mostOf_11 : decode cX9_mostOf 11 = .ok (.iconst 1, 1) := by decide +kernel
theorem dX9_mostOf_12 : decode cX9_mostOf 12 = .ok (.if_icmp .ne 8, 3) := by decide +kernel
theorem dX9_mostOf_15 : decode cX9_mostOf 15 = .ok (.bipush 23, 2) := by decide +kernel
theorem dX9_mostOf_17 : decode cX9_mostOf 17 = .ok (.goto 21, 3) := by decide +kernel
theorem dX9_mostOf_20 : decode cX9_mostOf 20 = .ok (.iload_n 0, 1) := by decide +kernel
theorem dX9_mostOf_21 : decode cX9_mostOf 21 = .ok (.iconst 2, 1) := by decide +kernel
theorem dX9_mostOf_22 : decode cX9_mostOf 22 = .ok (.if_icmp .eq 9, 3) := by decide +kernel
theorem dX9_mostOf_25 : decode cX9_mostOf 25 = .ok (.iload_n 0, 1) := by decide +kernel
theorem dX9_mostOf_26 : decode cX9_mostOf 26 = .ok (.bipush 6, 2) := by decide +kernel
theorem dX9_mostOf_28 : decode cX9_mostOf 28 = .ok (.if_icmp .ne 8, 3) := by decide +kernel
theorem dX9_mostOf_31 : decode cX9_mostOf 31 = .ok (.bipush 9, 2) := by decide +kernel
theorem dX9_mostOf_33 : decode cX9_mostOf 33 = .ok (.goto 5, 3) := by decide +kernel
theorem dX9_mostOf_36 : decode cX9_mostOf 36 = .ok (.bipush 99, 2) := by decide +kernel
theorem dX9_mostOf_38 : decode cX9_mostOf 38 = .ok (.ireturn, 1) := by decide +kernel
set_option maxRecDepth 20000 in
theorem ggX9_set_X9_in : GoodIn wsX9_set wsX9_in := goodIn_r _ [5] (by decide +kernel) (by decide +kernel)
set_option maxRecDepth 20000 in
theorem gX9_set_X9_in : GoodIn wsX9_set (va_wsS RX9 80 yX9_in wsX9_in) := goodIn_app (goodIn_of _ (by decide +kernel)) ggX9_set_X9_in
set_option maxRecDepth 20000 in
theorem ggX9_set_X9_isOf : GoodIn wsX9_set wsX9_isOf := goodIn_r _ [9, 10, 11, 4, 12, 13, 2, 3, 5, 14, 15, 16, 17, 18, 156, 157, 158, 159, 160, 161, 162, 163, 164, 165, 166, 167, 168, 169, 170, 171, 172, 173, 174, 175, 176, 177, 178, 179, 180, 181, 182, 183, 184, 185, 186, 187, 188, 189, 190, 191, 192, 193, 194, 195, 196, 197, 198, 199] (by decide +kernel) (by decide +kernel)
set_option maxRecDepth 20000 in
theorem gX9_set_X9_isOf : GoodIn wsX9_set (wsV RX9 95 RX9 yX9_isOf wsX9_isOf) := goodIn_app (goodIn_of _ (by decide +kernel)) ggX9_set_X9_isOf
set_option maxRecDepth 20000 in
theorem ggX9_set_X9_mostOf : GoodIn wsX9_set wsX9_mostOf := goodIn_r _ [21] (by decide +kernel) (by decide +kernel)
set_option maxRecDepth 20000 in
theorem gX9_set_X9_mostOf : GoodIn wsX9_set (va_wsS RX9 99 yX9_mostOf wsX9_mostOf) := goodIn_app (goodIn_of _ (by decide +kernel)) ggX9_set_X9_mostOf
set_option maxRecDepth 20000 in
theorem ggX9_set_X9_told : GoodIn wsX9_set wsX9_told := goodIn_r _ [25, 26, 27, 28, 29, 30, 31, 2, 3, 4, 5, 6, 7, 8, 9, 10, 11, 12, 13, 14, 15, 16, 17, 18, 32, 33, 34, 35, 36, 37, 38, 39, 40, 41, 42, 43, 44, 45, 46, 47, 48, 49, 50, 51, 52, 53, 54, 55, 56, 57, 58, 59, 60, 61, 62, 63, 64, 65, 66, 67, 68, 69, 70, 71, 72, 73, 74, 75, 76, 77, 78, 79, 80, 81, 82, 83, 84, 85, 86, 87, 88, 89, 90, 91, 92, 93, 94, 95, 96, 97, 98, 99, 100, 101, 102, 103, 104, 105, 106, 107, 108, 109, 110, 111, 112, 113, 114, 115, 116, 117, 118, 119, 120, 121, 122, 123, 124, 125, 126, 127, 128, 129, 130, 131, 132, 133, 134, 135, 136, 137, 138, 139, 140, 141, 142, 143, 144, 145, 146, 147, 148, 149, 150, 151, 156, 157, 158, 159, 160, 161, 162, 163, 164, 165, 166, 167, 168, 169, 170, 171, 172, 173, 174, 175, 176, 177, 178, 179, 180, 181, 182, 183, 184, 185, 186, 187, 188, 189, 190, 191, 192, 193, 194, 195, 196, 197, 198, 199] (by decide +kernel) (by decide +kernel)
set_option maxRecDepth 20000 in
theorem gX9_set_X9_told : GoodIn wsX9_set (wsV RX9 103 RX9 yX9_told wsX9_told) := goodIn_app (goodIn_of _ (by decide +kernel)) ggX9_set_X9_told
set_option maxRecDepth 20000 in
theorem ggX9_set_X9_lays : GoodIn wsX9_set wsX9_lays := goodIn_r _ [155, 27, 28, 29, 30, 31, 50, 156, 157, 158, 159, 160, 161, 162, 163, 164, 165, 166, 167, 168, 169, 170, 171, 172, 173, 174, 175, 176, 177, 178, 179, 180, 181, 182, 183, 184, 185, 186, 187, 188, 189, 190, 191, 192, 193, 194, 195, 196, 197, 198, 199] (by decide +kernel) (by decide +kernel)
set_option maxRecDepth 20000 in
theorem gX9_set_X9_lays : GoodIn wsX9_set (wsV RX9 107 RX9 yX9_lays wsX9_lays) := goodIn_app (goodIn_of _ (by decide +kernel)) ggX9_set_X9_lays
theorem dX9_set_0 : decode cX9_set 0 = .ok (.iload_n 1, 1) := by decide +kernel
theorem dX9_set_1 : decode cX9_set 1 = .ok (.i2l, 1) := by decide +kernel
theorem dX9_set_2 : decode cX9_set 2 = .ok (.lconst 0, 1) := by decide +kernel
theorem dX9_set_3 : decode cX9_set 3 = .ok (.ldc2_w 93, 3) := by decide +kernel
theorem dX9_set_6 : decode cX9_set 6 = .ok (.invokestatic 80, 3) := by decide +kernel
theorem dX9_set_9 : decode cX9_set 9 = .ok (.ifCond .eq 26, 3) := by decide +kernel
theorem dX9_set_12 : decode cX9_set 12 = .ok (.aload_n 0, 1) := by decide +kernel
theorem dX9_set_13 : decode cX9_set 13 = .ok (.iload_n 1, 1) := by decide +kernel
theorem dX9_set_14 : decode cX9_set 14 = .ok (.iload_n 2, 1) := by decide +kernel
theorem dX9_set_15 : decode cX9_set 15 = .ok (.invokevirtual 95, 3) := by decide +kernel
theorem dX9_set_18 : decode cX9_set 18 = .ok (.ifCond .eq 17, 3) := by decide +kernel
theorem dX9_set_21 : decode cX9_set 21 = .ok (.iload_n 3, 1) := by decide +kernel
theorem dX9_set_22 : decode cX9_set 22 = .ok (.i2l, 1) := by decide +kernel
theorem dX9_set_23 : decode cX9_set 23 = .ok (.lconst 0, 1) := by decide +kernel
theorem dX9_set_24 : decode cX9_set 24 = .ok (.iload_n 1, 1) := by decide +kernel
theorem dX9_set_25 : decode cX9_set 25 = .ok (.invokestatic 99, 3) := by decide +kernel
theorem dX9_set_28 : decode cX9_set 28 = .ok (.i2l, 1) := by decide +kernel
theorem dX9_set_29 : decode cX9_set 29 = .ok (.invokestatic 80, 3) := by decide +kernel
theorem dX9_set_32 : decode cX9_set 32 = .ok (.ifCond .ne 6, 3) := by decide +kernel
theorem dX9_set_35 : decode cX9_set 35 = .ok (.bipush (-2), 2) := by decide +kernel
theorem dX9_set_37 : decode cX9_set 37 = .ok (.ireturn, 1) := by decide +kernel
theorem dX9_set_38 : decode cX9_set 38 = .ok (.aload_n 0, 1) := by decide +kernel
theorem dX9_set_39 : decode cX9_set 39 = .ok (.iload_n 2, 1) := by decide +kernel
theorem dX9_set_40 : decode cX9_set 40 = .ok (.iload_n 1, 1) := by decide +kernel
theorem dX9_set_41 : decode cX9_set 41 = .ok (.invokevirtual 103, 3) := by decide +kernel
theorem dX9_set_44 : decode cX9_set 44 = .ok (.istore 4, 2) := by decide +kernel
theorem dX9_set_46 : decode cX9_set 46 = .ok (.aload_n 0, 1) := by decide +kernel
theorem dX9_set_47 : decode cX9_set 47 = .ok (.iload_n 1, 1) := by decide +kernel
theorem dX9_set_48 : decode cX9_set 48 = .ok (.iload_n 2, 1) := by decide +kernel
theorem dX9_set_49 : decode cX9_set 49 = .ok (.iload_n 3, 1) := by decide +kernel
theorem dX9_set_50 : decode cX9_set 50 = .ok (.invokevirtual 107, 3) := by decide +kernel
theorem dX9_set_53 : decode cX9_set 53 = .ok (.iload 4, 2) := by decide +kernel
theorem dX9_set_55 : decode cX9_set 55 = .ok (.ireturn, 1) := by decide +kernel
theorem dX9_lays_0 : decode cX9_lays 0 = .ok (.iload_n 1, 1) := by decide +kernel
theorem dX9_lays_1 : decode cX9_lays 1 = .ok (.iconst 2, 1) := by decide +kernel
theorem dX9_lays_2 : decode cX9_lays 2 = .ok (.if_icmp .ge 39, 3) := by decide +kernel
theorem dX9_lays_5 : decode cX9_lays 5 = .ok (.aload_n 0, 1) := by decide +kernel
theorem dX9_lays_6 : decode cX9_lays 6 = .ok (.iload_n 1, 1) := by decide +kernel
theorem dX9_lays_7 : decode cX9_lays 7 = .ok (.ifCond .ne 7, 3) := by decide +kernel
theorem dX9_lays_10 : decode cX9_lays 10 = .ok (.iload_n 3, 1) := by decide +kernel
theorem dX9_lays_11 : decode cX9_lays 11 = .ok (.goto 7, 3) := by decide +kernel
theorem dX9_lays_14 : decode cX9_lays 14 = .ok (.aload_n 0, 1) := by decide +kernel
theorem dX9_lays_15 : decode cX9_lays 15 = .ok (.getfield 111, 3) := by decide +kernel
theorem dX9_lays_18 : decode cX9_lays 18 = .ok (.putfield 111, 3) := by decide +kernel
theorem dX9_lays_21 : decode cX9_lays 21 = .ok (.aload_n 0, 1) := by decide +kernel
theorem dX9_lays_22 : decode cX9_lays 22 = .ok (.iload_n 1, 1) := by decide +kernel
theorem dX9_lays_23 : decode cX9_lays 23 = .ok (.iconst 1, 1) := by decide +kernel
theorem dX9_lays_24 : decode cX9_lays 24 = .ok (.if_icmp .ne 7, 3) := by decide +kernel
theorem dX9_lays_27 : decode cX9_lays 27 = .ok (.iload_n 3, 1) := by decide +kernel
theorem dX9_lays_28 : decode cX9_lays 28 = .ok (.goto 7, 3) := by decide +kernel
theorem dX9_lays_31 : decode cX9_lays 31 = .ok (.aload_n 0, 1) := by decide +kernel
theorem dX9_lays_32 : decode cX9_lays 32 = .ok (.getfield 114, 3) := by decide +kernel
theorem dX9_lays_35 : decode cX9_lays 35 = .ok (.putfield 114, 3) := by decide +kernel
theorem dX9_lays_38 : decode cX9_lays 38 = .ok (.goto 67, 3) := by decide +kernel
theorem dX9_lays_41 : decode cX9_lays 41 = .ok (.iload_n 1, 1) := by decide +kernel
theorem dX9_lays_42 : decode cX9_lays 42 = .ok (.iconst 5, 1) := by decide +kernel
theorem dX9_lays_43 : decode cX9_lays 43 = .ok (.if_icmp .ge 19, 3) := by decide +kernel
theorem dX9_lays_46 : decode cX9_lays 46 = .ok (.aload_n 0, 1) := by decide +kernel
theorem dX9_lays_47 : decode cX9_lays 47 = .ok (.getfield 26, 3) := by decide +kernel
theorem dX9_lays_50 : decode cX9_lays 50 = .ok (.iconst 3, 1) := by decide +kernel
theorem dX9_lays_51 : decode cX9_lays 51 = .ok (.iload_n 2, 1) := by decide +kernel
theorem dX9_lays_52 : decode cX9_lays 52 = .ok (.imul, 1) := by decide +kernel
theorem dX9_lays_53 : decode cX9_lays 53 = .ok (.iload_n 1, 1) := by decide +kernel
theorem dX9_lays_54 : decode cX9_lays 54 = .ok (.iadd, 1) := by decide +kernel
theorem dX9_lays_55 : decode cX9_lays 55 = .ok (.iconst 2, 1) := by decide +kernel
theorem dX9_lays_56 : decode cX9_lays 56 = .ok (.isub, 1) := by decide +kernel
theorem dX9_lays_57 : decode cX9_lays 57 = .ok (.iload_n 3, 1) := by decide +kernel
theorem dX9_lays_58 : decode cX9_lays 58 = .ok (.iastore, 1) := by decide +kernel
theorem dX9_lays_59 : decode cX9_lays 59 = .ok (.goto 46, 3) := by decide +kernel
theorem dX9_lays_62 : decode cX9_lays 62 = .ok (.iload_n 1, 1) := by decide +kernel
theorem dX9_lays_63 : decode cX9_lays 63 = .ok (.bipush 7, 2) := by decide +kernel
theorem dX9_lays_65 : decode cX9_lays 65 = .ok (.if_icmp .ge 19, 3) := by decide +kernel
theorem dX9_lays_68 : decode cX9_lays 68 = .ok (.aload_n 0, 1) := by decide +kernel
theorem dX9_lays_69 : decode cX9_lays 69 = .ok (.getfield 29, 3) := by decide +kernel
theorem dX9_lays_72 : decode cX9_lays 72 = .ok (.iconst 3, 1) := by decide +kernel
theorem dX9_lays_73 : decode cX9_lays 73 = .ok (.iload_n 2, 1) := by decide +kernel
theorem dX9_lays_74 : decode cX9_lays 74 = .ok (.imul, 1) := by decide +kernel
theorem dX9_lays_75 : decode cX9_lays 75 = .ok (.iload_n 1, 1) := by decide +kernel
theorem dX9_lays_76 : decode cX9_lays 76 = .ok (.iadd, 1) := by decide +kernel
theorem dX9_lays_77 : decode cX9_lays 77 = .ok (.iconst 5, 1) := by decide +kernel
theorem dX9_lays_78 : decode cX9_lays 78 = .ok (.isub, 1) := by decide +kernel
theorem dX9_lays_79 : decode cX9_lays 79 = .ok (.iload_n 3, 1) := by decide +kernel
theorem dX9_lays_80 : decode cX9_lays 80 = .ok (.iastore, 1) := by decide +kernel
theorem dX9_lays_81 : decode cX9_lays 81 = .ok (.goto 24, 3) := by decide +kernel
theorem dX9_lays_84 : decode cX9_lays 84 = .ok (.iload_n 1, 1) := by decide +kernel
theorem dX9_lays_85 : decode cX9_lays 85 = .ok (.bipush 7, 2) := by decide +kernel
theorem dX9_lays_87 : decode cX9_lays 87 = .ok (.if_icmp .ne 13, 3) := by decide +kernel
theorem dX9_lays_90 : decode cX9_lays 90 = .ok (.aload_n 0, 1) := by decide +kernel
theorem dX9_lays_91 : decode cX9_lays 91 = .ok (.getfield 23, 3) := by decide +kernel
theorem dX9_lays_94 : decode cX9_lays 94 = .ok (.iload_n 2, 1) := by decide +kernel
theorem dX9_lays_95 : decode cX9_lays 95 = .ok (.iload_n 3, 1) := by decide +kernel
theorem dX9_lays_96 : decode cX9_lays 96 = .ok (.iastore, 1) := by decide +kernel
theorem dX9_lays_97 : decode cX9_lays 97 = .ok (.goto 8, 3) := by decide +kernel
theorem dX9_lays_100 : decode cX9_lays 100 = .ok (.aload_n 0, 1) := by decide +kernel
theorem dX9_lays_101 : decode cX9_lays 101 = .ok (.iload_n 3, 1) := by decide +kernel
theorem dX9_lays_102 : decode cX9_lays 102 = .ok (.putfield 117, 3) := by decide +kernel
theorem dX9_lays_105 : decode cX9_lays 105 = .ok (.return_, 1) := by decide +kernel
set_option maxRecDepth 20000 in
theorem ggX9_wakes_X9_in : GoodIn wsX9_wakes wsX9_in := goodIn_r _ [10] (by decide +kernel) (by decide +kernel)
set_option maxRecDepth 20000 in
theorem gX9_wakes_X9_in : GoodIn wsX9_wakes (va_wsS RX9 80 yX9_in wsX9_in) := goodIn_app (goodIn_of _ (by decide +kernel)) ggX9_wakes_X9_in
theorem dX9_wakes_0 : decode cX9_wakes 0 = .ok (.iload_n 1, 1) := by decide +kernel
theorem dX9_wakes_1 : decode cX9_wakes 1 = .ok (.i2l, 1) := by decide +kernel
theorem dX9_wakes_2 : decode cX9_wakes 2 = .ok (.lconst 0, 1) := by decide +kernel
theorem dX9_wakes_3 : decode cX9_wakes 3 = .ok (.ldc2_w 84, 3) := by decide +kernel
theorem dX9_wakes_6 : decode cX9_wakes 6 = .ok (.invokestatic 80, 3) := by decide +kernel
theorem dX9_wakes_9 : decode cX9_wakes 9 = .ok (.ifCond .eq 27, 3) := by decide +kernel
theorem dX9_wakes_12 : decode cX9_wakes 12 = .ok (.iload_n 2, 1) := by decide +kernel
theorem dX9_wakes_13 : decode cX9_wakes 13 = .ok (.i2l, 1) := by decide +kernel
theorem dX9_wakes_14 : decode cX9_wakes 14 = .ok (.lconst 0, 1) := by decide +kernel
theorem dX9_wakes_15 : decode cX9_wakes 15 = .ok (.ldc2_w 120, 3) := by decide +kernel
theorem dX9_wakes_18 : decode cX9_wakes 18 = .ok (.invokestatic 80, 3) := by decide +kernel
theorem dX9_wakes_21 : decode cX9_wakes 21 = .ok (.ifCond .eq 15, 3) := by decide +kernel
theorem dX9_wakes_24 : decode cX9_wakes 24 = .ok (.iload_n 3, 1) := by decide +kernel
theorem dX9_wakes_25 : decode cX9_wakes 25 = .ok (.i2l, 1) := by decide +kernel
theorem dX9_wakes_26 : decode cX9_wakes 26 = .ok (.lconst 0, 1) := by decide +kernel
theorem dX9_wakes_27 : decode cX9_wakes 27 = .ok (.ldc2_w 122, 3) := by decide +kernel
theorem dX9_wakes_30 : decode cX9_wakes 30 = .ok (.invokestatic 80, 3) := by decide +kernel
theorem dX9_wakes_33 : decode cX9_wakes 33 = .ok (.ifCond .ne 6, 3) := by decide +kernel
theorem dX9_wakes_36 : decode cX9_wakes 36 = .ok (.bipush (-2), 2) := by decide +kernel
theorem dX9_wakes_38 : decode cX9_wakes 38 = .ok (.ireturn, 1) := by decide +kernel
theorem dX9_wakes_39 : decode cX9_wakes 39 = .ok (.aload_n 0, 1) := by decide +kernel
theorem dX9_wakes_40 : decode cX9_wakes 40 = .ok (.getfield 77, 3) := by decide +kernel
theorem dX9_wakes_43 : decode cX9_wakes 43 = .ok (.iconst 5, 1) := by decide +kernel
theorem dX9_wakes_44 : decode cX9_wakes 44 = .ok (.if_icmp .ne 6, 3) := by decide +kernel
theorem dX9_wakes_47 : decode cX9_wakes 47 = .ok (.bipush (-4), 2) := by decide +kernel
theorem dX9_wakes_49 : decode cX9_wakes 49 = .ok (.ireturn, 1) := by decide +kernel
theorem dX9_wakes_50 : decode cX9_wakes 50 = .ok (.aload_n 0, 1) := by decide +kernel
theorem dX9_wakes_51 : decode cX9_wakes 51 = .ok (.getfield 23, 3) := by decide +kernel
theorem dX9_wakes_54 : decode cX9_wakes 54 = .ok (.aload_n 0, 1) := by decide +kernel
theorem dX9_wakes_55 : decode cX9_wakes 55 = .ok (.getfield 77, 3) := by decide +kernel
theorem dX9_wakes_58 : decode cX9_wakes 58 = .ok (.iload_n 1, 1) := by decide +kernel
theorem dX9_wakes_59 : decode cX9_wakes 59 = .ok (.iastore, 1) := by decide +kernel
theorem dX9_wakes_60 : decode cX9_wakes 60 = .ok (.aload_n 0, 1) := by decide +kernel
theorem dX9_wakes_61 : decode cX9_wakes 61 = .ok (.getfield 26, 3) := by decide +kernel
theorem dX9_wakes_64 : decode cX9_wakes 64 = .ok (.iconst 3, 1) := by decide +kernel
theorem dX9_wakes_65 : decode cX9_wakes 65 = .ok (.aload_n 0, 1) := by decide +kernel
theorem dX9_wakes_66 : decode cX9_wakes 66 = .ok (.getfield 77, 3) := by decide +kernel
theorem dX9_wakes_69 : decode cX9_wakes 69 = .ok (.imul, 1) := by decide +kernel
theorem dX9_wakes_70 : decode cX9_wakes 70 = .ok (.iload_n 2, 1) := by decide +kernel
theorem dX9_wakes_71 : decode cX9_wakes 71 = .ok (.iastore, 1) := by decide +kernel
theorem dX9_wakes_72 : decode cX9_wakes 72 = .ok (.aload_n 0, 1) := by decide +kernel
theorem dX9_wakes_73 : decode cX9_wakes 73 = .ok (.getfield 26, 3) := by decide +kernel
theorem dX9_wakes_76 : decode cX9_wakes 76 = .ok (.iconst 3, 1) := by decide +kernel
theorem dX9_wakes_77 : decode cX9_wakes 77 = .ok (.aload_n 0, 1) := by decide +kernel
theorem dX9_wakes_78 : decode cX9_wakes 78 = .ok (.getfield 77, 3) := by decide +kernel
theorem dX9_wakes_81 : decode cX9_wakes 81 = .ok (.imul, 1) := by decide +kernel
theorem dX9_wakes_82 : decode cX9_wakes 82 = .ok (.iconst 1, 1) := by decide +kernel
theorem dX9_wakes_83 : decode cX9_wakes 83 = .ok (.iadd, 1) := by decide +kernel
theorem dX9_wakes_84 : decode cX9_wakes 84 = .ok (.iload_n 3, 1) := by decide +kernel
theorem dX9_wakes_85 : decode cX9_wakes 85 = .ok (.iastore, 1) := by decide +kernel
theorem dX9_wakes_86 : decode cX9_wakes 86 = .ok (.aload_n 0, 1) := by decide +kernel
theorem dX9_wakes_87 : decode cX9_wakes 87 = .ok (.getfield 26, 3) := by decide +kernel
theorem dX9_wakes_90 : decode cX9_wakes 90 = .ok (.iconst 3, 1) := by decide +kernel
theorem dX9_wakes_91 : decode cX9_wakes 91 = .ok (.aload_n 0, 1) := by decide +kernel
theorem dX9_wakes_92 : decode cX9_wakes 92 = .ok (.getfield 77, 3) := by decide +kernel
theorem dX9_wakes_95 : decode cX9_wakes 95 = .ok (.imul, 1) := by decide +kernel
theorem dX9_wakes_96 : decode cX9_wakes 96 = .ok (.iconst 2, 1) := by decide +kernel
theorem dX9_wakes_97 : decode cX9_wakes 97 = .ok (.iadd, 1) := by decide +kernel
theorem dX9_wakes_98 : decode cX9_wakes 98 = .ok (.iconst 0, 1) := by decide +kernel
theorem dX9_wakes_99 : decode cX9_wakes 99 = .ok (.iastore, 1) := by decide +kernel
theorem dX9_wakes_100 : decode cX9_wakes 100 = .ok (.aload_n 0, 1) := by decide +kernel
theorem dX9_wakes_101 : decode cX9_wakes 101 = .ok (.dup, 1) := by decide +kernel
theorem dX9_wakes_102 : decode cX9_wakes 102 = .ok (.getfield 77, 3) := by decide +kernel
theorem dX9_wakes_105 : decode cX9_wakes 105 = .ok (.iconst 1, 1) := by decide +kernel
theorem dX9_wakes_106 : decode cX9_wakes 106 = .ok (.iadd, 1) := by decide +kernel
theorem dX9_wakes_107 : decode cX9_wakes 107 = .ok (.putfield 77, 3) := by decide +kernel
theorem dX9_wakes_110 : decode cX9_wakes 110 = .ok (.aload_n 0, 1) := by decide +kernel
theorem dX9_wakes_111 : decode cX9_wakes 111 = .ok (.getfield 77, 3) := by decide +kernel
theorem dX9_wakes_114 : decode cX9_wakes 114 = .ok (.iconst 1, 1) := by decide +kernel
theorem dX9_wakes_115 : decode cX9_wakes 115 = .ok (.isub, 1) := by decide +kernel
theorem dX9_wakes_116 : decode cX9_wakes 116 = .ok (.ireturn, 1) := by decide +kernel
set_option maxRecDepth 20000 in
theorem ggX9_told_X9_in : GoodIn wsX9_told wsX9_in := goodIn_r _ [10] (by decide +kernel) (by decide +kernel)
set_option maxRecDepth 20000 in
theorem gX9_told_X9_in : GoodIn wsX9_told (va_wsS RX9 80 yX9_in wsX9_in) := goodIn_app (goodIn_of _ (by decide +kernel)) ggX9_told_X9_in
