theorem dX9_best_38 : decode cX9_best 38 = .ok (.iload 5, 2) := by decide +kernel
theorem dX9_best_40 : decode cX9_best 40 = .ok (.iload 4, 2) := by decide +kernel
theorem dX9_best_42 : decode cX9_best 42 = .ok (.if_icmp .ge 68, 3) := by decide +kernel
theorem dX9_best_45 : decode cX9_best 45 = .ok (.iload_n 1, 1) := by decide +kernel
theorem dX9_best_46 : decode cX9_best 46 = .ok (.iconst 2, 1) := by decide +kernel
theorem dX9_best_47 : decode cX9_best 47 = .ok (.if_icmp .ge 14, 3) := by decide +kernel
theorem dX9_best_50 : decode cX9_best 50 = .ok (.aload_n 0, 1) := by decide +kernel
theorem dX9_best_51 : decode cX9_best 51 = .ok (.iload 5, 2) := by decide +kernel
theorem dX9_best_53 : decode cX9_best 53 = .ok (.iconst (-1), 1) := by decide +kernel
theorem dX9_best_54 : decode cX9_best 54 = .ok (.iconst (-1), 1) := by decide +kernel
theorem dX9_best_55 : decode cX9_best 55 = .ok (.invokevirtual 302, 3) := by decide +kernel
theorem dX9_best_58 : decode cX9_best 58 = .ok (.goto 27, 3) := by decide +kernel
theorem dX9_best_61 : decode cX9_best 61 = .ok (.iload_n 1, 1) := by decide +kernel
theorem dX9_best_62 : decode cX9_best 62 = .ok (.iconst 4, 1) := by decide +kernel
theorem dX9_best_63 : decode cX9_best 63 = .ok (.if_icmp .ge 14, 3) := by decide +kernel
theorem dX9_best_66 : decode cX9_best 66 = .ok (.aload_n 0, 1) := by decide +kernel
theorem dX9_best_67 : decode cX9_best 67 = .ok (.iconst (-1), 1) := by decide +kernel
theorem dX9_best_68 : decode cX9_best 68 = .ok (.iload 5, 2) := by decide +kernel
theorem dX9_best_70 : decode cX9_best 70 = .ok (.iconst (-1), 1) := by decide +kernel
theorem dX9_best_71 : decode cX9_best 71 = .ok (.invokevirtual 302, 3) := by decide +kernel
theorem dX9_best_74 : decode cX9_best 74 = .ok (.goto 11, 3) := by decide +kernel
theorem dX9_best_77 : decode cX9_best 77 = .ok (.aload_n 0, 1) := by decide +kernel
theorem dX9_best_78 : decode cX9_best 78 = .ok (.iconst (-1), 1) := by decide +kernel
theorem dX9_best_79 : decode cX9_best 79 = .ok (.iconst (-1), 1) := by decide +kernel
theorem dX9_best_80 : decode cX9_best 80 = .ok (.iload 5, 2) := by decide +kernel
theorem dX9_best_82 : decode cX9_best 82 = .ok (.invokevirtual 302, 3) := by decide +kernel
theorem dX9_best_85 : decode cX9_best 85 = .ok (.istore 6, 2) := by decide +kernel
theorem dX9_best_87 : decode cX9_best 87 = .ok (.iload_n 2, 1) := by decide +kernel
theorem dX9_best_88 : decode cX9_best 88 = .ok (.iconst (-1), 1) := by decide +kernel
theorem dX9_best_89 : decode cX9_best 89 = .ok (.if_icmp .eq 9, 3) := by decide +kernel
theorem dX9_best_92 : decode cX9_best 92 = .ok (.iload 6, 2) := by decide +kernel
theorem dX9_best_94 : decode cX9_best 94 = .ok (.iload_n 3, 1) := by decide +kernel
theorem dX9_best_95 : decode cX9_best 95 = .ok (.if_icmp .le 9, 3) := by decide +kernel
theorem dX9_best_98 : decode cX9_best 98 = .ok (.iload 5, 2) := by decide +kernel
theorem dX9_best_100 : decode cX9_best 100 = .ok (.istore_n 2, 1) := by decide +kernel
theorem dX9_best_101 : decode cX9_best 101 = .ok (.iload 6, 2) := by decide +kernel
theorem dX9_best_103 : decode cX9_best 103 = .ok (.istore_n 3, 1) := by decide +kernel
theorem dX9_best_104 : decode cX9_best 104 = .ok (.iinc 5 1, 3) := by decide +kernel
theorem dX9_best_107 : decode cX9_best 107 = .ok (.goto (-69), 3) := by decide +kernel
theorem dX9_best_110 : decode cX9_best 110 = .ok (.iload_n 1, 1) := by decide +kernel
theorem dX9_best_111 : decode cX9_best 111 = .ok (.iconst 2, 1) := by decide +kernel
theorem dX9_best_112 : decode cX9_best 112 = .ok (.irem, 1) := by decide +kernel
theorem dX9_best_113 : decode cX9_best 113 = .ok (.ifCond .ne 7, 3) := by decide +kernel
theorem dX9_best_116 : decode cX9_best 116 = .ok (.iload_n 2, 1) := by decide +kernel
theorem dX9_best_117 : decode cX9_best 117 = .ok (.goto 4, 3) := by decide +kernel
theorem dX9_best_120 : decode cX9_best 120 = .ok (.iload_n 3, 1) := by decide +kernel
theorem dX9_best_121 : decode cX9_best 121 = .ok (.ireturn, 1) := by decide +kernel
theorem dX9_lowest_0 : decode cX9_lowest 0 = .ok (.lload_n 0, 1) := by decide +kernel
theorem dX9_lowest_1 : decode cX9_lowest 1 = .ok (.lstore 5, 2) := by decide +kernel
theorem dX9_lowest_3 : decode cX9_lowest 3 = .ok (.lload_n 2, 1) := by decide +kernel
theorem dX9_lowest_4 : decode cX9_lowest 4 = .ok (.lstore 7, 2) := by decide +kernel
theorem dX9_lowest_6 : decode cX9_lowest 6 = .ok (.lload 7, 2) := by decide +kernel
theorem dX9_lowest_8 : decode cX9_lowest 8 = .ok (.lconst 0, 1) := by decide +kernel
theorem dX9_lowest_9 : decode cX9_lowest 9 = .ok (.lcmp, 1) := by decide +kernel
theorem dX9_lowest_10 : decode cX9_lowest 10 = .ok (.ifCond .eq 21, 3) := by decide +kernel
theorem dX9_lowest_13 : decode cX9_lowest 13 = .ok (.lload 5, 2) := by decide +kernel
theorem dX9_lowest_15 : decode cX9_lowest 15 = .ok (.lload 7, 2) := by decide +kernel
theorem dX9_lowest_17 : decode cX9_lowest 17 = .ok (.lrem, 1) := by decide +kernel
theorem dX9_lowest_18 : decode cX9_lowest 18 = .ok (.lstore 9, 2) := by decide +kernel
theorem dX9_lowest_20 : decode cX9_lowest 20 = .ok (.lload 7, 2) := by decide +kernel
theorem dX9_lowest_22 : decode cX9_lowest 22 = .ok (.lstore 5, 2) := by decide +kernel
theorem dX9_lowest_24 : decode cX9_lowest 24 = .ok (.lload 9, 2) := by decide +kernel
theorem dX9_lowest_26 : decode cX9_lowest 26 = .ok (.lstore 7, 2) := by decide +kernel
theorem dX9_lowest_28 : decode cX9_lowest 28 = .ok (.goto (-22), 3) := by decide +kernel
theorem dX9_lowest_31 : decode cX9_lowest 31 = .ok (.iload 4, 2) := by decide +kernel
theorem dX9_lowest_33 : decode cX9_lowest 33 = .ok (.ifCond .ne 10, 3) := by decide +kernel
theorem dX9_lowest_36 : decode cX9_lowest 36 = .ok (.lload_n 0, 1) := by decide +kernel
theorem dX9_lowest_37 : decode cX9_lowest 37 = .ok (.lload 5, 2) := by decide +kernel
theorem dX9_lowest_39 : decode cX9_lowest 39 = .ok (.ldiv, 1) := by decide +kernel
theorem dX9_lowest_40 : decode cX9_lowest 40 = .ok (.goto 7, 3) := by decide +kernel
theorem dX9_lowest_43 : decode cX9_lowest 43 = .ok (.lload_n 2, 1) := by decide +kernel
theorem dX9_lowest_44 : decode cX9_lowest 44 = .ok (.lload 5, 2) := by decide +kernel
theorem dX9_lowest_46 : decode cX9_lowest 46 = .ok (.ldiv, 1) := by decide +kernel
theorem dX9_lowest_47 : decode cX9_lowest 47 = .ok (.lreturn, 1) := by decide +kernel
set_option maxRecDepth 20000 in
theorem ggX9_blend_X9_isOne : GoodIn wsX9_blend wsX9_isOne := goodIn_r _ [8, 9, 10, 11, 7, 12, 159, 160, 161, 162, 163, 164, 165, 166, 167, 168, 169, 170, 171, 172, 173, 174, 175, 176, 177, 178, 179, 180, 181, 182, 183, 184, 185, 186, 187, 188, 189, 190, 191, 192, 193, 194, 195, 196, 197, 198, 199, 200, 201, 202] (by decide +kernel) (by decide +kernel)
set_option maxRecDepth 20000 in
theorem gX9_blend_X9_isOne : GoodIn wsX9_blend (wsV RX9 90 RX9 yX9_isOne wsX9_isOne) := goodIn_app (goodIn_of _ (by decide +kernel)) ggX9_blend_X9_isOne
set_option maxRecDepth 20000 in
theorem ggX9_blend_X9_isCup : GoodIn wsX9_blend wsX9_isCup := goodIn_r _ [15, 16, 10, 11, 7, 12] (by decide +kernel) (by decide +kernel)
set_option maxRecDepth 20000 in
theorem gX9_blend_X9_isCup : GoodIn wsX9_blend (va_wsS RX9 86 yX9_isCup wsX9_isCup) := goodIn_app (goodIn_of _ (by decide +kernel)) ggX9_blend_X9_isCup
set_option maxRecDepth 20000 in
theorem ggX9_blend_X9_in : GoodIn wsX9_blend wsX9_in := goodIn_r _ [12] (by decide +kernel) (by decide +kernel)
set_option maxRecDepth 20000 in
theorem gX9_blend_X9_in : GoodIn wsX9_blend (va_wsS RX9 80 yX9_in wsX9_in) := goodIn_app (goodIn_of _ (by decide +kernel)) ggX9_blend_X9_in
set_option maxRecDepth 20000 in
theorem ggX9_blend_X9_laysAside : GoodIn wsX9_blend wsX9_laysAside := goodIn_r _ [20, 21, 22, 2, 23, 159, 160, 161, 162, 163, 164, 165, 166, 167, 168, 169, 170, 171, 172, 173, 174, 175, 176, 177, 178, 179, 180, 181, 182, 183, 184, 185, 186, 187, 188, 189, 190, 191, 192, 193, 194, 195, 196, 197, 198, 199, 200, 201, 202] (by decide +kernel) (by decide +kernel)
set_option maxRecDepth 20000 in
theorem gX9_blend_X9_laysAside : GoodIn wsX9_blend (wsV RX9 288 RX9 yX9_laysAside wsX9_laysAside) := goodIn_app (goodIn_of _ (by decide +kernel)) ggX9_blend_X9_laysAside
set_option maxRecDepth 20000 in
theorem ggX9_blend_X9_passes : GoodIn wsX9_blend wsX9_passes := goodIn_r _ [27, 2, 9, 28, 3, 22, 23, 29, 30, 31, 7, 32, 33, 34, 35, 36, 37, 38, 39, 40, 41, 42, 43, 44, 45, 46, 47, 48, 49, 50, 51, 52, 53, 54, 55, 56, 57, 58, 59, 60, 61, 62, 63, 64, 65, 66, 67, 68, 69, 70, 71, 72, 73, 74, 75, 76, 77, 78, 79, 80, 81, 82, 83, 84, 85, 10, 11, 12, 86, 87, 88, 89, 90, 91, 92, 93, 94, 95, 96, 97, 98, 99, 100, 101, 102, 103, 104, 105, 106, 107, 108, 109, 110, 111, 112, 113, 114, 115, 116, 117, 118, 119, 120, 121, 122, 123, 124, 125, 126, 127, 128, 129, 130, 131, 132, 133, 134, 135, 136, 137, 138, 139, 140, 141, 142, 143, 144, 145, 146, 147, 148, 149, 150, 151, 159, 160, 161, 162, 163, 164, 165, 166, 167, 168, 169, 170, 171, 172, 173, 174, 175, 176, 177, 178, 179, 180, 181, 182, 183, 184, 185, 186, 187, 188, 189, 190, 191, 192, 193, 194, 195, 196, 197, 198, 199, 200, 201, 202] (by decide +kernel) (by decide +kernel)
set_option maxRecDepth 20000 in
theorem gX9_blend_X9_passes : GoodIn wsX9_blend (wsV RX9 278 RX9 yX9_passes wsX9_passes) := goodIn_app (goodIn_of _ (by decide +kernel)) ggX9_blend_X9_passes
set_option maxRecDepth 20000 in
theorem ggX9_blend_X9_laysBack : GoodIn wsX9_blend wsX9_laysBack := goodIn_r _ [155, 22, 21, 2, 23, 159, 160, 161, 162, 163, 164, 165, 166, 167, 168, 169, 170, 171, 172, 173, 174, 175, 176, 177, 178, 179, 180, 181, 182, 183, 184, 185, 186, 187, 188, 189, 190, 191, 192, 193, 194, 195, 196, 197, 198, 199, 200, 201, 202] (by decide +kernel) (by decide +kernel)
set_option maxRecDepth 20000 in
theorem gX9_blend_X9_laysBack : GoodIn wsX9_blend (wsV RX9 291 RX9 yX9_laysBack wsX9_laysBack) := goodIn_app (goodIn_of _ (by decide +kernel)) ggX9_blend_X9_laysBack
set_option maxRecDepth 20000 in
theorem ggX9_blend_X9_lowest : GoodIn wsX9_blend wsX9_lowest := goodIn_r _ [158] (by decide +kernel) (by decide +kernel)
set_option maxRecDepth 20000 in
theorem gX9_blend_X9_lowest : GoodIn wsX9_blend (va_wsS RX9 316 yX9_lowest wsX9_lowest) := goodIn_app (goodIn_of _ (by decide +kernel)) ggX9_blend_X9_lowest
theorem dX9_blend_0 : decode cX9_blend 0 = .ok (.aload_n 0, 1) := by decide +kernel
theorem dX9_blend_1 : decode cX9_blend 1 = .ok (.iload_n 1, 1) := by decide +kernel
theorem dX9_blend_2 : decode cX9_blend 2 = .ok (.invokevirtual 90, 3) := by decide +kernel
theorem dX9_blend_5 : decode cX9_blend 5 = .ok (.ifCond .eq 20, 3) := by decide +kernel
theorem dX9_blend_8 : decode cX9_blend 8 = .ok (.iload_n 2, 1) := by decide +kernel
theorem dX9_blend_9 : decode cX9_blend 9 = .ok (.invokestatic 86, 3) := by decide +kernel
theorem dX9_blend_12 : decode cX9_blend 12 = .ok (.ifCond .eq 13, 3) := by decide +kernel
theorem dX9_blend_15 : decode cX9_blend 15 = .ok (.iload_n 3, 1) := by decide +kernel
theorem dX9_blend_16 : decode cX9_blend 16 = .ok (.i2l, 1) := by decide +kernel
theorem dX9_blend_17 : decode cX9_blend 17 = .ok (.lconst 0, 1) := by decide +kernel
theorem dX9_blend_18 : decode cX9_blend 18 = .ok (.lconst 1, 1) := by decide +kernel
theorem dX9_blend_19 : decode cX9_blend 19 = .ok (.invokestatic 80, 3) := by decide +kernel
theorem dX9_blend_22 : decode cX9_blend 22 = .ok (.ifCond .ne 7, 3) := by decide +kernel
theorem dX9_blend_25 : decode cX9_blend 25 = .ok (.ldc2_w 314, 3) := by decide +kernel
theorem dX9_blend_28 : decode cX9_blend 28 = .ok (.lreturn, 1) := by decide +kernel
theorem dX9_blend_29 : decode cX9_blend 29 = .ok (.aload_n 0, 1) := by decide +kernel
theorem dX9_blend_30 : decode cX9_blend 30 = .ok (.invokevirtual 288, 3) := by decide +kernel
theorem dX9_blend_33 : decode cX9_blend 33 = .ok (.aload_n 0, 1) := by decide +kernel
theorem dX9_blend_34 : decode cX9_blend 34 = .ok (.invokevirtual 278, 3) := by decide +kernel
theorem dX9_blend_37 : decode cX9_blend 37 = .ok (.pop, 1) := by decide +kernel
theorem dX9_blend_38 : decode cX9_blend 38 = .ok (.aload_n 0, 1) := by decide +kernel
theorem dX9_blend_39 : decode cX9_blend 39 = .ok (.getfield 29, 3) := by decide +kernel
theorem dX9_blend_42 : decode cX9_blend 42 = .ok (.iconst 3, 1) := by decide +kernel
theorem dX9_blend_43 : decode cX9_blend 43 = .ok (.iload_n 2, 1) := by decide +kernel
theorem dX9_blend_44 : decode cX9_blend 44 = .ok (.imul, 1) := by decide +kernel
theorem dX9_blend_45 : decode cX9_blend 45 = .ok (.iconst 2, 1) := by decide +kernel
theorem dX9_blend_46 : decode cX9_blend 46 = .ok (.iadd, 1) := by decide +kernel
theorem dX9_blend_47 : decode cX9_blend 47 = .ok (.iaload, 1) := by decide +kernel
theorem dX9_blend_48 : decode cX9_blend 48 = .ok (.istore 4, 2) := by decide +kernel
theorem dX9_blend_50 : decode cX9_blend 50 = .ok (.aload_n 0, 1) := by decide +kernel
theorem dX9_blend_51 : decode cX9_blend 51 = .ok (.invokevirtual 291, 3) := by decide +kernel
theorem dX9_blend_54 : decode cX9_blend 54 = .ok (.iload 4, 2) := by decide +kernel
theorem dX9_blend_56 : decode cX9_blend 56 = .ok (.ifCond .ne 9, 3) := by decide +kernel
theorem dX9_blend_59 : decode cX9_blend 59 = .ok (.ldc2_w 314, 3) := by decide +kernel
theorem dX9_blend_62 : decode cX9_blend 62 = .ok (.goto 22, 3) := by decide +kernel
theorem dX9_blend_65 : decode cX9_blend 65 = .ok (.aload_n 0, 1) := by decide +kernel
theorem dX9_blend_66 : decode cX9_blend 66 = .ok (.getfield 39, 3) := by decide +kernel
theorem dX9_blend_69 : decode cX9_blend 69 = .ok (.bipush 6, 2) := by decide +kernel
theorem dX9_blend_71 : decode cX9_blend 71 = .ok (.iload_n 1, 1) := by decide +kernel
theorem dX9_blend_72 : decode cX9_blend 72 = .ok (.imul, 1) := by decide +kernel
theorem dX9_blend_73 : decode cX9_blend 73 = .ok (.iload_n 2, 1) := by decide +kernel
theorem dX9_blend_74 : decode cX9_blend 74 = .ok (.iadd, 1) := by decide +kernel
theorem dX9_blend_75 : decode cX9_blend 75 = .ok (.iaload, 1) := by decide +kernel
theorem dX9_blend_76 : decode cX9_blend 76 = .ok (.i2l, 1) := by decide +kernel
theorem dX9_blend_77 : decode cX9_blend 77 = .ok (.iload 4, 2) := by decide +kernel
theorem dX9_blend_79 : decode cX9_blend 79 = .ok (.i2l, 1) := by decide +kernel
theorem dX9_blend_80 : decode cX9_blend 80 = .ok (.iload_n 3, 1) := by decide +kernel
theorem dX9_blend_81 : decode cX9_blend 81 = .ok (.invokestatic 316, 3) := by decide +kernel
theorem dX9_blend_84 : decode cX9_blend 84 = .ok (.lreturn, 1) := by decide +kernel
set_option maxRecDepth 20000 in
theorem ggX9_firstOther_X9_laysAside : GoodIn wsX9_firstOther wsX9_laysAside := goodIn_r _ [7, 8, 9, 10, 11, 149, 150, 151, 152, 153, 154, 155, 156, 157, 158, 159, 160, 161, 162, 163, 164, 165, 166, 167, 168, 169, 170, 171, 172, 173, 174, 175, 176, 177, 178, 179, 180, 181, 182, 183, 184, 185, 186, 187, 188, 189, 190, 191, 192] (by decide +kernel) (by decide +kernel)
set_option maxRecDepth 20000 in
theorem gX9_firstOther_X9_laysAside : GoodIn wsX9_firstOther (wsV RX9 288 RX9 yX9_laysAside wsX9_laysAside) := goodIn_app (goodIn_of _ (by decide +kernel)) ggX9_firstOther_X9_laysAside
set_option maxRecDepth 20000 in
theorem ggX9_firstOther_X9_yieldsOf : GoodIn wsX9_firstOther wsX9_yieldsOf := goodIn_r _ [15, 16, 9, 17, 11, 18, 19, 20, 6, 21, 22, 23, 24, 25, 26, 27, 28, 29, 30, 31, 32, 33, 34, 35, 36, 37, 38, 39, 40, 41, 42, 43, 44, 45, 46, 47, 48, 49, 50, 51, 52, 53, 54, 55, 56, 57, 58, 59, 60, 61, 62, 63, 64, 65, 66, 67, 68, 69, 70, 71, 72, 73, 74, 75, 76, 77, 78, 79, 80, 81, 82, 83, 84, 85, 86, 87, 88, 89, 90, 91, 92, 93, 94, 95, 96, 97, 98, 99, 100, 101, 102, 103, 104, 105, 106, 107, 108, 109, 110, 111, 112, 113, 114, 115, 116, 117, 118, 119, 120, 121, 122, 123, 124, 125, 126, 127, 128, 129, 149, 150, 151, 152, 153, 154, 155, 156, 157, 158, 159, 160, 161, 162, 163, 164, 165, 166, 167, 168, 169, 170, 171, 172, 173, 174, 175, 176, 177, 178, 179, 180, 181, 182, 183, 184, 185, 186, 187, 188, 189, 190, 191, 192] (by decide +kernel) (by decide +kernel)
set_option maxRecDepth 20000 in
theorem gX9_firstOther_X9_yieldsOf : GoodIn wsX9_firstOther (wsV RX9 126 RX9 yX9_yieldsOf wsX9_yieldsOf) := goodIn_app (goodIn_of _ (by decide +kernel)) ggX9_firstOther_X9_yieldsOf
set_option maxRecDepth 20000 in
theorem ggX9_firstOther_X9_passes : GoodIn wsX9_firstOther wsX9_passes := goodIn_r _ [133, 10, 134, 135, 136, 9, 11, 12, 13, 14, 6, 15, 16, 17, 18, 19, 20, 21, 22, 23, 24, 25, 26, 27, 28, 29, 30, 31, 32, 33, 34, 35, 36, 37, 38, 39, 40, 41, 42, 43, 44, 45, 46, 47, 48, 49, 50, 51, 52, 53, 54, 55, 56, 57, 58, 59, 60, 61, 62, 63, 64, 65, 66, 67, 68, 69, 70, 71, 72, 73, 74, 75, 76, 77, 78, 79, 80, 81, 82, 83, 84, 85, 86, 87, 88, 89, 90, 91, 92, 93, 94, 95, 96, 97, 98, 99, 100, 101, 102, 103, 104, 105, 106, 107, 108, 109, 110, 111, 112, 113, 114, 115, 116, 117, 118, 119, 120, 121, 122, 123, 124, 125, 126, 127, 128, 129, 137, 138, 139, 140, 141, 142, 143, 144, 149, 150, 151, 152, 153, 154, 155, 156, 157, 158, 159, 160, 161, 162, 163, 164, 165, 166, 167, 168, 169, 170, 171, 172, 173, 174, 175, 176, 177, 178, 179, 180, 181, 182, 183, 184, 185, 186, 187, 188, 189, 190, 191, 192] (by decide +kernel) (by decide +kernel)
set_option maxRecDepth 20000 in
theorem gX9_firstOther_X9_passes : GoodIn wsX9_firstOther (wsV RX9 278 RX9 yX9_passes wsX9_passes) := goodIn_app (goodIn_of _ (by decide +kernel)) ggX9_firstOther_X9_passes
set_option maxRecDepth 20000 in
theorem ggX9_firstOther_X9_laysBack : GoodIn wsX9_firstOther wsX9_laysBack := goodIn_r _ [148, 9, 8, 10, 11, 149, 150, 151, 152, 153, 154, 155, 156, 157, 158, 159, 160, 161, 162, 163, 164, 165, 166, 167, 168, 169, 170, 171, 172, 173, 174, 175, 176, 177, 178, 179, 180, 181, 182, 183, 184, 185, 186, 187, 188, 189, 190, 191, 192] (by decide +kernel) (by decide +kernel)
set_option maxRecDepth 20000 in
theorem gX9_firstOther_X9_laysBack : GoodIn wsX9_firstOther (wsV RX9 291 RX9 yX9_laysBack wsX9_laysBack) := goodIn_app (goodIn_of _ (by decide +kernel)) ggX9_firstOther_X9_laysBack
theorem dX9_firstOther_0 : decode cX9_firstOther 0 = .ok (.aload_n 0, 1) := by decide +kernel
theorem dX9_firstOther_1 : decode cX9_firstOther 1 = .ok (.invokevirtual 288, 3) := by decide +kernel
theorem dX9_firstOther_4 : decode cX9_firstOther 4 = .ok (.iconst (-1), 1) := by decide +kernel
theorem dX9_firstOther_5 : decode cX9_firstOther 5 = .ok (.istore_n 3, 1) := by decide +kernel
theorem dX9_firstOther_6 : decode cX9_firstOther 6 = .ok (.iconst 0, 1) := by decide +kernel
theorem dX9_firstOther_7 : decode cX9_firstOther 7 = .ok (.istore 4, 2) := by decide +kernel
theorem dX9_firstOther_9 : decode cX9_firstOther 9 = .ok (.iload 4, 2) := by decide +kernel
theorem dX9_firstOther_11 : decode cX9_firstOther 11 = .ok (.aload_n 0, 1) := by decide +kernel
theorem dX9_firstOther_12 : decode cX9_firstOther 12 = .ok (.getfield 64, 3) := by decide +kernel
theorem dX9_firstOther_15 : decode cX9_firstOther 15 = .ok (.iload_n 1, 1) := by decide +kernel
theorem dX9_firstOther_16 : decode cX9_firstOther 16 = .ok (.iaload, 1) := by decide +kernel
theorem dX9_firstOther_17 : decode cX9_firstOther 17 = .ok (.if_icmp .ge 46, 3) := by decide +kernel
theorem dX9_firstOther_20 : decode cX9_firstOther 20 = .ok (.iload_n 3, 1) := by decide +kernel
theorem dX9_firstOther_21 : decode cX9_firstOther 21 = .ok (.iconst (-1), 1) := by decide +kernel
theorem dX9_firstOther_22 : decode cX9_firstOther 22 = .ok (.if_icmp .ne 41, 3) := by decide +kernel
theorem dX9_firstOther_25 : decode cX9_firstOther 25 = .ok (.aload_n 0, 1) := by decide +kernel
theorem dX9_firstOther_26 : decode cX9_firstOther 26 = .ok (.iload_n 2, 1) := by decide +kernel
theorem dX9_firstOther_27 : decode cX9_firstOther 27 = .ok (.invokevirtual 126, 3) := by decide +kernel
theorem dX9_firstOther_30 : decode cX9_firstOther 30 = .ok (.aload_n 0, 1) := by decide +kernel
theorem dX9_firstOther_31 : decode cX9_firstOther 31 = .ok (.getfield 67, 3) := by decide +kernel
theorem dX9_firstOther_34 : decode cX9_firstOther 34 = .ok (.bipush 40, 2) := by decide +kernel
theorem dX9_firstOther_36 : decode cX9_firstOther 36 = .ok (.iload_n 1, 1) := by decide +kernel
theorem dX9_firstOther_37 : decode cX9_firstOther 37 = .ok (.imul, 1) := by decide +kernel
theorem dX9_firstOther_38 : decode cX9_firstOther 38 = .ok (.iload 4, 2) := by decide +kernel
theorem dX9_firstOther_40 : decode cX9_firstOther 40 = .ok (.iadd, 1) := by decide +kernel
theorem dX9_firstOther_41 : decode cX9_firstOther 41 = .ok (.iaload, 1) := by decide +kernel
theorem dX9_firstOther_42 : decode cX9_firstOther 42 = .ok (.if_icmp .ne 7, 3) := by decide +kernel
theorem dX9_firstOther_45 : decode cX9_firstOther 45 = .ok (.iconst (-1), 1) := by decide +kernel
theorem dX9_firstOther_46 : decode cX9_firstOther 46 = .ok (.goto 5, 3) := by decide +kernel
theorem dX9_firstOther_49 : decode cX9_firstOther 49 = .ok (.iload 4, 2) := by decide +kernel
theorem dX9_firstOther_51 : decode cX9_firstOther 51 = .ok (.istore_n 3, 1) := by decide +kernel
theorem dX9_firstOther_52 : decode cX9_firstOther 52 = .ok (.aload_n 0, 1) := by decide +kernel
theorem dX9_firstOther_53 : decode cX9_firstOther 53 = .ok (.invokevirtual 278, 3) := by decide +kernel
theorem dX9_firstOther_56 : decode cX9_firstOther 56 = .ok (.pop, 1) := by decide +kernel
theorem dX9_firstOther_57 : decode cX9_firstOther 57 = .ok (.iinc 4 1, 3) := by decide +kernel
theorem dX9_firstOther_60 : decode cX9_firstOther 60 = .ok (.goto (-51), 3) := by decide +kernel
theorem dX9_firstOther_63 : decode cX9_firstOther 63 = .ok (.aload_n 0, 1) := by decide +kernel
theorem dX9_firstOther_64 : decode cX9_firstOther 64 = .ok (.invokevirtual 291, 3) := by decide +kernel
theorem dX9_firstOther_67 : decode cX9_firstOther 67 = .ok (.iload_n 3, 1) := by decide +kernel
theorem dX9_firstOther_68 : decode cX9_firstOther 68 = .ok (.ireturn, 1) := by decide +kernel
set_option maxRecDepth 20000 in
theorem ggX9_likeSet_X9_firstOther : GoodIn wsX9_likeSet wsX9_firstOther := goodIn_r _ [6, 7, 8, 9, 10, 11, 5, 12, 13, 14, 15, 16, 17, 18, 19, 20, 21, 22, 23, 24, 25, 26, 27, 28, 29, 30, 31, 32, 33, 34, 35, 36, 37, 38, 39, 40, 41, 42, 43, 44, 45, 46, 47, 48, 49, 50, 51, 52, 53, 54, 55, 56, 57, 58, 59, 60, 61, 62, 63, 64, 65, 66, 67, 68, 69, 70, 71, 72, 73, 74, 75, 76, 77, 78, 79, 80, 81, 82, 83, 84, 85, 86, 87, 88, 89, 90, 91, 92, 93, 94, 95, 96, 97, 98, 99, 100, 101, 102, 103, 104, 105, 106, 107, 108, 109, 110, 111, 112, 113, 114, 115, 116, 117, 118, 119, 120, 121, 122, 123, 124, 125, 126, 127, 128, 129, 130, 131, 132, 133, 134, 135, 136, 137, 138, 1, 139, 140, 141, 142, 143, 144, 145, 146, 147, 148, 149, 150, 151, 152, 153, 154, 155, 156, 157, 158, 159, 160, 161, 162, 163, 164, 165, 166, 167, 168, 169, 170, 171, 172, 173, 174, 175, 176, 177, 178, 179, 180, 181, 182, 183, 184, 185, 186, 187, 188, 189, 190, 191, 192, 193, 194, 195, 196] (by decide +kernel) (by decide +kernel)
set_option maxRecDepth 20000 in
theorem gX9_likeSet_X9_firstOther : GoodIn wsX9_likeSet (wsV RX9 320 RX9 yX9_firstOther wsX9_firstOther) := goodIn_app (goodIn_of _ (by decide +kernel)) ggX9_likeSet_X9_firstOther
theorem dX9_likeSet_0 : decode cX9_likeSet 0 = .ok (.iconst 0, 1) := by decide +kernel
theorem dX9_likeSet_1 : decode cX9_likeSet 1 = .ok (.istore_n 2, 1) := by decide +kernel
theorem dX9_likeSet_2 : decode cX9_likeSet 2 = .ok (.iconst 0, 1) := by decide +kernel
theorem dX9_likeSet_3 : decode cX9_likeSet 3 = .ok (.istore_n 3, 1) := by decide +kernel
theorem dX9_likeSet_4 : decode cX9_likeSet 4 = .ok (.iload_n 3, 1) := by decide +kernel
theorem dX9_likeSet_5 : decode cX9_likeSet 5 = .ok (.aload_n 0, 1) := by decide +kernel
theorem dX9_likeSet_6 : decode cX9_likeSet 6 = .ok (.getfield 77, 3) := by decide +kernel
theorem dX9_likeSet_9 : decode cX9_likeSet 9 = .ok (.if_icmp .ge 29, 3) := by decide +kernel
theorem dX9_likeSet_12 : decode cX9_likeSet 12 = .ok (.iload_n 2, 1) := by decide +kernel
theorem dX9_likeSet_13 : decode cX9_likeSet 13 = .ok (.aload_n 0, 1) := by decide +kernel
theorem dX9_likeSet_14 : decode cX9_likeSet 14 = .ok (.iload_n 1, 1) := by decide +kernel
theorem dX9_likeSet_15 : decode cX9_likeSet 15 = .ok (.iload_n 3, 1) := by decide +kernel
theorem dX9_likeSet_16 : decode cX9_likeSet 16 = .ok (.invokevirtual 320, 3) := by decide +kernel
theorem dX9_likeSet_19 : decode cX9_likeSet 19 = .ok (.iconst (-1), 1) := by decide +kernel
theorem dX9_likeSet_20 : decode cX9_likeSet 20 = .ok (.if_icmp .ne 7, 3) := by decide +kernel
theorem dX9_likeSet_23 : decode cX9_likeSet 23 = .ok (.iconst 1, 1) := by decide +kernel
theorem dX9_likeSet_24 : decode cX9_likeSet 24 = .ok (.goto 4, 3) := by decide +kernel
theorem dX9_likeSet_27 : decode cX9_likeSet 27 = .ok (.iconst 0, 1) := by decide +kernel
theorem dX9_likeSet_28 : decode cX9_likeSet 28 = .ok (.iload_n 3, 1) := by decide +kernel
theorem dX9_likeSet_29 : decode cX9_likeSet 29 = .ok (.ishl, 1) := by decide +kernel
theorem dX9_likeSet_30 : decode cX9_likeSet 30 = .ok (.ior, 1) := by decide +kernel
theorem dX9_likeSet_31 : decode cX9_likeSet 31 = .ok (.istore_n 2, 1) := by decide +kernel
theorem dX9_likeSet_32 : decode cX9_likeSet 32 = .ok (.iinc 3 1, 3) := by decide +kernel
theorem dX9_likeSet_35 : decode cX9_likeSet 35 = .ok (.goto (-31), 3) := by decide +kernel
theorem dX9_likeSet_38 : decode cX9_likeSet 38 = .ok (.iload_n 2, 1) := by decide +kernel
theorem dX9_likeSet_39 : decode cX9_likeSet 39 = .ok (.ireturn, 1) := by decide +kernel
set_option maxRecDepth 20000 in
theorem ggX9_tells_X9_isSheet : GoodIn wsX9_tells wsX9_isSheet := goodIn_r _ [9, 10, 11, 12, 8, 13] (by decide +kernel) (by decide +kernel)
set_option maxRecDepth 20000 in
theorem gX9_tells_X9_isSheet : GoodIn wsX9_tells (va_wsS RX9 323 yX9_isSheet wsX9_isSheet) := goodIn_app (goodIn_of _ (by decide +kernel)) ggX9_tells_X9_isSheet
set_option maxRecDepth 20000 in
theorem ggX9_tells_X9_isOne : GoodIn wsX9_tells wsX9_isOne := goodIn_r _ [17, 18, 11, 12, 8, 13, 187, 188, 189, 190, 191, 192, 193, 194, 195, 196, 197, 198, 199, 200, 201, 202, 203, 204, 205, 206, 207, 208, 209, 210, 211, 212, 213, 214, 215, 216, 217, 218, 219, 220, 221, 222, 223, 224, 225, 226, 227, 228, 229, 230] (by decide +kernel) (by decide +kernel)
set_option maxRecDepth 20000 in
theorem gX9_tells_X9_isOne : GoodIn wsX9_tells (wsV RX9 90 RX9 yX9_isOne wsX9_isOne) := goodIn_app (goodIn_of _ (by decide +kernel)) ggX9_tells_X9_isOne
set_option maxRecDepth 20000 in
theorem ggX9_tells_X9_in : GoodIn wsX9_tells wsX9_in := goodIn_r _ [13] (by decide +kernel) (by decide +kernel)
set_option maxRecDepth 20000 in
theorem gX9_tells_X9_in : GoodIn wsX9_tells (va_wsS RX9 80 yX9_in wsX9_in) := goodIn_app (goodIn_of _ (by decide +kernel)) ggX9_tells_X9_in
set_option maxRecDepth 20000 in
theorem ggX9_tells_X9_firstOther : GoodIn wsX9_tells wsX9_firstOther := goodIn_r _ [22, 3, 23, 24, 25, 26, 8, 27, 28, 29, 30, 31, 32, 33, 34, 35, 36, 37, 38, 39, 40, 41, 42, 43, 44, 45, 46, 47, 48, 49, 50, 51, 4, 10, 52, 53, 54, 55, 56, 57, 58, 59, 60, 61, 62, 63, 64, 65, 66, 67, 68, 69, 70, 71, 72, 73, 74, 75, 76, 77, 78, 79, 80, 81, 82, 83, 84, 85, 86, 11, 12, 13, 87, 88, 89, 90, 91, 92, 93, 94, 95, 96, 97, 98, 99, 100, 101, 102, 103, 104, 105, 106, 107, 108, 109, 110, 111, 112, 113, 114, 115, 116, 117, 118, 119, 120, 121, 122, 123, 124, 125, 126, 127, 128, 129, 130, 131, 132, 133, 134, 135, 136, 137, 138, 139, 140, 141, 142, 143, 144, 145, 146, 147, 148, 18, 149, 150, 151, 152, 153, 154, 155, 156, 157, 158, 159, 160, 161, 162, 187, 188, 189, 190, 191, 192, 193, 194, 195, 196, 197, 198, 199, 200, 201, 202, 203, 204, 205, 206, 207, 208, 209, 210, 211, 212, 213, 214, 215, 216, 217, 218, 219, 220, 221, 222, 223, 224, 225, 226, 227, 228, 229, 230] (by decide +kernel) (by decide +kernel)
set_option maxRecDepth 20000 in
theorem gX9_tells_X9_firstOther : GoodIn wsX9_tells (wsV RX9 320 RX9 yX9_firstOther wsX9_firstOther) := goodIn_app (goodIn_of _ (by decide +kernel)) ggX9_tells_X9_firstOther
set_option maxRecDepth 20000 in
theorem ggX9_tells_X9_likeSet : GoodIn wsX9_tells wsX9_likeSet := goodIn_r _ [166, 18, 19, 20, 21, 8, 22, 3, 23, 24, 25, 26, 27, 28, 29, 30, 31, 32, 33, 34, 35, 36, 37, 38, 39, 40, 41, 42, 43, 44, 45, 46, 47, 48, 49, 50, 51, 4, 10, 52, 53, 54, 55, 56, 57, 58, 59, 60, 61, 62, 63, 64, 65, 66, 67, 68, 69, 70, 71, 72, 73, 74, 75, 76, 77, 78, 79, 80, 81, 82, 83, 84, 85, 86, 11, 12, 13, 87, 88, 89, 90, 91, 92, 93, 94, 95, 96, 97, 98, 99, 100, 101, 102, 103, 104, 105, 106, 107, 108, 109, 110, 111, 112, 113, 114, 115, 116, 117, 118, 119, 120, 121, 122, 123, 124, 125, 126, 127, 128, 129, 130, 131, 132, 133, 134, 135, 136, 137, 138, 139, 140, 141, 142, 143, 144, 145, 146, 147, 148, 149, 150, 151, 152, 153, 154, 155, 156, 157, 158, 159, 160, 161, 162, 187, 188, 189, 190, 191, 192, 193, 194, 195, 196, 197, 198, 199, 200, 201, 202, 203, 204, 205, 206, 207, 208, 209, 210, 211, 212, 213, 214, 215, 216, 217, 218, 219, 220, 221, 222, 223, 224, 225, 226, 227, 228, 229, 230] (by decide +kernel) (by decide +kernel)
set_option maxRecDepth 20000 in
theorem gX9_tells_X9_likeSet : GoodIn wsX9_tells (wsV RX9 328 RX9 yX9_likeSet wsX9_likeSet) := goodIn_app (goodIn_of _ (by decide +kernel)) ggX9_tells_X9_likeSet
set_option maxRecDepth 20000 in
theorem ggX9_tells_X9_told : GoodIn wsX9_tells wsX9_told := goodIn_r _ [170, 81, 31, 37, 29, 30, 36, 11, 12, 8, 13, 171, 172, 173, 174, 175, 176, 177, 178, 14, 15, 16, 17, 18, 32, 33, 34, 35, 38, 39, 40, 41, 42, 43, 44, 45, 46, 47, 48, 49, 50, 51, 4, 10, 52, 53, 54, 55, 56, 57, 58, 59, 60, 61, 62, 63, 64, 65, 66, 67, 68, 69, 70, 71, 72, 73, 74, 75, 76, 77, 78, 79, 80, 82, 83, 84, 85, 86, 87, 88, 89, 90, 91, 92, 93, 94, 95, 96, 97, 98, 99, 100, 101, 102, 103, 104, 105, 106, 107, 108, 109, 110, 111, 112, 113, 114, 115, 116, 117, 118, 119, 120, 121, 122, 123, 124, 125, 126, 127, 128, 129, 130, 131, 132, 133, 134, 135, 136, 137, 138, 139, 140, 141, 142, 143, 144, 179, 180, 181, 182, 155, 156, 157, 158, 187, 188, 189, 190, 191, 192, 193, 194, 195, 196, 197, 198, 199, 200, 201, 202, 203, 204, 205, 206, 207, 208, 209, 210, 211, 212, 213, 214, 215, 216, 217, 218, 219, 220, 221, 222, 223, 224, 225, 226, 227, 228, 229, 230] (by decide +kernel) (by decide +kernel)
set_option maxRecDepth 20000 in
theorem gX9_tells_X9_told : GoodIn wsX9_tells (wsV RX9 103 RX9 yX9_told wsX9_told) := goodIn_app (goodIn_of _ (by decide +kernel)) ggX9_tells_X9_told
set_option maxRecDepth 20000 in
theorem ggX9_tells_X9_lays : GoodIn wsX9_tells wsX9_lays := goodIn_r _ [186, 31, 37, 29, 30, 36, 4, 187, 188, 189, 190, 191, 192, 193, 194, 195, 196, 197, 198, 199, 200, 201, 202, 203, 204, 205, 206, 207, 208, 209, 210, 211, 212, 213, 214, 215, 216, 217, 218, 219, 220, 221, 222, 223, 224, 225, 226, 227, 228, 229, 230] (by decide +kernel) (by decide +kernel)
set_option maxRecDepth 20000 in
theorem gX9_tells_X9_lays : GoodIn wsX9_tells (wsV RX9 107 RX9 yX9_lays wsX9_lays) := goodIn_app (goodIn_of _ (by decide +kernel)) ggX9_tells_X9_lays
theorem dX9_tells_0 : decode cX9_tells 0 = .ok (.iload_n 1, 1) := by decide +kernel
theorem dX9_tells_1 : decode cX9_tells 1 = .ok (.invokestatic 323, 3) := by decide +kernel
theorem dX9_tells_4 : decode cX9_tells 4 = .ok (.ifCond .eq 23, 3) := by decide +kernel
theorem dX9_tells_7 : decode cX9_tells 7 = .ok (.aload_n 0, 1) := by decide +kernel
theorem dX9_tells_8 : decode cX9_tells 8 = .ok (.iload_n 2, 1) := by decide +kernel
theorem dX9_tells_9 : decode cX9_tells 9 = .ok (.invokevirtual 90, 3) := by decide +kernel
theorem dX9_tells_12 : decode cX9_tells 12 = .ok (.ifCond .eq 15, 3) := by decide +kernel
theorem dX9_tells_15 : decode cX9_tells 15 = .ok (.iload_n 3, 1) := by decide +kernel
theorem dX9_tells_16 : decode cX9_tells 16 = .ok (.i2l, 1) := by decide +kernel
theorem dX9_tells_17 : decode cX9_tells 17 = .ok (.lconst 0, 1) := by decide +kernel
theorem dX9_tells_18 : decode cX9_tells 18 = .ok (.ldc2_w 326, 3) := by decide +kernel
theorem dX9_tells_21 : decode cX9_tells 21 = .ok (.invokestatic 80, 3) := by decide +kernel
theorem dX9_tells_24 : decode cX9_tells 24 = .ok (.ifCond .ne 6, 3) := by decide +kernel
theorem dX9_tells_27 : decode cX9_tells 27 = .ok (.bipush (-2), 2) := by decide +kernel
theorem dX9_tells_29 : decode cX9_tells 29 = .ok (.ireturn, 1) := by decide +kernel
theorem dX9_tells_30 : decode cX9_tells 30 = .ok (.aload_n 0, 1) := by decide +kernel
theorem dX9_tells_31 : decode cX9_tells 31 = .ok (.getfield 57, 3) := by decide +kernel
theorem dX9_tells_34 : decode cX9_tells 34 = .ok (.iload_n 1, 1) := by decide +kernel
theorem dX9_tells_35 : decode cX9_tells 35 = .ok (.baload, 1) := by decide +kernel
theorem dX9_tells_36 : decode cX9_tells 36 = .ok (.ifCond .ne 6, 3) := by decide +kernel
theorem dX9_tells_39 : decode cX9_tells 39 = .ok (.bipush (-11), 2) := by decide +kernel
theorem dX9_tells_41 : decode cX9_tells 41 = .ok (.ireturn, 1) := by decide +kernel
theorem dX9_tells_42 : decode cX9_tells 42 = .ok (.aload_n 0, 1) := by decide +kernel
theorem dX9_tells_43 : decode cX9_tells 43 = .ok (.getfield 64, 3) := by decide +kernel
theorem dX9_tells_46 : decode cX9_tells 46 = .ok (.iload_n 1, 1) := by decide +kernel
theorem dX9_tells_47 : decode cX9_tells 47 = .ok (.iaload, 1) := by decide +kernel
theorem dX9_tells_48 : decode cX9_tells 48 = .ok (.bipush 20, 2) := by decide +kernel
theorem dX9_tells_50 : decode cX9_tells 50 = .ok (.if_icmp .le 6, 3) := by decide +kernel
theorem dX9_tells_53 : decode cX9_tells 53 = .ok (.bipush (-2), 2) := by decide +kernel
theorem dX9_tells_55 : decode cX9_tells 55 = .ok (.ireturn, 1) := by decide +kernel
theorem dX9_tells_56 : decode cX9_tells 56 = .ok (.iload_n 3, 1) := by decide +kernel
theorem dX9_tells_57 : decode cX9_tells 57 = .ok (.ifCond .eq 9, 3) := by decide +kernel
theorem dX9_tells_60 : decode cX9_tells 60 = .ok (.iload_n 3, 1) := by decide +kernel
theorem dX9_tells_61 : decode cX9_tells 61 = .ok (.bipush 7, 2) := by decide +kernel
theorem dX9_tells_63 : decode cX9_tells 63 = .ok (.if_icmp .ne 22, 3) := by decide +kernel
theorem dX9_tells_66 : decode cX9_tells 66 = .ok (.iload_n 3, 1) := by decide +kernel
theorem dX9_tells_67 : decode cX9_tells 67 = .ok (.ifCond .ne 12, 3) := by decide +kernel
theorem dX9_tells_70 : decode cX9_tells 70 = .ok (.aload_n 0, 1) := by decide +kernel
theorem dX9_tells_71 : decode cX9_tells 71 = .ok (.iload_n 1, 1) := by decide +kernel
theorem dX9_tells_72 : decode cX9_tells 72 = .ok (.iload_n 2, 1) := by decide +kernel
theorem dX9_tells_73 : decode cX9_tells 73 = .ok (.invokevirtual 320, 3) := by decide +kernel
theorem dX9_tells_76 : decode cX9_tells 76 = .ok (.goto 8, 3) := by decide +kernel
theorem dX9_tells_79 : decode cX9_tells 79 = .ok (.aload_n 0, 1) := by decide +kernel
theorem dX9_tells_80 : decode cX9_tells 80 = .ok (.iload_n 1, 1) := by decide +kernel
theorem dX9_tells_81 : decode cX9_tells 81 = .ok (.invokevirtual 328, 3) := by decide +kernel
theorem dX9_tells_84 : decode cX9_tells 84 = .ok (.ireturn, 1) := by decide +kernel
theorem dX9_tells_85 : decode cX9_tells 85 = .ok (.iload_n 3, 1) := by decide +kernel
theorem dX9_tells_86 : decode cX9_tells 86 = .ok (.iconst 1, 1) := by decide +kernel
theorem dX9_tells_87 : decode cX9_tells 87 = .ok (.if_icmp .ne 8, 3) := by decide +kernel
theorem dX9_tells_90 : decode cX9_tells 90 = .ok (.bipush 7, 2) := by decide +kernel
theorem dX9_tells_92 : decode cX9_tells 92 = .ok (.goto 32, 3) := by decide +kernel
theorem dX9_tells_95 : decode cX9_tells 95 = .ok (.iload_n 3, 1) := by decide +kernel
theorem dX9_tells_96 : decode cX9_tells 96 = .ok (.iconst 2, 1) := by decide +kernel
theorem dX9_tells_97 : decode cX9_tells 97 = .ok (.if_icmp .ne 7, 3) := by decide +kernel
theorem dX9_tells_100 : decode cX9_tells 100 = .ok (.iconst 2, 1) := by decide +kernel
theorem dX9_tells_101 : decode cX9_tells 101 = .ok (.goto 23, 3) := by decide +kernel
theorem dX9_tells_104 : decode cX9_tells 104 = .ok (.iload_n 3, 1) := by decide +kernel
theorem dX9_tells_105 : decode cX9_tells 105 = .ok (.iconst 5, 1) := by decide +kernel
theorem dX9_tells_106 : decode cX9_tells 106 = .ok (.if_icmp .ge 7, 3) := by decide +kernel
theorem dX9_tells_109 : decode cX9_tells 109 = .ok (.iconst 3, 1) := by decide +kernel
theorem dX9_tells_110 : decode cX9_tells 110 = .ok (.goto 14, 3) := by decide +kernel
theorem dX9_tells_113 : decode cX9_tells 113 = .ok (.iload_n 3, 1) := by decide +kernel
theorem dX9_tells_114 : decode cX9_tells 114 = .ok (.iconst 5, 1) := by decide +kernel
theorem dX9_tells_115 : decode cX9_tells 115 = .ok (.if_icmp .ne 7, 3) := by decide +kernel
theorem dX9_tells_118 : decode cX9_tells 118 = .ok (.iconst 1, 1) := by decide +kernel
theorem dX9_tells_119 : decode cX9_tells 119 = .ok (.goto 5, 3) := by decide +kernel
theorem dX9_tells_122 : decode cX9_tells 122 = .ok (.bipush 8, 2) := by decide +kernel
theorem dX9_tells_124 : decode cX9_tells 124 = .ok (.istore 4, 2) := by decide +kernel
theorem dX9_tells_126 : decode cX9_tells 126 = .ok (.iload 4, 2) := by decide +kernel
theorem dX9_tells_128 : decode cX9_tells 128 = .ok (.bipush 8, 2) := by decide +kernel
theorem dX9_tells_130 : decode cX9_tells 130 = .ok (.if_icmp .ne 10, 3) := by decide +kernel
theorem dX9_tells_133 : decode cX9_tells 133 = .ok (.aload_n 0, 1) := by decide +kernel
theorem dX9_tells_134 : decode cX9_tells 134 = .ok (.getfield 117, 3) := by decide +kernel
theorem dX9_tells_137 : decode cX9_tells 137 = .ok (.goto 10, 3) := by decide +kernel
theorem dX9_tells_140 : decode cX9_tells 140 = .ok (.aload_n 0, 1) := by decide +kernel
theorem dX9_tells_141 : decode cX9_tells 141 = .ok (.iload_n 2, 1) := by decide +kernel
theorem dX9_tells_142 : decode cX9_tells 142 = .ok (.iload 4, 2) := by decide +kernel
theorem dX9_tells_144 : decode cX9_tells 144 = .ok (.invokevirtual 103, 3) := by decide +kernel
theorem dX9_tells_147 : decode cX9_tells 147 = .ok (.istore 5, 2) := by decide +kernel
theorem dX9_tells_149 : decode cX9_tells 149 = .ok (.iload 4, 2) := by decide +kernel
theorem dX9_tells_151 : decode cX9_tells 151 = .ok (.bipush 8, 2) := by decide +kernel
theorem dX9_tells_153 : decode cX9_tells 153 = .ok (.if_icmp .ne 12, 3) := by decide +kernel
theorem dX9_tells_156 : decode cX9_tells 156 = .ok (.aload_n 0, 1) := by decide +kernel
theorem dX9_tells_157 : decode cX9_tells 157 = .ok (.getfield 74, 3) := by decide +kernel
theorem dX9_tells_160 : decode cX9_tells 160 = .ok (.iconst 1, 1) := by decide +kernel
theorem dX9_tells_161 : decode cX9_tells 161 = .ok (.isub, 1) := by decide +kernel
theorem dX9_tells_162 : decode cX9_tells 162 = .ok (.goto 38, 3) := by decide +kernel
theorem dX9_tells_165 : decode cX9_tells 165 = .ok (.iload 4, 2) := by decide +kernel
theorem dX9_tells_167 : decode cX9_tells 167 = .ok (.bipush 7, 2) := by decide +kernel
theorem dX9_tells_169 : decode cX9_tells 169 = .ok (.if_icmp .ne 7, 3) := by decide +kernel
theorem dX9_tells_172 : decode cX9_tells 172 = .ok (.iconst 5, 1) := by decide +kernel
theorem dX9_tells_173 : decode cX9_tells 173 = .ok (.goto 27, 3) := by decide +kernel
theorem dX9_tells_176 : decode cX9_tells 176 = .ok (.iload 4, 2) := by decide +kernel
theorem dX9_tells_178 : decode cX9_tells 178 = .ok (.iconst 2, 1) := by decide +kernel
theorem dX9_tells_179 : decode cX9_tells 179 = .ok (.if_icmp .ne 8, 3) := by decide +kernel
theorem dX9_tells_182 : decode cX9_tells 182 = .ok (.bipush 9, 2) := by decide +kernel
theorem dX9_tells_184 : decode cX9_tells 184 = .ok (.goto 16, 3) := by decide +kernel
theorem dX9_tells_187 : decode cX9_tells 187 = .ok (.iload 4, 2) := by decide +kernel
theorem dX9_tells_189 : decode cX9_tells 189 = .ok (.iconst 3, 1) := by decide +kernel
theorem dX9_tells_190 : decode cX9_tells 190 = .ok (.if_icmp .ne 8, 3) := by decide +kernel
theorem dX9_tells_193 : decode cX9_tells 193 = .ok (.bipush 99, 2) := by decide +kernel
theorem dX9_tells_195 : decode cX9_tells 195 = .ok (.goto 5, 3) := by decide +kernel
theorem dX9_tells_198 : decode cX9_tells 198 = .ok (.bipush 23, 2) := by decide +kernel
theorem dX9_tells_200 : decode cX9_tells 200 = .ok (.istore 6, 2) := by decide +kernel
theorem dX9_tells_202 : decode cX9_tells 202 = .ok (.iconst 0, 1) := by decide +kernel
theorem dX9_tells_203 : decode cX9_tells 203 = .ok (.istore 7, 2) := by decide +kernel
theorem dX9_tells_205 : decode cX9_tells 205 = .ok (.iconst 0, 1) := by decide +kernel
theorem dX9_tells_206 : decode cX9_tells 206 = .ok (.istore 8, 2) := by decide +kernel
theorem dX9_tells_208 : decode cX9_tells 208 = .ok (.iconst (-1), 1) := by decide +kernel
theorem dX9_tells_209 : decode cX9_tells 209 = .ok (.istore 9, 2) := by decide +kernel
theorem dX9_tells_211 : decode cX9_tells 211 = .ok (.iload 6, 2) := by decide +kernel
theorem dX9_tells_213 : decode cX9_tells 213 = .ok (.istore 10, 2) := by decide +kernel
theorem dX9_tells_215 : decode cX9_tells 215 = .ok (.iload 10, 2) := by decide +kernel
theorem dX9_tells_217 : decode cX9_tells 217 = .ok (.ifCond .lt 55, 3) := by decide +kernel
theorem dX9_tells_220 : decode cX9_tells 220 = .ok (.aload_n 0, 1) := by decide +kernel
theorem dX9_tells_221 : decode cX9_tells 221 = .ok (.iload 4, 2) := by decide +kernel
theorem dX9_tells_223 : decode cX9_tells 223 = .ok (.iload_n 2, 1) := by decide +kernel
theorem dX9_tells_224 : decode cX9_tells 224 = .ok (.iload 10, 2) := by decide +kernel
theorem dX9_tells_226 : decode cX9_tells 226 = .ok (.invokevirtual 107, 3) := by decide +kernel
theorem dX9_tells_229 : decode cX9_tells 229 = .ok (.aload_n 0, 1) := by decide +kernel
theorem dX9_tells_230 : decode cX9_tells 230 = .ok (.iload_n 1, 1) := by decide +kernel
theorem dX9_tells_231 : decode cX9_tells 231 = .ok (.iload_n 2, 1) := by decide +kernel
theorem dX9_tells_232 : decode cX9_tells 232 = .ok (.invokevirtual 320, 3) := by decide +kernel
theorem dX9_tells_235 : decode cX9_tells 235 = .ok (.iconst (-1), 1) := by decide +kernel
theorem dX9_tells_236 : decode cX9_tells 236 = .ok (.if_icmp .ne 30, 3) := by decide +kernel
theorem dX9_tells_239 : decode cX9_tells 239 = .ok (.iload 7, 2) := by decide +kernel
theorem dX9_tells_241 : decode cX9_tells 241 = .ok (.iload 10, 2) := by decide +kernel
theorem dX9_tells_243 : decode cX9_tells 243 = .ok (.bipush 24, 2) := by decide +kernel
theorem dX9_tells_245 : decode cX9_tells 245 = .ok (.if_icmp .ge 10, 3) := by decide +kernel
theorem dX9_tells_248 : decode cX9_tells 248 = .ok (.iconst 1, 1) := by decide +kernel
theorem dX9_tells_249 : decode cX9_tells 249 = .ok (.iload 10, 2) := by decide +kernel
theorem dX9_tells_251 : decode cX9_tells 251 = .ok (.ishl, 1) := by decide +kernel
theorem dX9_tells_252 : decode cX9_tells 252 = .ok (.goto 4, 3) := by decide +kernel
theorem dX9_tells_255 : decode cX9_tells 255 = .ok (.iconst 0, 1) := by decide +kernel
theorem dX9_tells_256 : decode cX9_tells 256 = .ok (.ior, 1) := by decide +kernel
theorem dX9_tells_257 : decode cX9_tells 257 = .ok (.istore 7, 2) := by decide +kernel
theorem dX9_tells_259 : decode cX9_tells 259 = .ok (.iinc 8 1, 3) := by decide +kernel
theorem dX9_tells_262 : decode cX9_tells 262 = .ok (.iload 10, 2) := by decide +kernel
theorem dX9_tells_264 : decode cX9_tells 264 = .ok (.istore 9, 2) := by decide +kernel
theorem dX9_tells_266 : decode cX9_tells 266 = .ok (.iinc 10 (-1), 3) := by decide +kernel
theorem dX9_tells_269 : decode cX9_tells 269 = .ok (.goto (-54), 3) := by decide +kernel
theorem dX9_tells_272 : decode cX9_tells 272 = .ok (.aload_n 0, 1) := by decide +kernel
theorem dX9_tells_273 : decode cX9_tells 273 = .ok (.iload 4, 2) := by decide +kernel
theorem dX9_tells_275 : decode cX9_tells 275 = .ok (.iload_n 2, 1) := by decide +kernel
theorem dX9_tells_276 : decode cX9_tells 276 = .ok (.iload 5, 2) := by decide +kernel
theorem dX9_tells_278 : decode cX9_tells 278 = .ok (.invokevirtual 107, 3) := by decide +kernel
theorem dX9_tells_281 : decode cX9_tells 281 = .ok (.iload_n 3, 1) := by decide +kernel
theorem dX9_tells_282 : decode cX9_tells 282 = .ok (.iconst 3, 1) := by decide +kernel
theorem dX9_tells_283 : decode cX9_tells 283 = .ok (.if_icmp .ne 8, 3) := by decide +kernel
theorem dX9_tells_286 : decode cX9_tells 286 = .ok (.iload 8, 2) := by decide +kernel
theorem dX9_tells_288 : decode cX9_tells 288 = .ok (.goto 15, 3) := by decide +kernel
theorem dX9_tells_291 : decode cX9_tells 291 = .ok (.iload_n 3, 1) := by decide +kernel
theorem dX9_tells_292 : decode cX9_tells 292 = .ok (.iconst 4, 1) := by decide +kernel
theorem dX9_tells_293 : decode cX9_tells 293 = .ok (.if_icmp .ne 8, 3) := by decide +kernel
theorem dX9_tells_296 : decode cX9_tells 296 = .ok (.iload 9, 2) := by decide +kernel
theorem dX9_tells_298 : decode cX9_tells 298 = .ok (.goto 5, 3) := by decide +kernel
theorem dX9_tells_301 : decode cX9_tells 301 = .ok (.iload 7, 2) := by decide +kernel
theorem dX9_tells_303 : decode cX9_tells 303 = .ok (.ireturn, 1) := by decide +kernel
set_option maxRecDepth 20000 in
theorem ggX9_film_X9_isSheet : GoodIn wsX9_film wsX9_isSheet := goodIn_r _ [6, 7, 8, 9, 5, 10] (by decide +kernel) (by decide +kernel)
set_option maxRecDepth 20000 in
theorem gX9_film_X9_isSheet : GoodIn wsX9_film (va_wsS RX9 323 yX9_isSheet wsX9_isSheet) := goodIn_app (goodIn_of _ (by decide +kernel)) ggX9_film_X9_isSheet
set_option maxRecDepth 20000 in
theorem ggX9_film_X9_isOne : GoodIn wsX9_film wsX9_isOne := goodIn_r _ [14, 15, 8, 9, 5, 10, 165, 166, 167, 168, 169, 170, 171, 172, 173, 174, 175, 176, 177, 178, 179, 180, 181, 182, 183, 184, 185, 186, 187, 188, 189, 190, 191, 192, 193, 194, 195, 196, 197, 198, 199, 200, 201, 202, 203, 204, 205, 206, 207, 208] (by decide +kernel) (by decide +kernel)
set_option maxRecDepth 20000 in
theorem gX9_film_X9_isOne : GoodIn wsX9_film (wsV RX9 90 RX9 yX9_isOne wsX9_isOne) := goodIn_app (goodIn_of _ (by decide +kernel)) ggX9_film_X9_isOne
set_option maxRecDepth 20000 in
theorem ggX9_film_X9_in : GoodIn wsX9_film wsX9_in := goodIn_r _ [10] (by decide +kernel) (by decide +kernel)
set_option maxRecDepth 20000 in
theorem gX9_film_X9_in : GoodIn wsX9_film (va_wsS RX9 80 yX9_in wsX9_in) := goodIn_app (goodIn_of _ (by decide +kernel)) ggX9_film_X9_in
set_option maxRecDepth 20000 in
theorem ggX9_film_X9_sheet : GoodIn wsX9_film wsX9_sheet := goodIn_r _ [19, 20, 21, 22, 23, 24, 2, 3, 4, 5, 6, 7, 8, 9, 10, 165, 166, 167, 168, 169, 170, 171, 172, 173, 174, 175, 176, 177, 178, 179, 180, 181, 182, 183, 184, 185, 186, 187, 188, 189, 190, 191, 192, 193, 194, 195, 196, 197, 198, 199, 200, 201, 202, 203, 204, 205, 206, 207, 208] (by decide +kernel) (by decide +kernel)
set_option maxRecDepth 20000 in
theorem gX9_film_X9_sheet : GoodIn wsX9_film (wsV RX9 333 RX9 yX9_sheet wsX9_sheet) := goodIn_app (goodIn_of _ (by decide +kernel)) ggX9_film_X9_sheet
set_option maxRecDepth 20000 in
theorem ggX9_film_X9_laysAside : GoodIn wsX9_film wsX9_laysAside := goodIn_r _ [28, 29, 30, 31, 32, 165, 166, 167, 168, 169, 170, 171, 172, 173, 174, 175, 176, 177, 178, 179, 180, 181, 182, 183, 184, 185, 186, 187, 188, 189, 190, 191, 192, 193, 194, 195, 196, 197, 198, 199, 200, 201, 202, 203, 204, 205, 206, 207, 208] (by decide +kernel) (by decide +kernel)
set_option maxRecDepth 20000 in
theorem gX9_film_X9_laysAside : GoodIn wsX9_film (wsV RX9 288 RX9 yX9_laysAside wsX9_laysAside) := goodIn_app (goodIn_of _ (by decide +kernel)) ggX9_film_X9_laysAside
set_option maxRecDepth 20000 in
theorem ggX9_film_X9_yieldsOf : GoodIn wsX9_film wsX9_yieldsOf := goodIn_r _ [36, 37, 30, 38, 32, 39, 40, 41, 5, 42, 43, 44, 45, 46, 47, 48, 49, 50, 51, 52, 53, 7, 54, 55, 56, 57, 58, 59, 60, 61, 62, 63, 64, 65, 66, 67, 68, 69, 70, 71, 72, 73, 74, 75, 76, 77, 78, 79, 80, 81, 82, 83, 84, 85, 86, 87, 88, 8, 9, 10, 89, 90, 91, 92, 93, 94, 95, 96, 97, 98, 99, 100, 101, 102, 103, 104, 105, 106, 107, 108, 109, 110, 111, 112, 113, 114, 115, 116, 117, 118, 119, 120, 121, 122, 123, 124, 125, 126, 127, 128, 129, 130, 131, 132, 133, 134, 135, 136, 137, 138, 139, 140, 141, 142, 143, 144, 145, 146, 165, 166, 167, 168, 169, 170, 171, 172, 173, 174, 175, 176, 177, 178, 179, 180, 181, 182, 183, 184, 185, 186, 187, 188, 189, 190, 191, 192, 193, 194, 195, 196, 197, 198, 199, 200, 201, 202, 203, 204, 205, 206, 207, 208] (by decide +kernel) (by decide +kernel)
set_option maxRecDepth 20000 in
theorem gX9_film_X9_yieldsOf : GoodIn wsX9_film (wsV RX9 126 RX9 yX9_yieldsOf wsX9_yieldsOf) := goodIn_app (goodIn_of _ (by decide +kernel)) ggX9_film_X9_yieldsOf
set_option maxRecDepth 20000 in
theorem ggX9_film_X9_passes : GoodIn wsX9_film wsX9_passes := goodIn_r _ [150, 31, 15, 151, 152, 30, 32, 33, 34, 35, 5, 36, 37, 38, 39, 40, 41, 42, 43, 44, 45, 46, 47, 48, 49, 50, 51, 52, 53, 7, 54, 55, 56, 57, 58, 59, 60, 61, 62, 63, 64, 65, 66, 67, 68, 69, 70, 71, 72, 73, 74, 75, 76, 77, 78, 79, 80, 81, 82, 83, 84, 85, 86, 87, 88, 8, 9, 10, 89, 90, 91, 92, 93, 94, 95, 96, 97, 98, 99, 100, 101, 102, 103, 104, 105, 106, 107, 108, 109, 110, 111, 112, 113, 114, 115, 116, 117, 118, 119, 120, 121, 122, 123, 124, 125, 126, 127, 128, 129, 130, 131, 132, 133, 134, 135, 136, 137, 138, 139, 140, 141, 142, 143, 144, 145, 146, 153, 154, 155, 156, 157, 158, 159, 160, 165, 166, 167, 168, 169, 170, 171, 172, 173, 174, 175, 176, 177, 178, 179, 180, 181, 182, 183, 184, 185, 186, 187, 188, 189, 190, 191, 192, 193, 194, 195, 196, 197, 198, 199, 200, 201, 202, 203, 204, 205, 206, 207, 208] (by decide +kernel) (by decide +kernel)
set_option maxRecDepth 20000 in
theorem gX9_film_X9_passes : GoodIn wsX9_film (wsV RX9 278 RX9 yX9_passes wsX9_passes) := goodIn_app (goodIn_of _ (by decide +kernel)) ggX9_film_X9_passes
set_option maxRecDepth 20000 in
theorem ggX9_film_X9_laysBack : GoodIn wsX9_film wsX9_laysBack := goodIn_r _ [164, 30, 29, 31, 32, 165, 166, 167, 168, 169, 170, 171, 172, 173, 174, 175, 176, 177, 178, 179, 180, 181, 182, 183, 184, 185, 186, 187, 188, 189, 190, 191, 192, 193, 194, 195, 196, 197, 198, 199, 200, 201, 202, 203, 204, 205, 206, 207, 208] (by decide +kernel) (by decide +kernel)
set_option maxRecDepth 20000 in
theorem gX9_film_X9_laysBack : GoodIn wsX9_film (wsV RX9 291 RX9 yX9_laysBack wsX9_laysBack) := goodIn_app (goodIn_of _ (by decide +kernel)) ggX9_film_X9_laysBack
theorem dX9_film_0 : decode cX9_film 0 = .ok (.iload_n 1, 1) := by decide +kernel
theorem dX9_film_1 : decode cX9_film 1 = .ok (.invokestatic 323, 3) := by decide +kernel
theorem dX9_film_4 : decode cX9_film 4 = .ok (.ifCond .eq 23, 3) := by decide +kernel
theorem dX9_film_7 : decode cX9_film 7 = .ok (.aload_n 0, 1) := by decide +kernel
theorem dX9_film_8 : decode cX9_film 8 = .ok (.iload_n 2, 1) := by decide +kernel
theorem dX9_film_9 : decode cX9_film 9 = .ok (.invokevirtual 90, 3) := by decide +kernel
theorem dX9_film_12 : decode cX9_film 12 = .ok (.ifCond .eq 15, 3) := by decide +kernel
theorem dX9_film_15 : decode cX9_film 15 = .ok (.iload_n 3, 1) := by decide +kernel
theorem dX9_film_16 : decode cX9_film 16 = .ok (.i2l, 1) := by decide +kernel
theorem dX9_film_17 : decode cX9_film 17 = .ok (.lconst 0, 1) := by decide +kernel
theorem dX9_film_18 : decode cX9_film 18 = .ok (.ldc2_w 331, 3) := by decide +kernel
theorem dX9_film_21 : decode cX9_film 21 = .ok (.invokestatic 80, 3) := by decide +kernel
theorem dX9_film_24 : decode cX9_film 24 = .ok (.ifCond .ne 6, 3) := by decide +kernel
theorem dX9_film_27 : decode cX9_film 27 = .ok (.bipush (-2), 2) := by decide +kernel
theorem dX9_film_29 : decode cX9_film 29 = .ok (.ireturn, 1) := by decide +kernel
theorem dX9_film_30 : decode cX9_film 30 = .ok (.aload_n 0, 1) := by decide +kernel
theorem dX9_film_31 : decode cX9_film 31 = .ok (.iload_n 1, 1) := by decide +kernel
theorem dX9_film_32 : decode cX9_film 32 = .ok (.iconst 0, 1) := by decide +kernel
theorem dX9_film_33 : decode cX9_film 33 = .ok (.iload_n 3, 1) := by decide +kernel
theorem dX9_film_34 : decode cX9_film 34 = .ok (.invokevirtual 333, 3) := by decide +kernel
theorem dX9_film_37 : decode cX9_film 37 = .ok (.pop, 1) := by decide +kernel
theorem dX9_film_38 : decode cX9_film 38 = .ok (.aload_n 0, 1) := by decide +kernel
theorem dX9_film_39 : decode cX9_film 39 = .ok (.invokevirtual 288, 3) := by decide +kernel
theorem dX9_film_42 : decode cX9_film 42 = .ok (.iconst 0, 1) := by decide +kernel
theorem dX9_film_43 : decode cX9_film 43 = .ok (.istore 4, 2) := by decide +kernel
theorem dX9_film_45 : decode cX9_film 45 = .ok (.iconst 0, 1) := by decide +kernel
theorem dX9_film_46 : decode cX9_film 46 = .ok (.istore 5, 2) := by decide +kernel
theorem dX9_film_48 : decode cX9_film 48 = .ok (.iload 5, 2) := by decide +kernel
theorem dX9_film_50 : decode cX9_film 50 = .ok (.iload_n 3, 1) := by decide +kernel
theorem dX9_film_51 : decode cX9_film 51 = .ok (.if_icmp .ge 42, 3) := by decide +kernel
theorem dX9_film_54 : decode cX9_film 54 = .ok (.aload_n 0, 1) := by decide +kernel
theorem dX9_film_55 : decode cX9_film 55 = .ok (.iload_n 2, 1) := by decide +kernel
theorem dX9_film_56 : decode cX9_film 56 = .ok (.invokevirtual 126, 3) := by decide +kernel
theorem dX9_film_59 : decode cX9_film 59 = .ok (.istore 6, 2) := by decide +kernel
theorem dX9_film_61 : decode cX9_film 61 = .ok (.aload_n 0, 1) := by decide +kernel
theorem dX9_film_62 : decode cX9_film 62 = .ok (.getfield 67, 3) := by decide +kernel
theorem dX9_film_65 : decode cX9_film 65 = .ok (.bipush 40, 2) := by decide +kernel
theorem dX9_film_67 : decode cX9_film 67 = .ok (.iload_n 1, 1) := by decide +kernel
theorem dX9_film_68 : decode cX9_film 68 = .ok (.imul, 1) := by decide +kernel
theorem dX9_film_69 : decode cX9_film 69 = .ok (.iload 5, 2) := by decide +kernel
theorem dX9_film_71 : decode cX9_film 71 = .ok (.iadd, 1) := by decide +kernel
theorem dX9_film_72 : decode cX9_film 72 = .ok (.iload 6, 2) := by decide +kernel
theorem dX9_film_74 : decode cX9_film 74 = .ok (.iastore, 1) := by decide +kernel
theorem dX9_film_75 : decode cX9_film 75 = .ok (.iload 4, 2) := by decide +kernel
theorem dX9_film_77 : decode cX9_film 77 = .ok (.iload 6, 2) := by decide +kernel
theorem dX9_film_79 : decode cX9_film 79 = .ok (.iadd, 1) := by decide +kernel
theorem dX9_film_80 : decode cX9_film 80 = .ok (.istore 4, 2) := by decide +kernel
theorem dX9_film_82 : decode cX9_film 82 = .ok (.aload_n 0, 1) := by decide +kernel
theorem dX9_film_83 : decode cX9_film 83 = .ok (.invokevirtual 278, 3) := by decide +kernel
theorem dX9_film_86 : decode cX9_film 86 = .ok (.pop, 1) := by decide +kernel
theorem dX9_film_87 : decode cX9_film 87 = .ok (.iinc 5 1, 3) := by decide +kernel
theorem dX9_film_90 : decode cX9_film 90 = .ok (.goto (-42), 3) := by decide +kernel
theorem dX9_film_93 : decode cX9_film 93 = .ok (.aload_n 0, 1) := by decide +kernel
theorem dX9_film_94 : decode cX9_film 94 = .ok (.invokevirtual 291, 3) := by decide +kernel
theorem dX9_film_97 : decode cX9_film 97 = .ok (.iload 4, 2) := by decide +kernel
theorem dX9_film_99 : decode cX9_film 99 = .ok (.ireturn, 1) := by decide +kernel
set_option maxRecDepth 20000 in
theorem ggX9_pouredDrawn_X9_laysAside : GoodIn wsX9_pouredDrawn wsX9_laysAside := goodIn_r _ [6, 7, 8, 9, 10, 156, 157, 158, 159, 160, 161, 162, 163, 164, 165, 166, 167, 168, 169, 170, 171, 172, 173, 174, 175, 176, 177, 178, 179, 180, 181, 182, 183, 184, 185, 186, 187, 188, 189, 190, 191, 192, 193, 194, 195, 196, 197, 198, 199] (by decide +kernel) (by decide +kernel)
set_option maxRecDepth 20000 in
theorem gX9_pouredDrawn_X9_laysAside : GoodIn wsX9_pouredDrawn (wsV RX9 288 RX9 yX9_laysAside wsX9_laysAside) := goodIn_app (goodIn_of _ (by decide +kernel)) ggX9_pouredDrawn_X9_laysAside
set_option maxRecDepth 20000 in
theorem ggX9_pouredDrawn_X9_isOne : GoodIn wsX9_pouredDrawn wsX9_isOne := goodIn_r _ [14, 15, 16, 17, 5, 18, 156, 157, 158, 159, 160, 161, 162, 163, 164, 165, 166, 167, 168, 169, 170, 171, 172, 173, 174, 175, 176, 177, 178, 179, 180, 181, 182, 183, 184, 185, 186, 187, 188, 189, 190, 191, 192, 193, 194, 195, 196, 197, 198, 199] (by decide +kernel) (by decide +kernel)
set_option maxRecDepth 20000 in
theorem gX9_pouredDrawn_X9_isOne : GoodIn wsX9_pouredDrawn (wsV RX9 90 RX9 yX9_isOne wsX9_isOne) := goodIn_app (goodIn_of _ (by decide +kernel)) ggX9_pouredDrawn_X9_isOne
set_option maxRecDepth 20000 in
theorem ggX9_pouredDrawn_X9_tells1 : GoodIn wsX9_pouredDrawn wsX9_tells1 := goodIn_r _ [22, 8, 23, 24, 5, 25, 156, 157, 158, 159, 160, 161, 162, 163, 164, 165, 166, 167, 168, 169, 170, 171, 172, 173, 174, 175, 176, 177, 178, 179, 180, 181, 182, 183, 184, 185, 186, 187, 188, 189, 190, 191, 192, 193, 194, 195, 196, 197, 198, 199] (by decide +kernel) (by decide +kernel)
set_option maxRecDepth 20000 in
theorem gX9_pouredDrawn_X9_tells1 : GoodIn wsX9_pouredDrawn (wsV RX9 281 RX9 yX9_tells1 wsX9_tells1) := goodIn_app (goodIn_of _ (by decide +kernel)) ggX9_pouredDrawn_X9_tells1
set_option maxRecDepth 20000 in
theorem ggX9_pouredDrawn_X9_passes : GoodIn wsX9_pouredDrawn wsX9_passes := goodIn_r _ [29, 9, 15, 30, 31, 8, 10, 32, 33, 34, 5, 35, 36, 37, 38, 39, 40, 41, 42, 43, 44, 45, 46, 47, 48, 49, 50, 51, 52, 53, 54, 55, 56, 57, 58, 59, 60, 61, 62, 63, 64, 65, 66, 67, 68, 69, 70, 71, 72, 73, 74, 75, 76, 77, 78, 79, 80, 81, 82, 83, 84, 85, 86, 87, 88, 16, 17, 18, 89, 90, 91, 92, 93, 94, 95, 96, 97, 98, 99, 100, 101, 102, 103, 104, 105, 106, 107, 108, 109, 110, 111, 112, 113, 114, 115, 116, 117, 118, 119, 120, 121, 122, 123, 124, 125, 126, 127, 128, 129, 130, 131, 132, 133, 134, 135, 136, 137, 138, 139, 140, 141, 142, 143, 23, 24, 25, 144, 145, 146, 147, 148, 149, 150, 151, 156, 157, 158, 159, 160, 161, 162, 163, 164, 165, 166, 167, 168, 169, 170, 171, 172, 173, 174, 175, 176, 177, 178, 179, 180, 181, 182, 183, 184, 185, 186, 187, 188, 189, 190, 191, 192, 193, 194, 195, 196, 197, 198, 199] (by decide +kernel) (by decide +kernel)
set_option maxRecDepth 20000 in
theorem gX9_pouredDrawn_X9_passes : GoodIn wsX9_pouredDrawn (wsV RX9 278 RX9 yX9_passes wsX9_passes) := goodIn_app (goodIn_of _ (by decide +kernel)) ggX9_pouredDrawn_X9_passes
set_option maxRecDepth 20000 in
theorem ggX9_pouredDrawn_X9_laysBack : GoodIn wsX9_pouredDrawn wsX9_laysBack := goodIn_r _ [155, 8, 7, 9, 10, 156, 157, 158, 159, 160, 161, 162, 163, 164, 165, 166, 167, 168, 169, 170, 171, 172, 173, 174, 175, 176, 177, 178, 179, 180, 181, 182, 183, 184, 185, 186, 187, 188, 189, 190, 191, 192, 193, 194, 195, 196, 197, 198, 199] (by decide +kernel) (by decide +kernel)
set_option maxRecDepth 20000 in
theorem gX9_pouredDrawn_X9_laysBack : GoodIn wsX9_pouredDrawn (wsV RX9 291 RX9 yX9_laysBack wsX9_laysBack) := goodIn_app (goodIn_of _ (by decide +kernel)) ggX9_pouredDrawn_X9_laysBack
theorem dX9_pouredDrawn_0 : decode cX9_pouredDrawn 0 = .ok (.aload_n 0, 1) := by decide +kernel
theorem dX9_pouredDrawn_1 : decode cX9_pouredDrawn 1 = .ok (.invokevirtual 288, 3) := by decide +kernel
theorem dX9_pouredDrawn_4 : decode cX9_pouredDrawn 4 = .ok (.iload_n 1, 1) := by decide +kernel
theorem dX9_pouredDrawn_5 : decode cX9_pouredDrawn 5 = .ok (.istore_n 3, 1) := by decide +kernel
theorem dX9_pouredDrawn_6 : decode cX9_pouredDrawn 6 = .ok (.iconst 0, 1) := by decide +kernel
theorem dX9_pouredDrawn_7 : decode cX9_pouredDrawn 7 = .ok (.istore 4, 2) := by decide +kernel
theorem dX9_pouredDrawn_9 : decode cX9_pouredDrawn 9 = .ok (.iconst 0, 1) := by decide +kernel
theorem dX9_pouredDrawn_10 : decode cX9_pouredDrawn 10 = .ok (.istore 5, 2) := by decide +kernel
theorem dX9_pouredDrawn_12 : decode cX9_pouredDrawn 12 = .ok (.iload 5, 2) := by decide +kernel
theorem dX9_pouredDrawn_14 : decode cX9_pouredDrawn 14 = .ok (.iload_n 2, 1) := by decide +kernel
theorem dX9_pouredDrawn_15 : decode cX9_pouredDrawn 15 = .ok (.if_icmp .ge 53, 3) := by decide +kernel
theorem dX9_pouredDrawn_18 : decode cX9_pouredDrawn 18 = .ok (.iload_n 3, 1) := by decide +kernel
theorem dX9_pouredDrawn_19 : decode cX9_pouredDrawn 19 = .ok (.ldc_w 336, 3) := by decide +kernel
theorem dX9_pouredDrawn_22 : decode cX9_pouredDrawn 22 = .ok (.imul, 1) := by decide +kernel
theorem dX9_pouredDrawn_23 : decode cX9_pouredDrawn 23 = .ok (.sipush 12345, 3) := by decide +kernel
theorem dX9_pouredDrawn_26 : decode cX9_pouredDrawn 26 = .ok (.iadd, 1) := by decide +kernel
theorem dX9_pouredDrawn_27 : decode cX9_pouredDrawn 27 = .ok (.istore_n 3, 1) := by decide +kernel
theorem dX9_pouredDrawn_28 : decode cX9_pouredDrawn 28 = .ok (.iload_n 3, 1) := by decide +kernel
theorem dX9_pouredDrawn_29 : decode cX9_pouredDrawn 29 = .ok (.bipush 9, 2) := by decide +kernel
theorem dX9_pouredDrawn_31 : decode cX9_pouredDrawn 31 = .ok (.iushr, 1) := by decide +kernel
theorem dX9_pouredDrawn_32 : decode cX9_pouredDrawn 32 = .ok (.bipush 8, 2) := by decide +kernel
theorem dX9_pouredDrawn_34 : decode cX9_pouredDrawn 34 = .ok (.irem, 1) := by decide +kernel
theorem dX9_pouredDrawn_35 : decode cX9_pouredDrawn 35 = .ok (.istore 6, 2) := by decide +kernel
theorem dX9_pouredDrawn_37 : decode cX9_pouredDrawn 37 = .ok (.aload_n 0, 1) := by decide +kernel
theorem dX9_pouredDrawn_38 : decode cX9_pouredDrawn 38 = .ok (.iload 6, 2) := by decide +kernel
theorem dX9_pouredDrawn_40 : decode cX9_pouredDrawn 40 = .ok (.invokevirtual 90, 3) := by decide +kernel
theorem dX9_pouredDrawn_43 : decode cX9_pouredDrawn 43 = .ok (.ifCond .eq 10, 3) := by decide +kernel
theorem dX9_pouredDrawn_46 : decode cX9_pouredDrawn 46 = .ok (.aload_n 0, 1) := by decide +kernel
theorem dX9_pouredDrawn_47 : decode cX9_pouredDrawn 47 = .ok (.iload 6, 2) := by decide +kernel
theorem dX9_pouredDrawn_49 : decode cX9_pouredDrawn 49 = .ok (.invokevirtual 281, 3) := by decide +kernel
theorem dX9_pouredDrawn_52 : decode cX9_pouredDrawn 52 = .ok (.pop, 1) := by decide +kernel
theorem dX9_pouredDrawn_53 : decode cX9_pouredDrawn 53 = .ok (.iload 4, 2) := by decide +kernel
theorem dX9_pouredDrawn_55 : decode cX9_pouredDrawn 55 = .ok (.aload_n 0, 1) := by decide +kernel
theorem dX9_pouredDrawn_56 : decode cX9_pouredDrawn 56 = .ok (.invokevirtual 278, 3) := by decide +kernel
theorem dX9_pouredDrawn_59 : decode cX9_pouredDrawn 59 = .ok (.iadd, 1) := by decide +kernel
theorem dX9_pouredDrawn_60 : decode cX9_pouredDrawn 60 = .ok (.istore 4, 2) := by decide +kernel
theorem dX9_pouredDrawn_62 : decode cX9_pouredDrawn 62 = .ok (.iinc 5 1, 3) := by decide +kernel
theorem dX9_pouredDrawn_65 : decode cX9_pouredDrawn 65 = .ok (.goto (-53), 3) := by decide +kernel
theorem dX9_pouredDrawn_68 : decode cX9_pouredDrawn 68 = .ok (.aload_n 0, 1) := by decide +kernel
theorem dX9_pouredDrawn_69 : decode cX9_pouredDrawn 69 = .ok (.invokevirtual 291, 3) := by decide +kernel
theorem dX9_pouredDrawn_72 : decode cX9_pouredDrawn 72 = .ok (.iload 4, 2) := by decide +kernel
theorem dX9_pouredDrawn_74 : decode cX9_pouredDrawn 74 = .ok (.ireturn, 1) := by decide +kernel
set_option maxRecDepth 20000 in
theorem ggX9_drawn_X9_in : GoodIn wsX9_drawn wsX9_in := goodIn_r _ [5] (by decide +kernel) (by decide +kernel)
set_option maxRecDepth 20000 in
theorem gX9_drawn_X9_in : GoodIn wsX9_drawn (va_wsS RX9 80 yX9_in wsX9_in) := goodIn_app (goodIn_of _ (by decide +kernel)) ggX9_drawn_X9_in
set_option maxRecDepth 20000 in
theorem ggX9_drawn_X9_pouredDrawn : GoodIn wsX9_drawn wsX9_pouredDrawn := goodIn_r _ [9, 10, 11, 12, 13, 4, 14, 15, 16, 17, 18, 19, 20, 21, 22, 23, 2, 3, 5, 24, 25, 26, 27, 28, 29, 30, 31, 32, 33, 34, 35, 36, 37, 38, 39, 40, 41, 42, 43, 44, 45, 46, 47, 48, 49, 50, 51, 52, 53, 54, 55, 56, 57, 58, 59, 60, 61, 62, 63, 64, 65, 66, 67, 68, 69, 70, 71, 72, 73, 74, 75, 76, 77, 78, 79, 80, 81, 82, 83, 84, 85, 86, 87, 88, 89, 90, 91, 92, 93, 94, 95, 96, 97, 98, 99, 100, 101, 102, 103, 104, 105, 106, 107, 108, 109, 110, 111, 112, 113, 114, 115, 116, 117, 118, 119, 120, 121, 122, 123, 124, 125, 126, 127, 128, 129, 130, 131, 132, 133, 134, 135, 136, 137, 138, 139, 140, 141, 142, 143, 144, 145, 146, 147, 148, 149, 150, 151, 152, 153, 154, 155, 156, 157, 158, 159, 160, 161, 162, 163, 164, 165, 166, 167, 168, 169, 170, 171, 172, 173, 174, 175, 176, 177, 178, 179, 180, 181, 182, 183, 184, 185, 186, 187, 188, 189, 190, 191, 192, 193, 194, 195, 196, 197, 198, 199, 200, 201, 202, 203, 204] (by decide +kernel) (by decide +kernel)
set_option maxRecDepth 20000 in
theorem gX9_drawn_X9_pouredDrawn : GoodIn wsX9_drawn (wsV RX9 337 RX9 yX9_pouredDrawn wsX9_pouredDrawn) := goodIn_app (goodIn_of _ (by decide +kernel)) ggX9_drawn_X9_pouredDrawn
theorem dX9_drawn_0 : decode cX9_drawn 0 = .ok (.iload_n 2, 1) := by decide +kernel
theorem dX9_drawn_1 : decode cX9_drawn 1 = .ok (.i2l, 1) := by decide +kernel
theorem dX9_drawn_2 : decode cX9_drawn 2 = .ok (.lconst 0, 1) := by decide +kernel
theorem dX9_drawn_3 : decode cX9_drawn 3 = .ok (.ldc2_w 284, 3) := by decide +kernel
theorem dX9_drawn_6 : decode cX9_drawn 6 = .ok (.invokestatic 80, 3) := by decide +kernel
theorem dX9_drawn_9 : decode cX9_drawn 9 = .ok (.ifCond .eq 12, 3) := by decide +kernel
theorem dX9_drawn_12 : decode cX9_drawn 12 = .ok (.aload_n 0, 1) := by decide +kernel
theorem dX9_drawn_13 : decode cX9_drawn 13 = .ok (.iload_n 1, 1) := by decide +kernel
theorem dX9_drawn_14 : decode cX9_drawn 14 = .ok (.iload_n 2, 1) := by decide +kernel
theorem dX9_drawn_15 : decode cX9_drawn 15 = .ok (.invokevirtual 337, 3) := by decide +kernel
theorem dX9_drawn_18 : decode cX9_drawn 18 = .ok (.goto 5, 3) := by decide +kernel
theorem dX9_drawn_21 : decode cX9_drawn 21 = .ok (.bipush (-2), 2) := by decide +kernel
theorem dX9_drawn_23 : decode cX9_drawn 23 = .ok (.ireturn, 1) := by decide +kernel
set_option maxRecDepth 20000 in
theorem ggX9_chance_X9_in : GoodIn wsX9_chance wsX9_in := goodIn_r _ [7] (by decide +kernel) (by decide +kernel)
set_option maxRecDepth 20000 in
theorem gX9_chance_X9_in : GoodIn wsX9_chance (va_wsS RX9 80 yX9_in wsX9_in) := goodIn_app (goodIn_of _ (by decide +kernel)) ggX9_chance_X9_in
set_option maxRecDepth 20000 in
theorem ggX9_chance_X9_pouredDrawn : GoodIn wsX9_chance wsX9_pouredDrawn := goodIn_r _ [11, 12, 13, 14, 15, 6, 16, 17, 18, 19, 20, 21, 22, 23, 24, 25, 4, 5, 7, 26, 27, 28, 29, 30, 31, 32, 33, 34, 35, 36, 37, 38, 39, 40, 41, 42, 43, 44, 45, 46, 47, 48, 49, 50, 51, 52, 53, 54, 55, 56, 57, 58, 59, 60, 61, 62, 63, 64, 65, 66, 67, 68, 69, 70, 71, 72, 73, 74, 75, 76, 77, 78, 79, 80, 81, 82, 83, 84, 85, 86, 87, 88, 89, 90, 91, 92, 93, 94, 95, 96, 97, 98, 99, 100, 101, 102, 103, 104, 105, 106, 107, 108, 109, 110, 111, 112, 113, 114, 115, 116, 117, 118, 119, 120, 121, 122, 123, 124, 125, 126, 127, 128, 129, 130, 131, 132, 133, 134, 135, 136, 137, 138, 139, 140, 141, 142, 143, 144, 145, 146, 147, 148, 149, 150, 151, 152, 153, 154, 155, 156, 157, 158, 159, 160, 161, 162, 166, 167, 168, 169, 170, 171, 172, 173, 174, 175, 176, 177, 178, 179, 180, 181, 182, 183, 184, 185, 186, 187, 188, 189, 190, 191, 192, 193, 194, 195, 196, 197, 198, 199, 200, 201, 202, 203, 204, 205, 206, 207, 208, 209] (by decide +kernel) (by decide +kernel)
