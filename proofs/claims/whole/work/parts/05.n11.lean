set_option maxRecDepth 20000 in
theorem gX9_tells1_X9_within : GoodIn wsX9_tells1 (va_wsS RX9 251 yX9_within wsX9_within) := goodIn_app (goodIn_of _ (by decide +kernel)) ggX9_tells1_X9_within
theorem dX9_tells1_0 : decode cX9_tells1 0 = .ok (.aload_n 0, 1) := by decide +kernel
theorem dX9_tells1_1 : decode cX9_tells1 1 = .ok (.getfield 26, 3) := by decide +kernel
theorem dX9_tells1_4 : decode cX9_tells1 4 = .ok (.iconst 3, 1) := by decide +kernel
theorem dX9_tells1_5 : decode cX9_tells1 5 = .ok (.iload_n 1, 1) := by decide +kernel
theorem dX9_tells1_6 : decode cX9_tells1 6 = .ok (.imul, 1) := by decide +kernel
theorem dX9_tells1_7 : decode cX9_tells1 7 = .ok (.iconst 1, 1) := by decide +kernel
theorem dX9_tells1_8 : decode cX9_tells1 8 = .ok (.iadd, 1) := by decide +kernel
theorem dX9_tells1_9 : decode cX9_tells1 9 = .ok (.iaload, 1) := by decide +kernel
theorem dX9_tells1_10 : decode cX9_tells1 10 = .ok (.istore_n 2, 1) := by decide +kernel
theorem dX9_tells1_11 : decode cX9_tells1 11 = .ok (.aload_n 0, 1) := by decide +kernel
theorem dX9_tells1_12 : decode cX9_tells1 12 = .ok (.getfield 26, 3) := by decide +kernel
theorem dX9_tells1_15 : decode cX9_tells1 15 = .ok (.iconst 3, 1) := by decide +kernel
theorem dX9_tells1_16 : decode cX9_tells1 16 = .ok (.iload_n 1, 1) := by decide +kernel
theorem dX9_tells1_17 : decode cX9_tells1 17 = .ok (.imul, 1) := by decide +kernel
theorem dX9_tells1_18 : decode cX9_tells1 18 = .ok (.iconst 2, 1) := by decide +kernel
theorem dX9_tells1_19 : decode cX9_tells1 19 = .ok (.iadd, 1) := by decide +kernel
theorem dX9_tells1_20 : decode cX9_tells1 20 = .ok (.aload_n 0, 1) := by decide +kernel
theorem dX9_tells1_21 : decode cX9_tells1 21 = .ok (.getfield 26, 3) := by decide +kernel
theorem dX9_tells1_24 : decode cX9_tells1 24 = .ok (.iconst 3, 1) := by decide +kernel
theorem dX9_tells1_25 : decode cX9_tells1 25 = .ok (.iload_n 1, 1) := by decide +kernel
theorem dX9_tells1_26 : decode cX9_tells1 26 = .ok (.imul, 1) := by decide +kernel
theorem dX9_tells1_27 : decode cX9_tells1 27 = .ok (.iconst 2, 1) := by decide +kernel
theorem dX9_tells1_28 : decode cX9_tells1 28 = .ok (.iadd, 1) := by decide +kernel
theorem dX9_tells1_29 : decode cX9_tells1 29 = .ok (.iaload, 1) := by decide +kernel
theorem dX9_tells1_30 : decode cX9_tells1 30 = .ok (.iconst 1, 1) := by decide +kernel
theorem dX9_tells1_31 : decode cX9_tells1 31 = .ok (.iadd, 1) := by decide +kernel
theorem dX9_tells1_32 : decode cX9_tells1 32 = .ok (.iconst 0, 1) := by decide +kernel
theorem dX9_tells1_33 : decode cX9_tells1 33 = .ok (.bipush 99, 2) := by decide +kernel
theorem dX9_tells1_35 : decode cX9_tells1 35 = .ok (.invokestatic 251, 3) := by decide +kernel
theorem dX9_tells1_38 : decode cX9_tells1 38 = .ok (.iastore, 1) := by decide +kernel
theorem dX9_tells1_39 : decode cX9_tells1 39 = .ok (.aload_n 0, 1) := by decide +kernel
theorem dX9_tells1_40 : decode cX9_tells1 40 = .ok (.getfield 26, 3) := by decide +kernel
theorem dX9_tells1_43 : decode cX9_tells1 43 = .ok (.iconst 3, 1) := by decide +kernel
theorem dX9_tells1_44 : decode cX9_tells1 44 = .ok (.iload_n 1, 1) := by decide +kernel
theorem dX9_tells1_45 : decode cX9_tells1 45 = .ok (.imul, 1) := by decide +kernel
theorem dX9_tells1_46 : decode cX9_tells1 46 = .ok (.iconst 1, 1) := by decide +kernel
theorem dX9_tells1_47 : decode cX9_tells1 47 = .ok (.iadd, 1) := by decide +kernel
theorem dX9_tells1_48 : decode cX9_tells1 48 = .ok (.iconst 0, 1) := by decide +kernel
theorem dX9_tells1_49 : decode cX9_tells1 49 = .ok (.iastore, 1) := by decide +kernel
theorem dX9_tells1_50 : decode cX9_tells1 50 = .ok (.iload_n 2, 1) := by decide +kernel
theorem dX9_tells1_51 : decode cX9_tells1 51 = .ok (.ireturn, 1) := by decide +kernel
set_option maxRecDepth 20000 in
theorem ggX9_news_X9_isOne : GoodIn wsX9_news wsX9_isOne := goodIn_r _ [5, 6, 7, 8, 4, 9, 18, 19, 20, 21, 22, 23, 24, 25, 26, 27, 28, 29, 30, 31, 32, 33, 34, 35, 36, 37, 38, 39, 40, 41, 42, 43, 44, 45, 46, 47, 48, 49, 50, 51, 52, 53, 54, 55, 56, 57, 58, 59, 60, 61] (by decide +kernel) (by decide +kernel)
set_option maxRecDepth 20000 in
theorem gX9_news_X9_isOne : GoodIn wsX9_news (wsV RX9 90 RX9 yX9_isOne wsX9_isOne) := goodIn_app (goodIn_of _ (by decide +kernel)) ggX9_news_X9_isOne
set_option maxRecDepth 20000 in
theorem ggX9_news_X9_tells1 : GoodIn wsX9_news wsX9_tells1 := goodIn_r _ [13, 14, 15, 16, 4, 17, 18, 19, 20, 21, 22, 23, 24, 25, 26, 27, 28, 29, 30, 31, 32, 33, 34, 35, 36, 37, 38, 39, 40, 41, 42, 43, 44, 45, 46, 47, 48, 49, 50, 51, 52, 53, 54, 55, 56, 57, 58, 59, 60, 61] (by decide +kernel) (by decide +kernel)
set_option maxRecDepth 20000 in
theorem gX9_news_X9_tells1 : GoodIn wsX9_news (wsV RX9 281 RX9 yX9_tells1 wsX9_tells1) := goodIn_app (goodIn_of _ (by decide +kernel)) ggX9_news_X9_tells1
theorem dX9_news_0 : decode cX9_news 0 = .ok (.aload_n 0, 1) := by decide +kernel
theorem dX9_news_1 : decode cX9_news 1 = .ok (.iload_n 1, 1) := by decide +kernel
theorem dX9_news_2 : decode cX9_news 2 = .ok (.invokevirtual 90, 3) := by decide +kernel
theorem dX9_news_5 : decode cX9_news 5 = .ok (.ifCond .eq 11, 3) := by decide +kernel
theorem dX9_news_8 : decode cX9_news 8 = .ok (.aload_n 0, 1) := by decide +kernel
theorem dX9_news_9 : decode cX9_news 9 = .ok (.iload_n 1, 1) := by decide +kernel
theorem dX9_news_10 : decode cX9_news 10 = .ok (.invokevirtual 281, 3) := by decide +kernel
theorem dX9_news_13 : decode cX9_news 13 = .ok (.goto 5, 3) := by decide +kernel
theorem dX9_news_16 : decode cX9_news 16 = .ok (.bipush (-2), 2) := by decide +kernel
theorem dX9_news_18 : decode cX9_news 18 = .ok (.ireturn, 1) := by decide +kernel
theorem dX9_laysAside_0 : decode cX9_laysAside 0 = .ok (.iconst 0, 1) := by decide +kernel
theorem dX9_laysAside_1 : decode cX9_laysAside 1 = .ok (.istore_n 1, 1) := by decide +kernel
theorem dX9_laysAside_2 : decode cX9_laysAside 2 = .ok (.iload_n 1, 1) := by decide +kernel
theorem dX9_laysAside_3 : decode cX9_laysAside 3 = .ok (.bipush 15, 2) := by decide +kernel
theorem dX9_laysAside_5 : decode cX9_laysAside 5 = .ok (.if_icmp .ge 21, 3) := by decide +kernel
theorem dX9_laysAside_8 : decode cX9_laysAside 8 = .ok (.aload_n 0, 1) := by decide +kernel
theorem dX9_laysAside_9 : decode cX9_laysAside 9 = .ok (.getfield 45, 3) := by decide +kernel
theorem dX9_laysAside_12 : decode cX9_laysAside 12 = .ok (.iload_n 1, 1) := by decide +kernel
theorem dX9_laysAside_13 : decode cX9_laysAside 13 = .ok (.aload_n 0, 1) := by decide +kernel
theorem dX9_laysAside_14 : decode cX9_laysAside 14 = .ok (.getfield 26, 3) := by decide +kernel
theorem dX9_laysAside_17 : decode cX9_laysAside 17 = .ok (.iload_n 1, 1) := by decide +kernel
theorem dX9_laysAside_18 : decode cX9_laysAside 18 = .ok (.iaload, 1) := by decide +kernel
theorem dX9_laysAside_19 : decode cX9_laysAside 19 = .ok (.iastore, 1) := by decide +kernel
theorem dX9_laysAside_20 : decode cX9_laysAside 20 = .ok (.iinc 1 1, 3) := by decide +kernel
theorem dX9_laysAside_23 : decode cX9_laysAside 23 = .ok (.goto (-21), 3) := by decide +kernel
theorem dX9_laysAside_26 : decode cX9_laysAside 26 = .ok (.iconst 0, 1) := by decide +kernel
theorem dX9_laysAside_27 : decode cX9_laysAside 27 = .ok (.istore_n 1, 1) := by decide +kernel
theorem dX9_laysAside_28 : decode cX9_laysAside 28 = .ok (.iload_n 1, 1) := by decide +kernel
theorem dX9_laysAside_29 : decode cX9_laysAside 29 = .ok (.bipush 18, 2) := by decide +kernel
theorem dX9_laysAside_31 : decode cX9_laysAside 31 = .ok (.if_icmp .ge 24, 3) := by decide +kernel
theorem dX9_laysAside_34 : decode cX9_laysAside 34 = .ok (.aload_n 0, 1) := by decide +kernel
theorem dX9_laysAside_35 : decode cX9_laysAside 35 = .ok (.getfield 45, 3) := by decide +kernel
theorem dX9_laysAside_38 : decode cX9_laysAside 38 = .ok (.bipush 15, 2) := by decide +kernel
theorem dX9_laysAside_40 : decode cX9_laysAside 40 = .ok (.iload_n 1, 1) := by decide +kernel
theorem dX9_laysAside_41 : decode cX9_laysAside 41 = .ok (.iadd, 1) := by decide +kernel
theorem dX9_laysAside_42 : decode cX9_laysAside 42 = .ok (.aload_n 0, 1) := by decide +kernel
theorem dX9_laysAside_43 : decode cX9_laysAside 43 = .ok (.getfield 29, 3) := by decide +kernel
theorem dX9_laysAside_46 : decode cX9_laysAside 46 = .ok (.iload_n 1, 1) := by decide +kernel
theorem dX9_laysAside_47 : decode cX9_laysAside 47 = .ok (.iaload, 1) := by decide +kernel
theorem dX9_laysAside_48 : decode cX9_laysAside 48 = .ok (.iastore, 1) := by decide +kernel
theorem dX9_laysAside_49 : decode cX9_laysAside 49 = .ok (.iinc 1 1, 3) := by decide +kernel
theorem dX9_laysAside_52 : decode cX9_laysAside 52 = .ok (.goto (-24), 3) := by decide +kernel
theorem dX9_laysAside_55 : decode cX9_laysAside 55 = .ok (.aload_n 0, 1) := by decide +kernel
theorem dX9_laysAside_56 : decode cX9_laysAside 56 = .ok (.getfield 45, 3) := by decide +kernel
theorem dX9_laysAside_59 : decode cX9_laysAside 59 = .ok (.bipush 33, 2) := by decide +kernel
theorem dX9_laysAside_61 : decode cX9_laysAside 61 = .ok (.aload_n 0, 1) := by decide +kernel
theorem dX9_laysAside_62 : decode cX9_laysAside 62 = .ok (.getfield 111, 3) := by decide +kernel
theorem dX9_laysAside_65 : decode cX9_laysAside 65 = .ok (.iastore, 1) := by decide +kernel
theorem dX9_laysAside_66 : decode cX9_laysAside 66 = .ok (.return_, 1) := by decide +kernel
theorem dX9_laysBack_0 : decode cX9_laysBack 0 = .ok (.iconst 0, 1) := by decide +kernel
theorem dX9_laysBack_1 : decode cX9_laysBack 1 = .ok (.istore_n 1, 1) := by decide +kernel
theorem dX9_laysBack_2 : decode cX9_laysBack 2 = .ok (.iload_n 1, 1) := by decide +kernel
theorem dX9_laysBack_3 : decode cX9_laysBack 3 = .ok (.bipush 15, 2) := by decide +kernel
theorem dX9_laysBack_5 : decode cX9_laysBack 5 = .ok (.if_icmp .ge 21, 3) := by decide +kernel
theorem dX9_laysBack_8 : decode cX9_laysBack 8 = .ok (.aload_n 0, 1) := by decide +kernel
theorem dX9_laysBack_9 : decode cX9_laysBack 9 = .ok (.getfield 26, 3) := by decide +kernel
theorem dX9_laysBack_12 : decode cX9_laysBack 12 = .ok (.iload_n 1, 1) := by decide +kernel
theorem dX9_laysBack_13 : decode cX9_laysBack 13 = .ok (.aload_n 0, 1) := by decide +kernel
theorem dX9_laysBack_14 : decode cX9_laysBack 14 = .ok (.getfield 45, 3) := by decide +kernel
theorem dX9_laysBack_17 : decode cX9_laysBack 17 = .ok (.iload_n 1, 1) := by decide +kernel
theorem dX9_laysBack_18 : decode cX9_laysBack 18 = .ok (.iaload, 1) := by decide +kernel
theorem dX9_laysBack_19 : decode cX9_laysBack 19 = .ok (.iastore, 1) := by decide +kernel
theorem dX9_laysBack_20 : decode cX9_laysBack 20 = .ok (.iinc 1 1, 3) := by decide +kernel
theorem dX9_laysBack_23 : decode cX9_laysBack 23 = .ok (.goto (-21), 3) := by decide +kernel
theorem dX9_laysBack_26 : decode cX9_laysBack 26 = .ok (.iconst 0, 1) := by decide +kernel
theorem dX9_laysBack_27 : decode cX9_laysBack 27 = .ok (.istore_n 1, 1) := by decide +kernel
theorem dX9_laysBack_28 : decode cX9_laysBack 28 = .ok (.iload_n 1, 1) := by decide +kernel
theorem dX9_laysBack_29 : decode cX9_laysBack 29 = .ok (.bipush 18, 2) := by decide +kernel
theorem dX9_laysBack_31 : decode cX9_laysBack 31 = .ok (.if_icmp .ge 24, 3) := by decide +kernel
theorem dX9_laysBack_34 : decode cX9_laysBack 34 = .ok (.aload_n 0, 1) := by decide +kernel
theorem dX9_laysBack_35 : decode cX9_laysBack 35 = .ok (.getfield 29, 3) := by decide +kernel
theorem dX9_laysBack_38 : decode cX9_laysBack 38 = .ok (.iload_n 1, 1) := by decide +kernel
theorem dX9_laysBack_39 : decode cX9_laysBack 39 = .ok (.aload_n 0, 1) := by decide +kernel
theorem dX9_laysBack_40 : decode cX9_laysBack 40 = .ok (.getfield 45, 3) := by decide +kernel
theorem dX9_laysBack_43 : decode cX9_laysBack 43 = .ok (.bipush 15, 2) := by decide +kernel
theorem dX9_laysBack_45 : decode cX9_laysBack 45 = .ok (.iload_n 1, 1) := by decide +kernel
theorem dX9_laysBack_46 : decode cX9_laysBack 46 = .ok (.iadd, 1) := by decide +kernel
theorem dX9_laysBack_47 : decode cX9_laysBack 47 = .ok (.iaload, 1) := by decide +kernel
theorem dX9_laysBack_48 : decode cX9_laysBack 48 = .ok (.iastore, 1) := by decide +kernel
theorem dX9_laysBack_49 : decode cX9_laysBack 49 = .ok (.iinc 1 1, 3) := by decide +kernel
theorem dX9_laysBack_52 : decode cX9_laysBack 52 = .ok (.goto (-24), 3) := by decide +kernel
theorem dX9_laysBack_55 : decode cX9_laysBack 55 = .ok (.aload_n 0, 1) := by decide +kernel
theorem dX9_laysBack_56 : decode cX9_laysBack 56 = .ok (.aload_n 0, 1) := by decide +kernel
theorem dX9_laysBack_57 : decode cX9_laysBack 57 = .ok (.getfield 45, 3) := by decide +kernel
theorem dX9_laysBack_60 : decode cX9_laysBack 60 = .ok (.bipush 33, 2) := by decide +kernel
theorem dX9_laysBack_62 : decode cX9_laysBack 62 = .ok (.iaload, 1) := by decide +kernel
theorem dX9_laysBack_63 : decode cX9_laysBack 63 = .ok (.putfield 111, 3) := by decide +kernel
theorem dX9_laysBack_66 : decode cX9_laysBack 66 = .ok (.return_, 1) := by decide +kernel
set_option maxRecDepth 20000 in
theorem ggX9_run_X9_isOne : GoodIn wsX9_run wsX9_isOne := goodIn_r _ [9, 10, 11, 12, 8, 13, 157, 158, 159, 160, 161, 162, 163, 164, 165, 166, 167, 168, 169, 170, 171, 172, 173, 174, 175, 176, 177, 178, 179, 180, 181, 182, 183, 184, 185, 186, 187, 188, 189, 190, 191, 192, 193, 194, 195, 196, 197, 198, 199, 200] (by decide +kernel) (by decide +kernel)
set_option maxRecDepth 20000 in
theorem gX9_run_X9_isOne : GoodIn wsX9_run (wsV RX9 90 RX9 yX9_isOne wsX9_isOne) := goodIn_app (goodIn_of _ (by decide +kernel)) ggX9_run_X9_isOne
set_option maxRecDepth 20000 in
theorem ggX9_run_X9_isCup : GoodIn wsX9_run wsX9_isCup := goodIn_r _ [16, 17, 11, 12, 8, 13] (by decide +kernel) (by decide +kernel)
set_option maxRecDepth 20000 in
theorem gX9_run_X9_isCup : GoodIn wsX9_run (va_wsS RX9 86 yX9_isCup wsX9_isCup) := goodIn_app (goodIn_of _ (by decide +kernel)) ggX9_run_X9_isCup
set_option maxRecDepth 20000 in
theorem ggX9_run_X9_in : GoodIn wsX9_run wsX9_in := goodIn_r _ [13] (by decide +kernel) (by decide +kernel)
set_option maxRecDepth 20000 in
theorem gX9_run_X9_in : GoodIn wsX9_run (va_wsS RX9 80 yX9_in wsX9_in) := goodIn_app (goodIn_of _ (by decide +kernel)) ggX9_run_X9_in
set_option maxRecDepth 20000 in
theorem ggX9_run_X9_laysAside : GoodIn wsX9_run wsX9_laysAside := goodIn_r _ [21, 22, 3, 4, 23, 157, 158, 159, 160, 161, 162, 163, 164, 165, 166, 167, 168, 169, 170, 171, 172, 173, 174, 175, 176, 177, 178, 179, 180, 181, 182, 183, 184, 185, 186, 187, 188, 189, 190, 191, 192, 193, 194, 195, 196, 197, 198, 199, 200] (by decide +kernel) (by decide +kernel)
set_option maxRecDepth 20000 in
theorem gX9_run_X9_laysAside : GoodIn wsX9_run (wsV RX9 288 RX9 yX9_laysAside wsX9_laysAside) := goodIn_app (goodIn_of _ (by decide +kernel)) ggX9_run_X9_laysAside
set_option maxRecDepth 20000 in
theorem ggX9_run_X9_passes : GoodIn wsX9_run wsX9_passes := goodIn_r _ [27, 4, 10, 28, 29, 3, 23, 30, 31, 32, 8, 33, 34, 35, 36, 37, 38, 39, 40, 41, 42, 43, 44, 45, 46, 47, 48, 49, 50, 51, 52, 53, 54, 55, 56, 57, 58, 59, 60, 61, 62, 63, 64, 65, 66, 67, 68, 69, 70, 71, 72, 73, 74, 75, 76, 77, 78, 79, 80, 81, 82, 83, 84, 85, 86, 11, 12, 13, 87, 88, 89, 90, 91, 92, 93, 94, 95, 96, 97, 98, 99, 100, 101, 102, 103, 104, 105, 106, 107, 108, 109, 110, 111, 112, 113, 114, 115, 116, 117, 118, 119, 120, 121, 122, 123, 124, 125, 126, 127, 128, 129, 130, 131, 132, 133, 134, 135, 136, 137, 138, 139, 140, 141, 142, 143, 144, 145, 146, 147, 148, 149, 150, 151, 152, 157, 158, 159, 160, 161, 162, 163, 164, 165, 166, 167, 168, 169, 170, 171, 172, 173, 174, 175, 176, 177, 178, 179, 180, 181, 182, 183, 184, 185, 186, 187, 188, 189, 190, 191, 192, 193, 194, 195, 196, 197, 198, 199, 200] (by decide +kernel) (by decide +kernel)
set_option maxRecDepth 20000 in
theorem gX9_run_X9_passes : GoodIn wsX9_run (wsV RX9 278 RX9 yX9_passes wsX9_passes) := goodIn_app (goodIn_of _ (by decide +kernel)) ggX9_run_X9_passes
set_option maxRecDepth 20000 in
theorem ggX9_run_X9_laysBack : GoodIn wsX9_run wsX9_laysBack := goodIn_r _ [156, 3, 22, 4, 23, 157, 158, 159, 160, 161, 162, 163, 164, 165, 166, 167, 168, 169, 170, 171, 172, 173, 174, 175, 176, 177, 178, 179, 180, 181, 182, 183, 184, 185, 186, 187, 188, 189, 190, 191, 192, 193, 194, 195, 196, 197, 198, 199, 200] (by decide +kernel) (by decide +kernel)
set_option maxRecDepth 20000 in
theorem gX9_run_X9_laysBack : GoodIn wsX9_run (wsV RX9 291 RX9 yX9_laysBack wsX9_laysBack) := goodIn_app (goodIn_of _ (by decide +kernel)) ggX9_run_X9_laysBack
theorem dX9_run_0 : decode cX9_run 0 = .ok (.aload_n 0, 1) := by decide +kernel
theorem dX9_run_1 : decode cX9_run 1 = .ok (.iload_n 1, 1) := by decide +kernel
theorem dX9_run_2 : decode cX9_run 2 = .ok (.invokevirtual 90, 3) := by decide +kernel
theorem dX9_run_5 : decode cX9_run 5 = .ok (.ifCond .eq 35, 3) := by decide +kernel
theorem dX9_run_8 : decode cX9_run 8 = .ok (.iload_n 2, 1) := by decide +kernel
theorem dX9_run_9 : decode cX9_run 9 = .ok (.invokestatic 86, 3) := by decide +kernel
theorem dX9_run_12 : decode cX9_run 12 = .ok (.ifCond .eq 28, 3) := by decide +kernel
theorem dX9_run_15 : decode cX9_run 15 = .ok (.iload_n 3, 1) := by decide +kernel
theorem dX9_run_16 : decode cX9_run 16 = .ok (.i2l, 1) := by decide +kernel
theorem dX9_run_17 : decode cX9_run 17 = .ok (.lconst 0, 1) := by decide +kernel
theorem dX9_run_18 : decode cX9_run 18 = .ok (.ldc2_w 284, 3) := by decide +kernel
theorem dX9_run_21 : decode cX9_run 21 = .ok (.invokestatic 80, 3) := by decide +kernel
theorem dX9_run_24 : decode cX9_run 24 = .ok (.ifCond .eq 16, 3) := by decide +kernel
theorem dX9_run_27 : decode cX9_run 27 = .ok (.iload 4, 2) := by decide +kernel
theorem dX9_run_29 : decode cX9_run 29 = .ok (.i2l, 1) := by decide +kernel
theorem dX9_run_30 : decode cX9_run 30 = .ok (.lconst 0, 1) := by decide +kernel
theorem dX9_run_31 : decode cX9_run 31 = .ok (.ldc2_w 286, 3) := by decide +kernel
theorem dX9_run_34 : decode cX9_run 34 = .ok (.invokestatic 80, 3) := by decide +kernel
theorem dX9_run_37 : decode cX9_run 37 = .ok (.ifCond .ne 6, 3) := by decide +kernel
theorem dX9_run_40 : decode cX9_run 40 = .ok (.bipush (-2), 2) := by decide +kernel
theorem dX9_run_42 : decode cX9_run 42 = .ok (.ireturn, 1) := by decide +kernel
theorem dX9_run_43 : decode cX9_run 43 = .ok (.aload_n 0, 1) := by decide +kernel
theorem dX9_run_44 : decode cX9_run 44 = .ok (.invokevirtual 288, 3) := by decide +kernel
theorem dX9_run_47 : decode cX9_run 47 = .ok (.iconst 0, 1) := by decide +kernel
theorem dX9_run_48 : decode cX9_run 48 = .ok (.istore 5, 2) := by decide +kernel
theorem dX9_run_50 : decode cX9_run 50 = .ok (.iconst 0, 1) := by decide +kernel
theorem dX9_run_51 : decode cX9_run 51 = .ok (.istore 6, 2) := by decide +kernel
theorem dX9_run_53 : decode cX9_run 53 = .ok (.iload 6, 2) := by decide +kernel
theorem dX9_run_55 : decode cX9_run 55 = .ok (.iload_n 3, 1) := by decide +kernel
theorem dX9_run_56 : decode cX9_run 56 = .ok (.if_icmp .ge 18, 3) := by decide +kernel
theorem dX9_run_59 : decode cX9_run 59 = .ok (.iload 5, 2) := by decide +kernel
theorem dX9_run_61 : decode cX9_run 61 = .ok (.aload_n 0, 1) := by decide +kernel
theorem dX9_run_62 : decode cX9_run 62 = .ok (.invokevirtual 278, 3) := by decide +kernel
theorem dX9_run_65 : decode cX9_run 65 = .ok (.iadd, 1) := by decide +kernel
theorem dX9_run_66 : decode cX9_run 66 = .ok (.istore 5, 2) := by decide +kernel
theorem dX9_run_68 : decode cX9_run 68 = .ok (.iinc 6 1, 3) := by decide +kernel
theorem dX9_run_71 : decode cX9_run 71 = .ok (.goto (-18), 3) := by decide +kernel
theorem dX9_run_74 : decode cX9_run 74 = .ok (.iload 4, 2) := by decide +kernel
theorem dX9_run_76 : decode cX9_run 76 = .ok (.ifCond .ne 16, 3) := by decide +kernel
theorem dX9_run_79 : decode cX9_run 79 = .ok (.aload_n 0, 1) := by decide +kernel
theorem dX9_run_80 : decode cX9_run 80 = .ok (.getfield 26, 3) := by decide +kernel
theorem dX9_run_83 : decode cX9_run 83 = .ok (.iconst 3, 1) := by decide +kernel
theorem dX9_run_84 : decode cX9_run 84 = .ok (.iload_n 1, 1) := by decide +kernel
theorem dX9_run_85 : decode cX9_run 85 = .ok (.imul, 1) := by decide +kernel
theorem dX9_run_86 : decode cX9_run 86 = .ok (.iconst 1, 1) := by decide +kernel
theorem dX9_run_87 : decode cX9_run 87 = .ok (.iadd, 1) := by decide +kernel
theorem dX9_run_88 : decode cX9_run 88 = .ok (.iaload, 1) := by decide +kernel
theorem dX9_run_89 : decode cX9_run 89 = .ok (.goto 24, 3) := by decide +kernel
theorem dX9_run_92 : decode cX9_run 92 = .ok (.iload 4, 2) := by decide +kernel
theorem dX9_run_94 : decode cX9_run 94 = .ok (.iconst 1, 1) := by decide +kernel
theorem dX9_run_95 : decode cX9_run 95 = .ok (.if_icmp .ne 8, 3) := by decide +kernel
theorem dX9_run_98 : decode cX9_run 98 = .ok (.iload 5, 2) := by decide +kernel
theorem dX9_run_100 : decode cX9_run 100 = .ok (.goto 13, 3) := by decide +kernel
theorem dX9_run_103 : decode cX9_run 103 = .ok (.aload_n 0, 1) := by decide +kernel
theorem dX9_run_104 : decode cX9_run 104 = .ok (.getfield 29, 3) := by decide +kernel
theorem dX9_run_107 : decode cX9_run 107 = .ok (.iconst 3, 1) := by decide +kernel
theorem dX9_run_108 : decode cX9_run 108 = .ok (.iload_n 2, 1) := by decide +kernel
theorem dX9_run_109 : decode cX9_run 109 = .ok (.imul, 1) := by decide +kernel
theorem dX9_run_110 : decode cX9_run 110 = .ok (.iconst 2, 1) := by decide +kernel
theorem dX9_run_111 : decode cX9_run 111 = .ok (.iadd, 1) := by decide +kernel
theorem dX9_run_112 : decode cX9_run 112 = .ok (.iaload, 1) := by decide +kernel
theorem dX9_run_113 : decode cX9_run 113 = .ok (.istore 6, 2) := by decide +kernel
theorem dX9_run_115 : decode cX9_run 115 = .ok (.aload_n 0, 1) := by decide +kernel
theorem dX9_run_116 : decode cX9_run 116 = .ok (.invokevirtual 291, 3) := by decide +kernel
theorem dX9_run_119 : decode cX9_run 119 = .ok (.iload 6, 2) := by decide +kernel
theorem dX9_run_121 : decode cX9_run 121 = .ok (.ireturn, 1) := by decide +kernel
set_option maxRecDepth 20000 in
theorem ggX9_sleeps_X9_isOne : GoodIn wsX9_sleeps wsX9_isOne := goodIn_r _ [6, 7, 8, 9, 5, 10, 151, 152, 153, 154, 155, 156, 157, 158, 159, 160, 161, 162, 163, 164, 165, 166, 167, 168, 169, 170, 171, 172, 173, 174, 175, 176, 177, 178, 179, 180, 181, 182, 183, 184, 185, 186, 187, 188, 189, 190, 191, 192, 193, 194] (by decide +kernel) (by decide +kernel)
set_option maxRecDepth 20000 in
theorem gX9_sleeps_X9_isOne : GoodIn wsX9_sleeps (wsV RX9 90 RX9 yX9_isOne wsX9_isOne) := goodIn_app (goodIn_of _ (by decide +kernel)) ggX9_sleeps_X9_isOne
set_option maxRecDepth 20000 in
theorem ggX9_sleeps_X9_laysAside : GoodIn wsX9_sleeps wsX9_laysAside := goodIn_r _ [14, 15, 1, 16, 17, 151, 152, 153, 154, 155, 156, 157, 158, 159, 160, 161, 162, 163, 164, 165, 166, 167, 168, 169, 170, 171, 172, 173, 174, 175, 176, 177, 178, 179, 180, 181, 182, 183, 184, 185, 186, 187, 188, 189, 190, 191, 192, 193, 194] (by decide +kernel) (by decide +kernel)
set_option maxRecDepth 20000 in
theorem gX9_sleeps_X9_laysAside : GoodIn wsX9_sleeps (wsV RX9 288 RX9 yX9_laysAside wsX9_laysAside) := goodIn_app (goodIn_of _ (by decide +kernel)) ggX9_sleeps_X9_laysAside
set_option maxRecDepth 20000 in
theorem ggX9_sleeps_X9_passes : GoodIn wsX9_sleeps wsX9_passes := goodIn_r _ [21, 16, 7, 22, 23, 1, 17, 24, 25, 26, 5, 27, 28, 29, 30, 31, 32, 33, 34, 35, 36, 37, 38, 39, 40, 41, 42, 43, 44, 45, 46, 47, 48, 49, 50, 51, 52, 53, 54, 55, 56, 57, 58, 59, 60, 61, 62, 63, 64, 65, 66, 67, 68, 69, 70, 71, 72, 73, 74, 75, 76, 77, 78, 79, 80, 8, 9, 10, 81, 82, 83, 84, 85, 86, 87, 88, 89, 90, 91, 92, 93, 94, 95, 96, 97, 98, 99, 100, 101, 102, 103, 104, 105, 106, 107, 108, 109, 110, 111, 112, 113, 114, 115, 116, 117, 118, 119, 120, 121, 122, 123, 124, 125, 126, 127, 128, 129, 130, 131, 132, 133, 134, 135, 136, 137, 138, 139, 140, 141, 142, 143, 144, 145, 146, 151, 152, 153, 154, 155, 156, 157, 158, 159, 160, 161, 162, 163, 164, 165, 166, 167, 168, 169, 170, 171, 172, 173, 174, 175, 176, 177, 178, 179, 180, 181, 182, 183, 184, 185, 186, 187, 188, 189, 190, 191, 192, 193, 194] (by decide +kernel) (by decide +kernel)
set_option maxRecDepth 20000 in
theorem gX9_sleeps_X9_passes : GoodIn wsX9_sleeps (wsV RX9 278 RX9 yX9_passes wsX9_passes) := goodIn_app (goodIn_of _ (by decide +kernel)) ggX9_sleeps_X9_passes
set_option maxRecDepth 20000 in
theorem ggX9_sleeps_X9_laysBack : GoodIn wsX9_sleeps wsX9_laysBack := goodIn_r _ [150, 1, 15, 16, 17, 151, 152, 153, 154, 155, 156, 157, 158, 159, 160, 161, 162, 163, 164, 165, 166, 167, 168, 169, 170, 171, 172, 173, 174, 175, 176, 177, 178, 179, 180, 181, 182, 183, 184, 185, 186, 187, 188, 189, 190, 191, 192, 193, 194] (by decide +kernel) (by decide +kernel)
set_option maxRecDepth 20000 in
theorem gX9_sleeps_X9_laysBack : GoodIn wsX9_sleeps (wsV RX9 291 RX9 yX9_laysBack wsX9_laysBack) := goodIn_app (goodIn_of _ (by decide +kernel)) ggX9_sleeps_X9_laysBack
theorem dX9_sleeps_0 : decode cX9_sleeps 0 = .ok (.aload_n 0, 1) := by decide +kernel
theorem dX9_sleeps_1 : decode cX9_sleeps 1 = .ok (.iload_n 1, 1) := by decide +kernel
theorem dX9_sleeps_2 : decode cX9_sleeps 2 = .ok (.invokevirtual 90, 3) := by decide +kernel
theorem dX9_sleeps_5 : decode cX9_sleeps 5 = .ok (.ifCond .ne 6, 3) := by decide +kernel
theorem dX9_sleeps_8 : decode cX9_sleeps 8 = .ok (.bipush (-2), 2) := by decide +kernel
theorem dX9_sleeps_10 : decode cX9_sleeps 10 = .ok (.ireturn, 1) := by decide +kernel
theorem dX9_sleeps_11 : decode cX9_sleeps 11 = .ok (.aload_n 0, 1) := by decide +kernel
theorem dX9_sleeps_12 : decode cX9_sleeps 12 = .ok (.invokevirtual 288, 3) := by decide +kernel
theorem dX9_sleeps_15 : decode cX9_sleeps 15 = .ok (.iconst 0, 1) := by decide +kernel
theorem dX9_sleeps_16 : decode cX9_sleeps 16 = .ok (.istore_n 2, 1) := by decide +kernel
theorem dX9_sleeps_17 : decode cX9_sleeps 17 = .ok (.iload_n 2, 1) := by decide +kernel
theorem dX9_sleeps_18 : decode cX9_sleeps 18 = .ok (.bipush 60, 2) := by decide +kernel
theorem dX9_sleeps_20 : decode cX9_sleeps 20 = .ok (.if_icmp .gt 27, 3) := by decide +kernel
theorem dX9_sleeps_23 : decode cX9_sleeps 23 = .ok (.aload_n 0, 1) := by decide +kernel
theorem dX9_sleeps_24 : decode cX9_sleeps 24 = .ok (.getfield 26, 3) := by decide +kernel
theorem dX9_sleeps_27 : decode cX9_sleeps 27 = .ok (.iconst 3, 1) := by decide +kernel
theorem dX9_sleeps_28 : decode cX9_sleeps 28 = .ok (.iload_n 1, 1) := by decide +kernel
theorem dX9_sleeps_29 : decode cX9_sleeps 29 = .ok (.imul, 1) := by decide +kernel
theorem dX9_sleeps_30 : decode cX9_sleeps 30 = .ok (.iconst 1, 1) := by decide +kernel
theorem dX9_sleeps_31 : decode cX9_sleeps 31 = .ok (.iadd, 1) := by decide +kernel
theorem dX9_sleeps_32 : decode cX9_sleeps 32 = .ok (.iaload, 1) := by decide +kernel
theorem dX9_sleeps_33 : decode cX9_sleeps 33 = .ok (.ifCond .eq 14, 3) := by decide +kernel
theorem dX9_sleeps_36 : decode cX9_sleeps 36 = .ok (.aload_n 0, 1) := by decide +kernel
theorem dX9_sleeps_37 : decode cX9_sleeps 37 = .ok (.invokevirtual 278, 3) := by decide +kernel
theorem dX9_sleeps_40 : decode cX9_sleeps 40 = .ok (.pop, 1) := by decide +kernel
theorem dX9_sleeps_41 : decode cX9_sleeps 41 = .ok (.iinc 2 1, 3) := by decide +kernel
theorem dX9_sleeps_44 : decode cX9_sleeps 44 = .ok (.goto (-27), 3) := by decide +kernel
theorem dX9_sleeps_47 : decode cX9_sleeps 47 = .ok (.aload_n 0, 1) := by decide +kernel
theorem dX9_sleeps_48 : decode cX9_sleeps 48 = .ok (.invokevirtual 291, 3) := by decide +kernel
theorem dX9_sleeps_51 : decode cX9_sleeps 51 = .ok (.iload_n 2, 1) := by decide +kernel
theorem dX9_sleeps_52 : decode cX9_sleeps 52 = .ok (.bipush 60, 2) := by decide +kernel
theorem dX9_sleeps_54 : decode cX9_sleeps 54 = .ok (.if_icmp .le 7, 3) := by decide +kernel
theorem dX9_sleeps_57 : decode cX9_sleeps 57 = .ok (.iconst (-1), 1) := by decide +kernel
theorem dX9_sleeps_58 : decode cX9_sleeps 58 = .ok (.goto 4, 3) := by decide +kernel
theorem dX9_sleeps_61 : decode cX9_sleeps 61 = .ok (.iload_n 2, 1) := by decide +kernel
theorem dX9_sleeps_62 : decode cX9_sleeps 62 = .ok (.ireturn, 1) := by decide +kernel
set_option maxRecDepth 20000 in
theorem ggX9_cutOf_X9_suitSet : GoodIn wsX9_cutOf wsX9_suitSet := goodIn_r _ [7, 8, 9, 10, 6, 11, 12, 2, 13, 14, 15, 16, 17, 18, 19, 20, 21, 22, 23, 24, 25, 26, 27, 28, 29, 30, 31, 32, 33, 34, 35, 36, 37, 38, 39, 40, 41, 42, 43, 44, 45, 46, 47, 48, 49, 50, 51, 52, 53, 54, 55, 56, 57, 58, 59, 60, 61, 62, 63, 64, 65, 66, 67, 68, 69, 70, 71, 72, 73, 74, 75, 76, 77, 78, 79, 80, 81, 82, 83, 84, 85, 86, 87, 88, 89, 90, 91, 92, 93, 94, 95, 96, 97, 98, 99, 100, 101, 102, 103, 104, 105, 106, 107, 108, 109, 110, 111, 112, 113, 114, 115, 116, 117, 118, 119, 120, 121, 122, 123, 124, 125, 126, 127, 132, 133, 134, 135, 136, 137, 138, 139, 140, 141, 142, 143, 144, 145, 146, 147, 148, 149, 150, 151, 152, 153, 154, 155, 156, 157, 158, 159, 160, 161, 162, 163, 164, 165, 166, 167, 168, 169, 170, 171, 172, 173, 174, 175] (by decide +kernel) (by decide +kernel)
set_option maxRecDepth 20000 in
theorem gX9_cutOf_X9_suitSet : GoodIn wsX9_cutOf (wsV RX9 129 RX9 yX9_suitSet wsX9_suitSet) := goodIn_app (goodIn_of _ (by decide +kernel)) ggX9_cutOf_X9_suitSet
set_option maxRecDepth 20000 in
theorem ggX9_cutOf_X9_yieldsOf : GoodIn wsX9_cutOf wsX9_yieldsOf := goodIn_r _ [131, 12, 13, 24, 20, 14, 15, 16, 6, 17, 18, 19, 21, 22, 23, 25, 26, 27, 28, 29, 30, 31, 32, 33, 34, 35, 36, 37, 38, 39, 40, 41, 42, 43, 44, 45, 46, 47, 48, 49, 50, 51, 52, 53, 54, 55, 56, 57, 58, 59, 60, 61, 62, 63, 64, 65, 66, 67, 68, 69, 70, 71, 72, 73, 74, 75, 76, 77, 78, 79, 80, 81, 82, 83, 84, 85, 86, 87, 88, 89, 90, 91, 92, 93, 94, 95, 96, 97, 98, 99, 100, 101, 102, 103, 104, 105, 106, 107, 108, 109, 110, 111, 112, 113, 114, 115, 116, 117, 118, 119, 120, 121, 122, 123, 124, 125, 126, 127, 132, 133, 134, 135, 136, 137, 138, 139, 140, 141, 142, 143, 144, 145, 146, 147, 148, 149, 150, 151, 152, 153, 154, 155, 156, 157, 158, 159, 160, 161, 162, 163, 164, 165, 166, 167, 168, 169, 170, 171, 172, 173, 174, 175] (by decide +kernel) (by decide +kernel)
set_option maxRecDepth 20000 in
theorem gX9_cutOf_X9_yieldsOf : GoodIn wsX9_cutOf (wsV RX9 126 RX9 yX9_yieldsOf wsX9_yieldsOf) := goodIn_app (goodIn_of _ (by decide +kernel)) ggX9_cutOf_X9_yieldsOf
set_option maxRecDepth 20000 in
theorem ggX9_cutOf_X9_within : GoodIn wsX9_cutOf wsX9_within := goodIn_r _ [127] (by decide +kernel) (by decide +kernel)
set_option maxRecDepth 20000 in
theorem gX9_cutOf_X9_within : GoodIn wsX9_cutOf (va_wsS RX9 251 yX9_within wsX9_within) := goodIn_app (goodIn_of _ (by decide +kernel)) ggX9_cutOf_X9_within
theorem dX9_cutOf_0 : decode cX9_cutOf 0 = .ok (.iconst 0, 1) := by decide +kernel
theorem dX9_cutOf_1 : decode cX9_cutOf 1 = .ok (.istore 5, 2) := by decide +kernel
theorem dX9_cutOf_3 : decode cX9_cutOf 3 = .ok (.iconst 0, 1) := by decide +kernel
theorem dX9_cutOf_4 : decode cX9_cutOf 4 = .ok (.istore 6, 2) := by decide +kernel
theorem dX9_cutOf_6 : decode cX9_cutOf 6 = .ok (.iconst 0, 1) := by decide +kernel
theorem dX9_cutOf_7 : decode cX9_cutOf 7 = .ok (.istore 7, 2) := by decide +kernel
theorem dX9_cutOf_9 : decode cX9_cutOf 9 = .ok (.iload 7, 2) := by decide +kernel
theorem dX9_cutOf_11 : decode cX9_cutOf 11 = .ok (.aload_n 0, 1) := by decide +kernel
theorem dX9_cutOf_12 : decode cX9_cutOf 12 = .ok (.getfield 77, 3) := by decide +kernel
theorem dX9_cutOf_15 : decode cX9_cutOf 15 = .ok (.if_icmp .ge 54, 3) := by decide +kernel
theorem dX9_cutOf_18 : decode cX9_cutOf 18 = .ok (.iload_n 1, 1) := by decide +kernel
theorem dX9_cutOf_19 : decode cX9_cutOf 19 = .ok (.iload 7, 2) := by decide +kernel
theorem dX9_cutOf_21 : decode cX9_cutOf 21 = .ok (.ishr, 1) := by decide +kernel
theorem dX9_cutOf_22 : decode cX9_cutOf 22 = .ok (.iconst 1, 1) := by decide +kernel
theorem dX9_cutOf_23 : decode cX9_cutOf 23 = .ok (.iand, 1) := by decide +kernel
theorem dX9_cutOf_24 : decode cX9_cutOf 24 = .ok (.iconst 1, 1) := by decide +kernel
theorem dX9_cutOf_25 : decode cX9_cutOf 25 = .ok (.if_icmp .ne 17, 3) := by decide +kernel
theorem dX9_cutOf_28 : decode cX9_cutOf 28 = .ok (.iload 6, 2) := by decide +kernel
theorem dX9_cutOf_30 : decode cX9_cutOf 30 = .ok (.aload_n 0, 1) := by decide +kernel
theorem dX9_cutOf_31 : decode cX9_cutOf 31 = .ok (.iload 7, 2) := by decide +kernel
theorem dX9_cutOf_33 : decode cX9_cutOf 33 = .ok (.invokevirtual 129, 3) := by decide +kernel
theorem dX9_cutOf_36 : decode cX9_cutOf 36 = .ok (.ior, 1) := by decide +kernel
theorem dX9_cutOf_37 : decode cX9_cutOf 37 = .ok (.istore 6, 2) := by decide +kernel
theorem dX9_cutOf_39 : decode cX9_cutOf 39 = .ok (.goto 24, 3) := by decide +kernel
theorem dX9_cutOf_42 : decode cX9_cutOf 42 = .ok (.iload 5, 2) := by decide +kernel
theorem dX9_cutOf_44 : decode cX9_cutOf 44 = .ok (.iload 7, 2) := by decide +kernel
theorem dX9_cutOf_46 : decode cX9_cutOf 46 = .ok (.iload_n 2, 1) := by decide +kernel
theorem dX9_cutOf_47 : decode cX9_cutOf 47 = .ok (.if_icmp .ne 7, 3) := by decide +kernel
theorem dX9_cutOf_50 : decode cX9_cutOf 50 = .ok (.iconst 0, 1) := by decide +kernel
theorem dX9_cutOf_51 : decode cX9_cutOf 51 = .ok (.goto 9, 3) := by decide +kernel
theorem dX9_cutOf_54 : decode cX9_cutOf 54 = .ok (.aload_n 0, 1) := by decide +kernel
theorem dX9_cutOf_55 : decode cX9_cutOf 55 = .ok (.iload 7, 2) := by decide +kernel
theorem dX9_cutOf_57 : decode cX9_cutOf 57 = .ok (.invokevirtual 126, 3) := by decide +kernel
theorem dX9_cutOf_60 : decode cX9_cutOf 60 = .ok (.iadd, 1) := by decide +kernel
theorem dX9_cutOf_61 : decode cX9_cutOf 61 = .ok (.istore 5, 2) := by decide +kernel
theorem dX9_cutOf_63 : decode cX9_cutOf 63 = .ok (.iinc 7 1, 3) := by decide +kernel
theorem dX9_cutOf_66 : decode cX9_cutOf 66 = .ok (.goto (-57), 3) := by decide +kernel
theorem dX9_cutOf_69 : decode cX9_cutOf 69 = .ok (.iconst 0, 1) := by decide +kernel
theorem dX9_cutOf_70 : decode cX9_cutOf 70 = .ok (.istore 7, 2) := by decide +kernel
theorem dX9_cutOf_72 : decode cX9_cutOf 72 = .ok (.iload 7, 2) := by decide +kernel
theorem dX9_cutOf_74 : decode cX9_cutOf 74 = .ok (.bipush 6, 2) := by decide +kernel
theorem dX9_cutOf_76 : decode cX9_cutOf 76 = .ok (.if_icmp .ge 79, 3) := by decide +kernel
theorem dX9_cutOf_79 : decode cX9_cutOf 79 = .ok (.iload 7, 2) := by decide +kernel
theorem dX9_cutOf_81 : decode cX9_cutOf 81 = .ok (.iload_n 3, 1) := by decide +kernel
theorem dX9_cutOf_82 : decode cX9_cutOf 82 = .ok (.if_icmp .ne 7, 3) := by decide +kernel
theorem dX9_cutOf_85 : decode cX9_cutOf 85 = .ok (.iconst 0, 1) := by decide +kernel
theorem dX9_cutOf_86 : decode cX9_cutOf 86 = .ok (.goto 39, 3) := by decide +kernel
theorem dX9_cutOf_89 : decode cX9_cutOf 89 = .ok (.iload 7, 2) := by decide +kernel
theorem dX9_cutOf_91 : decode cX9_cutOf 91 = .ok (.iload 4, 2) := by decide +kernel
theorem dX9_cutOf_93 : decode cX9_cutOf 93 = .ok (.if_icmp .ne 23, 3) := by decide +kernel
theorem dX9_cutOf_96 : decode cX9_cutOf 96 = .ok (.aload_n 0, 1) := by decide +kernel
theorem dX9_cutOf_97 : decode cX9_cutOf 97 = .ok (.getfield 29, 3) := by decide +kernel
theorem dX9_cutOf_100 : decode cX9_cutOf 100 = .ok (.iconst 3, 1) := by decide +kernel
theorem dX9_cutOf_101 : decode cX9_cutOf 101 = .ok (.iload 7, 2) := by decide +kernel
theorem dX9_cutOf_103 : decode cX9_cutOf 103 = .ok (.imul, 1) := by decide +kernel
theorem dX9_cutOf_104 : decode cX9_cutOf 104 = .ok (.iaload, 1) := by decide +kernel
theorem dX9_cutOf_105 : decode cX9_cutOf 105 = .ok (.iconst 1, 1) := by decide +kernel
theorem dX9_cutOf_106 : decode cX9_cutOf 106 = .ok (.iadd, 1) := by decide +kernel
theorem dX9_cutOf_107 : decode cX9_cutOf 107 = .ok (.iconst 0, 1) := by decide +kernel
theorem dX9_cutOf_108 : decode cX9_cutOf 108 = .ok (.bipush 99, 2) := by decide +kernel
theorem dX9_cutOf_110 : decode cX9_cutOf 110 = .ok (.invokestatic 251, 3) := by decide +kernel
theorem dX9_cutOf_113 : decode cX9_cutOf 113 = .ok (.goto 12, 3) := by decide +kernel
theorem dX9_cutOf_116 : decode cX9_cutOf 116 = .ok (.aload_n 0, 1) := by decide +kernel
theorem dX9_cutOf_117 : decode cX9_cutOf 117 = .ok (.getfield 29, 3) := by decide +kernel
theorem dX9_cutOf_120 : decode cX9_cutOf 120 = .ok (.iconst 3, 1) := by decide +kernel
theorem dX9_cutOf_121 : decode cX9_cutOf 121 = .ok (.iload 7, 2) := by decide +kernel
theorem dX9_cutOf_123 : decode cX9_cutOf 123 = .ok (.imul, 1) := by decide +kernel
theorem dX9_cutOf_124 : decode cX9_cutOf 124 = .ok (.iaload, 1) := by decide +kernel
theorem dX9_cutOf_125 : decode cX9_cutOf 125 = .ok (.istore 8, 2) := by decide +kernel
theorem dX9_cutOf_127 : decode cX9_cutOf 127 = .ok (.iload 5, 2) := by decide +kernel
theorem dX9_cutOf_129 : decode cX9_cutOf 129 = .ok (.iload 6, 2) := by decide +kernel
theorem dX9_cutOf_131 : decode cX9_cutOf 131 = .ok (.iload 7, 2) := by decide +kernel
theorem dX9_cutOf_133 : decode cX9_cutOf 133 = .ok (.ishr, 1) := by decide +kernel
theorem dX9_cutOf_134 : decode cX9_cutOf 134 = .ok (.iconst 1, 1) := by decide +kernel
theorem dX9_cutOf_135 : decode cX9_cutOf 135 = .ok (.iand, 1) := by decide +kernel
theorem dX9_cutOf_136 : decode cX9_cutOf 136 = .ok (.iconst 1, 1) := by decide +kernel
theorem dX9_cutOf_137 : decode cX9_cutOf 137 = .ok (.if_icmp .ne 8, 3) := by decide +kernel
theorem dX9_cutOf_140 : decode cX9_cutOf 140 = .ok (.iload 8, 2) := by decide +kernel
theorem dX9_cutOf_142 : decode cX9_cutOf 142 = .ok (.goto 4, 3) := by decide +kernel
theorem dX9_cutOf_145 : decode cX9_cutOf 145 = .ok (.iconst 0, 1) := by decide +kernel
theorem dX9_cutOf_146 : decode cX9_cutOf 146 = .ok (.iadd, 1) := by decide +kernel
theorem dX9_cutOf_147 : decode cX9_cutOf 147 = .ok (.istore 5, 2) := by decide +kernel
theorem dX9_cutOf_149 : decode cX9_cutOf 149 = .ok (.iinc 7 1, 3) := by decide +kernel
theorem dX9_cutOf_152 : decode cX9_cutOf 152 = .ok (.goto (-80), 3) := by decide +kernel
theorem dX9_cutOf_155 : decode cX9_cutOf 155 = .ok (.iload 5, 2) := by decide +kernel
theorem dX9_cutOf_157 : decode cX9_cutOf 157 = .ok (.ireturn, 1) := by decide +kernel
set_option maxRecDepth 20000 in
theorem ggX9_mostBut_X9_cutOf : GoodIn wsX9_mostBut wsX9_cutOf := goodIn_r _ [8, 2, 9, 10, 11, 12, 7, 13, 14, 15, 16, 17, 18, 19, 20, 21, 22, 23, 24, 25, 26, 27, 28, 29, 30, 31, 32, 33, 34, 35, 36, 37, 38, 39, 40, 41, 42, 43, 44, 45, 46, 47, 48, 49, 50, 51, 52, 53, 54, 55, 56, 57, 58, 59, 60, 61, 62, 63, 64, 65, 66, 67, 68, 69, 70, 71, 72, 73, 74, 75, 76, 77, 78, 79, 80, 81, 82, 83, 84, 85, 86, 87, 88, 89, 90, 91, 92, 93, 94, 95, 96, 97, 98, 99, 100, 101, 102, 103, 104, 105, 106, 107, 108, 109, 110, 111, 112, 113, 114, 115, 116, 117, 118, 119, 120, 121, 122, 123, 124, 125, 126, 127, 128, 129, 130, 131, 132, 133, 134, 135, 136, 137, 138, 139, 140, 141, 142, 143, 144, 145, 146, 147, 148, 149, 150, 151, 152, 153, 154, 155, 156, 157, 158, 159, 160, 161, 162, 163, 164, 165, 166, 167, 168, 169, 170, 171, 172, 173, 174, 175, 176, 177, 178, 179, 180, 181] (by decide +kernel) (by decide +kernel)
set_option maxRecDepth 20000 in
theorem gX9_mostBut_X9_cutOf : GoodIn wsX9_mostBut (wsV RX9 295 RX9 yX9_cutOf wsX9_cutOf) := goodIn_app (goodIn_of _ (by decide +kernel)) ggX9_mostBut_X9_cutOf
theorem dX9_mostBut_0 : decode cX9_mostBut 0 = .ok (.ldc_w 294, 3) := by decide +kernel
theorem dX9_mostBut_3 : decode cX9_mostBut 3 = .ok (.istore 4, 2) := by decide +kernel
theorem dX9_mostBut_5 : decode cX9_mostBut 5 = .ok (.iconst 0, 1) := by decide +kernel
theorem dX9_mostBut_6 : decode cX9_mostBut 6 = .ok (.istore 5, 2) := by decide +kernel
theorem dX9_mostBut_8 : decode cX9_mostBut 8 = .ok (.iload 5, 2) := by decide +kernel
theorem dX9_mostBut_10 : decode cX9_mostBut 10 = .ok (.iconst 1, 1) := by decide +kernel
theorem dX9_mostBut_11 : decode cX9_mostBut 11 = .ok (.aload_n 0, 1) := by decide +kernel
theorem dX9_mostBut_12 : decode cX9_mostBut 12 = .ok (.getfield 77, 3) := by decide +kernel
theorem dX9_mostBut_15 : decode cX9_mostBut 15 = .ok (.ishl, 1) := by decide +kernel
theorem dX9_mostBut_16 : decode cX9_mostBut 16 = .ok (.if_icmp .ge 37, 3) := by decide +kernel
theorem dX9_mostBut_19 : decode cX9_mostBut 19 = .ok (.aload_n 0, 1) := by decide +kernel
theorem dX9_mostBut_20 : decode cX9_mostBut 20 = .ok (.iload 5, 2) := by decide +kernel
theorem dX9_mostBut_22 : decode cX9_mostBut 22 = .ok (.iload_n 1, 1) := by decide +kernel
theorem dX9_mostBut_23 : decode cX9_mostBut 23 = .ok (.iload_n 2, 1) := by decide +kernel
theorem dX9_mostBut_24 : decode cX9_mostBut 24 = .ok (.iload_n 3, 1) := by decide +kernel
theorem dX9_mostBut_25 : decode cX9_mostBut 25 = .ok (.invokevirtual 295, 3) := by decide +kernel
theorem dX9_mostBut_28 : decode cX9_mostBut 28 = .ok (.istore 6, 2) := by decide +kernel
theorem dX9_mostBut_30 : decode cX9_mostBut 30 = .ok (.iload 6, 2) := by decide +kernel
theorem dX9_mostBut_32 : decode cX9_mostBut 32 = .ok (.iload 4, 2) := by decide +kernel
theorem dX9_mostBut_34 : decode cX9_mostBut 34 = .ok (.if_icmp .ge 13, 3) := by decide +kernel
theorem dX9_mostBut_37 : decode cX9_mostBut 37 = .ok (.aload_n 0, 1) := by decide +kernel
theorem dX9_mostBut_38 : decode cX9_mostBut 38 = .ok (.iload 5, 2) := by decide +kernel
theorem dX9_mostBut_40 : decode cX9_mostBut 40 = .ok (.putfield 299, 3) := by decide +kernel
theorem dX9_mostBut_43 : decode cX9_mostBut 43 = .ok (.iload 6, 2) := by decide +kernel
theorem dX9_mostBut_45 : decode cX9_mostBut 45 = .ok (.istore 4, 2) := by decide +kernel
theorem dX9_mostBut_47 : decode cX9_mostBut 47 = .ok (.iinc 5 1, 3) := by decide +kernel
theorem dX9_mostBut_50 : decode cX9_mostBut 50 = .ok (.goto (-42), 3) := by decide +kernel
theorem dX9_mostBut_53 : decode cX9_mostBut 53 = .ok (.iload 4, 2) := by decide +kernel
theorem dX9_mostBut_55 : decode cX9_mostBut 55 = .ok (.ireturn, 1) := by decide +kernel
set_option maxRecDepth 20000 in
theorem ggX9_mostNow_X9_mostBut : GoodIn wsX9_mostNow wsX9_mostBut := goodIn_r _ [5, 6, 7, 8, 9, 10, 11, 4, 12, 13, 14, 15, 16, 17, 18, 19, 20, 21, 22, 23, 24, 25, 26, 27, 28, 29, 30, 31, 32, 33, 34, 35, 36, 37, 38, 39, 40, 41, 42, 43, 44, 45, 46, 47, 48, 49, 50, 51, 52, 53, 54, 55, 56, 57, 58, 59, 60, 61, 62, 63, 64, 65, 66, 67, 68, 69, 70, 71, 72, 73, 74, 75, 76, 77, 78, 79, 80, 81, 82, 83, 84, 85, 86, 87, 88, 89, 90, 91, 92, 93, 94, 95, 96, 97, 98, 99, 100, 101, 102, 103, 104, 105, 106, 107, 108, 109, 110, 111, 112, 113, 114, 115, 116, 117, 118, 119, 120, 121, 122, 123, 124, 125, 126, 127, 128, 129, 130, 131, 132, 133, 134, 135, 136, 137, 138, 139, 140, 141, 142, 143, 144, 145, 146, 147, 148, 149, 150, 151, 152, 153, 154, 155, 156, 157, 158, 159, 160, 161, 162, 163, 164, 165, 166, 167, 168, 169, 170, 171, 172, 173, 174, 175, 176, 177, 178, 179, 180, 181, 182, 183, 184, 185] (by decide +kernel) (by decide +kernel)
set_option maxRecDepth 20000 in
theorem gX9_mostNow_X9_mostBut : GoodIn wsX9_mostNow (wsV RX9 302 RX9 yX9_mostBut wsX9_mostBut) := goodIn_app (goodIn_of _ (by decide +kernel)) ggX9_mostNow_X9_mostBut
theorem dX9_mostNow_0 : decode cX9_mostNow 0 = .ok (.aload_n 0, 1) := by decide +kernel
theorem dX9_mostNow_1 : decode cX9_mostNow 1 = .ok (.iconst (-1), 1) := by decide +kernel
theorem dX9_mostNow_2 : decode cX9_mostNow 2 = .ok (.iconst (-1), 1) := by decide +kernel
theorem dX9_mostNow_3 : decode cX9_mostNow 3 = .ok (.iconst (-1), 1) := by decide +kernel
theorem dX9_mostNow_4 : decode cX9_mostNow 4 = .ok (.invokevirtual 302, 3) := by decide +kernel
theorem dX9_mostNow_7 : decode cX9_mostNow 7 = .ok (.ireturn, 1) := by decide +kernel
set_option maxRecDepth 20000 in
theorem ggX9_pouredNow_X9_laysAside : GoodIn wsX9_pouredNow wsX9_laysAside := goodIn_r _ [6, 7, 8, 1, 9, 147, 148, 149, 150, 151, 152, 153, 154, 155, 156, 157, 158, 159, 160, 161, 162, 163, 164, 165, 166, 167, 168, 169, 170, 171, 172, 173, 174, 175, 176, 177, 178, 179, 180, 181, 182, 183, 184, 185, 186, 187, 188, 189, 190] (by decide +kernel) (by decide +kernel)
set_option maxRecDepth 20000 in
theorem gX9_pouredNow_X9_laysAside : GoodIn wsX9_pouredNow (wsV RX9 288 RX9 yX9_laysAside wsX9_laysAside) := goodIn_app (goodIn_of _ (by decide +kernel)) ggX9_pouredNow_X9_laysAside
set_option maxRecDepth 20000 in
theorem ggX9_pouredNow_X9_passes : GoodIn wsX9_pouredNow wsX9_passes := goodIn_r _ [13, 1, 14, 15, 16, 8, 9, 17, 18, 19, 5, 20, 21, 22, 23, 24, 25, 26, 27, 28, 29, 30, 31, 32, 33, 34, 35, 36, 37, 38, 39, 40, 41, 42, 43, 44, 45, 46, 47, 48, 49, 50, 51, 52, 53, 54, 55, 56, 57, 58, 59, 60, 61, 62, 63, 64, 65, 66, 67, 68, 69, 70, 71, 72, 73, 74, 75, 76, 77, 78, 79, 80, 81, 82, 83, 84, 85, 86, 87, 88, 89, 90, 91, 92, 93, 94, 95, 96, 97, 98, 99, 100, 101, 102, 103, 104, 105, 106, 107, 108, 109, 110, 111, 112, 113, 114, 115, 116, 117, 118, 119, 120, 121, 122, 123, 124, 125, 126, 127, 128, 129, 130, 131, 132, 133, 134, 135, 136, 137, 138, 139, 140, 141, 142, 147, 148, 149, 150, 151, 152, 153, 154, 155, 156, 157, 158, 159, 160, 161, 162, 163, 164, 165, 166, 167, 168, 169, 170, 171, 172, 173, 174, 175, 176, 177, 178, 179, 180, 181, 182, 183, 184, 185, 186, 187, 188, 189, 190] (by decide +kernel) (by decide +kernel)
set_option maxRecDepth 20000 in
theorem gX9_pouredNow_X9_passes : GoodIn wsX9_pouredNow (wsV RX9 278 RX9 yX9_passes wsX9_passes) := goodIn_app (goodIn_of _ (by decide +kernel)) ggX9_pouredNow_X9_passes
set_option maxRecDepth 20000 in
theorem ggX9_pouredNow_X9_laysBack : GoodIn wsX9_pouredNow wsX9_laysBack := goodIn_r _ [146, 8, 7, 1, 9, 147, 148, 149, 150, 151, 152, 153, 154, 155, 156, 157, 158, 159, 160, 161, 162, 163, 164, 165, 166, 167, 168, 169, 170, 171, 172, 173, 174, 175, 176, 177, 178, 179, 180, 181, 182, 183, 184, 185, 186, 187, 188, 189, 190] (by decide +kernel) (by decide +kernel)
set_option maxRecDepth 20000 in
theorem gX9_pouredNow_X9_laysBack : GoodIn wsX9_pouredNow (wsV RX9 291 RX9 yX9_laysBack wsX9_laysBack) := goodIn_app (goodIn_of _ (by decide +kernel)) ggX9_pouredNow_X9_laysBack
theorem dX9_pouredNow_0 : decode cX9_pouredNow 0 = .ok (.aload_n 0, 1) := by decide +kernel
theorem dX9_pouredNow_1 : decode cX9_pouredNow 1 = .ok (.invokevirtual 288, 3) := by decide +kernel
theorem dX9_pouredNow_4 : decode cX9_pouredNow 4 = .ok (.aload_n 0, 1) := by decide +kernel
theorem dX9_pouredNow_5 : decode cX9_pouredNow 5 = .ok (.invokevirtual 278, 3) := by decide +kernel
theorem dX9_pouredNow_8 : decode cX9_pouredNow 8 = .ok (.istore_n 2, 1) := by decide +kernel
theorem dX9_pouredNow_9 : decode cX9_pouredNow 9 = .ok (.iconst 0, 1) := by decide +kernel
theorem dX9_pouredNow_10 : decode cX9_pouredNow 10 = .ok (.istore_n 3, 1) := by decide +kernel
theorem dX9_pouredNow_11 : decode cX9_pouredNow 11 = .ok (.iconst 0, 1) := by decide +kernel
theorem dX9_pouredNow_12 : decode cX9_pouredNow 12 = .ok (.istore 4, 2) := by decide +kernel
theorem dX9_pouredNow_14 : decode cX9_pouredNow 14 = .ok (.iload 4, 2) := by decide +kernel
theorem dX9_pouredNow_16 : decode cX9_pouredNow 16 = .ok (.bipush 6, 2) := by decide +kernel
theorem dX9_pouredNow_18 : decode cX9_pouredNow 18 = .ok (.if_icmp .ge 43, 3) := by decide +kernel
theorem dX9_pouredNow_21 : decode cX9_pouredNow 21 = .ok (.iload_n 3, 1) := by decide +kernel
theorem dX9_pouredNow_22 : decode cX9_pouredNow 22 = .ok (.aload_n 0, 1) := by decide +kernel
theorem dX9_pouredNow_23 : decode cX9_pouredNow 23 = .ok (.getfield 29, 3) := by decide +kernel
theorem dX9_pouredNow_26 : decode cX9_pouredNow 26 = .ok (.iconst 3, 1) := by decide +kernel
theorem dX9_pouredNow_27 : decode cX9_pouredNow 27 = .ok (.iload 4, 2) := by decide +kernel
theorem dX9_pouredNow_29 : decode cX9_pouredNow 29 = .ok (.imul, 1) := by decide +kernel
theorem dX9_pouredNow_30 : decode cX9_pouredNow 30 = .ok (.iconst 2, 1) := by decide +kernel
theorem dX9_pouredNow_31 : decode cX9_pouredNow 31 = .ok (.iadd, 1) := by decide +kernel
theorem dX9_pouredNow_32 : decode cX9_pouredNow 32 = .ok (.iaload, 1) := by decide +kernel
theorem dX9_pouredNow_33 : decode cX9_pouredNow 33 = .ok (.aload_n 0, 1) := by decide +kernel
theorem dX9_pouredNow_34 : decode cX9_pouredNow 34 = .ok (.getfield 29, 3) := by decide +kernel
theorem dX9_pouredNow_37 : decode cX9_pouredNow 37 = .ok (.iconst 3, 1) := by decide +kernel
theorem dX9_pouredNow_38 : decode cX9_pouredNow 38 = .ok (.iload 4, 2) := by decide +kernel
theorem dX9_pouredNow_40 : decode cX9_pouredNow 40 = .ok (.imul, 1) := by decide +kernel
theorem dX9_pouredNow_41 : decode cX9_pouredNow 41 = .ok (.iaload, 1) := by decide +kernel
theorem dX9_pouredNow_42 : decode cX9_pouredNow 42 = .ok (.if_icmp .ne 7, 3) := by decide +kernel
theorem dX9_pouredNow_45 : decode cX9_pouredNow 45 = .ok (.iconst 1, 1) := by decide +kernel
theorem dX9_pouredNow_46 : decode cX9_pouredNow 46 = .ok (.goto 4, 3) := by decide +kernel
theorem dX9_pouredNow_49 : decode cX9_pouredNow 49 = .ok (.iconst 0, 1) := by decide +kernel
theorem dX9_pouredNow_50 : decode cX9_pouredNow 50 = .ok (.iload 4, 2) := by decide +kernel
theorem dX9_pouredNow_52 : decode cX9_pouredNow 52 = .ok (.ishl, 1) := by decide +kernel
theorem dX9_pouredNow_53 : decode cX9_pouredNow 53 = .ok (.ior, 1) := by decide +kernel
theorem dX9_pouredNow_54 : decode cX9_pouredNow 54 = .ok (.istore_n 3, 1) := by decide +kernel
theorem dX9_pouredNow_55 : decode cX9_pouredNow 55 = .ok (.iinc 4 1, 3) := by decide +kernel
theorem dX9_pouredNow_58 : decode cX9_pouredNow 58 = .ok (.goto (-44), 3) := by decide +kernel
theorem dX9_pouredNow_61 : decode cX9_pouredNow 61 = .ok (.aload_n 0, 1) := by decide +kernel
theorem dX9_pouredNow_62 : decode cX9_pouredNow 62 = .ok (.invokevirtual 291, 3) := by decide +kernel
theorem dX9_pouredNow_65 : decode cX9_pouredNow 65 = .ok (.iload_n 1, 1) := by decide +kernel
theorem dX9_pouredNow_66 : decode cX9_pouredNow 66 = .ok (.iconst 4, 1) := by decide +kernel
theorem dX9_pouredNow_67 : decode cX9_pouredNow 67 = .ok (.if_icmp .ne 7, 3) := by decide +kernel
theorem dX9_pouredNow_70 : decode cX9_pouredNow 70 = .ok (.iload_n 3, 1) := by decide +kernel
theorem dX9_pouredNow_71 : decode cX9_pouredNow 71 = .ok (.goto 4, 3) := by decide +kernel
theorem dX9_pouredNow_74 : decode cX9_pouredNow 74 = .ok (.iload_n 2, 1) := by decide +kernel
theorem dX9_pouredNow_75 : decode cX9_pouredNow 75 = .ok (.ireturn, 1) := by decide +kernel
set_option maxRecDepth 20000 in
theorem ggX9_starved_X9_yieldsOf : GoodIn wsX9_starved wsX9_yieldsOf := goodIn_r _ [6, 7, 8, 9, 10, 11, 12, 13, 5, 14, 15, 16, 17, 18, 19, 20, 21, 22, 23, 24, 25, 26, 27, 28, 29, 30, 31, 32, 33, 34, 35, 36, 37, 38, 39, 40, 41, 42, 43, 44, 45, 46, 47, 48, 49, 50, 51, 52, 53, 54, 55, 56, 57, 58, 59, 60, 61, 62, 63, 64, 65, 66, 67, 68, 69, 70, 71, 72, 73, 74, 75, 76, 77, 78, 79, 80, 81, 82, 83, 84, 85, 86, 87, 88, 89, 90, 91, 92, 93, 94, 95, 96, 97, 98, 99, 100, 101, 102, 103, 104, 105, 106, 107, 108, 109, 110, 111, 112, 113, 114, 115, 116, 117, 118, 119, 120, 121, 122, 132, 133, 134, 135, 136, 137, 138, 139, 140, 141, 142, 143, 144, 145, 146, 147, 148, 149, 150, 151, 152, 153, 154, 155, 156, 157, 158, 159, 160, 161, 162, 163, 164, 165, 166, 167, 168, 169, 170, 171, 172, 173, 174, 175] (by decide +kernel) (by decide +kernel)
set_option maxRecDepth 20000 in
theorem gX9_starved_X9_yieldsOf : GoodIn wsX9_starved (wsV RX9 126 RX9 yX9_yieldsOf wsX9_yieldsOf) := goodIn_app (goodIn_of _ (by decide +kernel)) ggX9_starved_X9_yieldsOf
set_option maxRecDepth 20000 in
theorem ggX9_starved_X9_suitSet : GoodIn wsX9_starved wsX9_suitSet := goodIn_r _ [126, 127, 128, 129, 5, 130, 7, 131, 8, 11, 12, 13, 14, 15, 16, 10, 17, 18, 19, 9, 20, 21, 22, 23, 24, 25, 26, 27, 28, 29, 30, 31, 32, 33, 34, 35, 36, 37, 38, 39, 40, 41, 42, 43, 44, 45, 46, 47, 48, 49, 50, 51, 52, 53, 54, 55, 56, 57, 58, 59, 60, 61, 62, 63, 64, 65, 66, 67, 68, 69, 70, 71, 72, 73, 74, 75, 76, 77, 78, 79, 80, 81, 82, 83, 84, 85, 86, 87, 88, 89, 90, 91, 92, 93, 94, 95, 96, 97, 98, 99, 100, 101, 102, 103, 104, 105, 106, 107, 108, 109, 110, 111, 112, 113, 114, 115, 116, 117, 118, 119, 120, 121, 122, 132, 133, 134, 135, 136, 137, 138, 139, 140, 141, 142, 143, 144, 145, 146, 147, 148, 149, 150, 151, 152, 153, 154, 155, 156, 157, 158, 159, 160, 161, 162, 163, 164, 165, 166, 167, 168, 169, 170, 171, 172, 173, 174, 175] (by decide +kernel) (by decide +kernel)
set_option maxRecDepth 20000 in
theorem gX9_starved_X9_suitSet : GoodIn wsX9_starved (wsV RX9 129 RX9 yX9_suitSet wsX9_suitSet) := goodIn_app (goodIn_of _ (by decide +kernel)) ggX9_starved_X9_suitSet
theorem dX9_starved_0 : decode cX9_starved 0 = .ok (.bipush 63, 2) := by decide +kernel
theorem dX9_starved_2 : decode cX9_starved 2 = .ok (.istore_n 1, 1) := by decide +kernel
theorem dX9_starved_3 : decode cX9_starved 3 = .ok (.iconst 0, 1) := by decide +kernel
theorem dX9_starved_4 : decode cX9_starved 4 = .ok (.istore_n 2, 1) := by decide +kernel
theorem dX9_starved_5 : decode cX9_starved 5 = .ok (.iload_n 2, 1) := by decide +kernel
theorem dX9_starved_6 : decode cX9_starved 6 = .ok (.aload_n 0, 1) := by decide +kernel
theorem dX9_starved_7 : decode cX9_starved 7 = .ok (.getfield 77, 3) := by decide +kernel
theorem dX9_starved_10 : decode cX9_starved 10 = .ok (.if_icmp .ge 31, 3) := by decide +kernel
theorem dX9_starved_13 : decode cX9_starved 13 = .ok (.iload_n 1, 1) := by decide +kernel
theorem dX9_starved_14 : decode cX9_starved 14 = .ok (.aload_n 0, 1) := by decide +kernel
theorem dX9_starved_15 : decode cX9_starved 15 = .ok (.iload_n 2, 1) := by decide +kernel
theorem dX9_starved_16 : decode cX9_starved 16 = .ok (.invokevirtual 126, 3) := by decide +kernel
theorem dX9_starved_19 : decode cX9_starved 19 = .ok (.ifCond .le 13, 3) := by decide +kernel
theorem dX9_starved_22 : decode cX9_starved 22 = .ok (.aload_n 0, 1) := by decide +kernel
theorem dX9_starved_23 : decode cX9_starved 23 = .ok (.iload_n 2, 1) := by decide +kernel
theorem dX9_starved_24 : decode cX9_starved 24 = .ok (.invokevirtual 129, 3) := by decide +kernel
theorem dX9_starved_27 : decode cX9_starved 27 = .ok (.iconst (-1), 1) := by decide +kernel
theorem dX9_starved_28 : decode cX9_starved 28 = .ok (.ixor, 1) := by decide +kernel
theorem dX9_starved_29 : decode cX9_starved 29 = .ok (.goto 4, 3) := by decide +kernel
theorem dX9_starved_32 : decode cX9_starved 32 = .ok (.iload_n 1, 1) := by decide +kernel
theorem dX9_starved_33 : decode cX9_starved 33 = .ok (.iand, 1) := by decide +kernel
theorem dX9_starved_34 : decode cX9_starved 34 = .ok (.istore_n 1, 1) := by decide +kernel
theorem dX9_starved_35 : decode cX9_starved 35 = .ok (.iinc 2 1, 3) := by decide +kernel
theorem dX9_starved_38 : decode cX9_starved 38 = .ok (.goto (-33), 3) := by decide +kernel
theorem dX9_starved_41 : decode cX9_starved 41 = .ok (.iload_n 1, 1) := by decide +kernel
theorem dX9_starved_42 : decode cX9_starved 42 = .ok (.ireturn, 1) := by decide +kernel
set_option maxRecDepth 20000 in
theorem ggX9_pour_X9_in : GoodIn wsX9_pour wsX9_in := goodIn_r _ [6] (by decide +kernel) (by decide +kernel)
set_option maxRecDepth 20000 in
theorem gX9_pour_X9_in : GoodIn wsX9_pour (va_wsS RX9 80 yX9_in wsX9_in) := goodIn_app (goodIn_of _ (by decide +kernel)) ggX9_pour_X9_in
set_option maxRecDepth 20000 in
theorem ggX9_pour_X9_mostNow : GoodIn wsX9_pour wsX9_mostNow := goodIn_r _ [10, 11, 12, 13, 5, 14, 15, 16, 2, 17, 18, 19, 20, 21, 22, 23, 24, 25, 26, 27, 28, 29, 30, 31, 32, 33, 34, 35, 36, 37, 38, 39, 40, 41, 42, 43, 44, 45, 46, 47, 48, 49, 50, 51, 52, 53, 54, 55, 56, 57, 58, 59, 60, 61, 62, 63, 64, 65, 66, 67, 68, 69, 70, 71, 72, 73, 74, 75, 76, 77, 78, 79, 80, 81, 82, 83, 84, 3, 4, 6, 85, 86, 87, 88, 89, 90, 91, 92, 93, 94, 95, 96, 97, 98, 99, 100, 101, 102, 103, 104, 105, 106, 107, 108, 109, 110, 111, 112, 113, 114, 115, 116, 117, 118, 119, 120, 121, 122, 123, 124, 125, 126, 127, 128, 129, 130, 131, 132, 133, 134, 135, 136, 137, 138, 139, 140, 141, 142, 143, 144, 145, 146, 174, 175, 176, 177, 178, 179, 180, 181, 182, 183, 184, 185, 186, 187, 188, 189, 190, 191, 192, 193, 194, 195, 196, 197, 198, 199, 200, 201, 202, 203, 204, 205, 206, 207, 208, 209, 210, 211, 212, 213, 214, 215, 216, 217] (by decide +kernel) (by decide +kernel)
set_option maxRecDepth 20000 in
theorem gX9_pour_X9_mostNow : GoodIn wsX9_pour (wsV RX9 305 RX9 yX9_mostNow wsX9_mostNow) := goodIn_app (goodIn_of _ (by decide +kernel)) ggX9_pour_X9_mostNow
set_option maxRecDepth 20000 in
theorem ggX9_pour_X9_pouredNow : GoodIn wsX9_pour wsX9_pouredNow := goodIn_r _ [150, 21, 151, 152, 153, 5, 154, 155, 31, 38, 156, 157, 158, 159, 16, 160, 161, 143, 144, 145, 146, 30, 42, 32, 33, 34, 35, 36, 37, 39, 40, 41, 43, 44, 45, 46, 47, 48, 49, 50, 51, 52, 53, 54, 55, 56, 57, 58, 59, 60, 61, 62, 63, 64, 65, 66, 67, 68, 69, 70, 71, 72, 73, 74, 75, 76, 77, 78, 79, 80, 81, 82, 83, 84, 3, 4, 6, 85, 86, 87, 88, 89, 90, 91, 92, 93, 94, 95, 96, 97, 98, 99, 100, 101, 102, 103, 104, 105, 106, 107, 108, 109, 110, 111, 112, 113, 114, 115, 116, 117, 118, 119, 120, 121, 122, 123, 124, 125, 126, 127, 128, 129, 130, 131, 132, 133, 134, 135, 136, 137, 138, 139, 140, 141, 142, 162, 163, 164, 165, 26, 27, 28, 29, 166, 167, 168, 169, 174, 175, 176, 177, 178, 179, 180, 181, 182, 183, 184, 185, 186, 187, 188, 189, 190, 191, 192, 193, 194, 195, 196, 197, 198, 199, 200, 201, 202, 203, 204, 205, 206, 207, 208, 209, 210, 211, 212, 213, 214, 215, 216, 217] (by decide +kernel) (by decide +kernel)
set_option maxRecDepth 20000 in
theorem gX9_pour_X9_pouredNow : GoodIn wsX9_pour (wsV RX9 308 RX9 yX9_pouredNow wsX9_pouredNow) := goodIn_app (goodIn_of _ (by decide +kernel)) ggX9_pour_X9_pouredNow
set_option maxRecDepth 20000 in
theorem ggX9_pour_X9_starved : GoodIn wsX9_pour wsX9_starved := goodIn_r _ [173, 16, 143, 144, 145, 5, 146, 30, 31, 42, 38, 32, 33, 34, 35, 36, 37, 39, 40, 41, 43, 44, 45, 46, 47, 48, 49, 50, 51, 52, 53, 54, 55, 56, 57, 58, 59, 60, 61, 62, 63, 64, 65, 66, 67, 68, 69, 70, 71, 72, 73, 74, 75, 76, 77, 78, 79, 80, 81, 82, 83, 84, 3, 4, 6, 85, 86, 87, 88, 89, 90, 91, 92, 93, 94, 95, 96, 97, 98, 99, 100, 101, 102, 103, 104, 105, 106, 107, 108, 109, 110, 111, 112, 113, 114, 115, 116, 117, 118, 119, 120, 121, 122, 123, 124, 125, 126, 127, 128, 129, 130, 131, 132, 133, 134, 135, 136, 137, 138, 139, 140, 141, 142, 22, 23, 24, 25, 26, 27, 28, 29, 21, 174, 175, 176, 177, 178, 179, 180, 181, 182, 183, 184, 185, 186, 187, 188, 189, 190, 191, 192, 193, 194, 195, 196, 197, 198, 199, 200, 201, 202, 203, 204, 205, 206, 207, 208, 209, 210, 211, 212, 213, 214, 215, 216, 217] (by decide +kernel) (by decide +kernel)
set_option maxRecDepth 20000 in
theorem gX9_pour_X9_starved : GoodIn wsX9_pour (wsV RX9 311 RX9 yX9_starved wsX9_starved) := goodIn_app (goodIn_of _ (by decide +kernel)) ggX9_pour_X9_starved
theorem dX9_pour_0 : decode cX9_pour 0 = .ok (.iload_n 1, 1) := by decide +kernel
theorem dX9_pour_1 : decode cX9_pour 1 = .ok (.i2l, 1) := by decide +kernel
theorem dX9_pour_2 : decode cX9_pour 2 = .ok (.lconst 0, 1) := by decide +kernel
theorem dX9_pour_3 : decode cX9_pour 3 = .ok (.ldc2_w 84, 3) := by decide +kernel
theorem dX9_pour_6 : decode cX9_pour 6 = .ok (.invokestatic 80, 3) := by decide +kernel
theorem dX9_pour_9 : decode cX9_pour 9 = .ok (.ifCond .ne 6, 3) := by decide +kernel
theorem dX9_pour_12 : decode cX9_pour 12 = .ok (.bipush (-2), 2) := by decide +kernel
theorem dX9_pour_14 : decode cX9_pour 14 = .ok (.ireturn, 1) := by decide +kernel
theorem dX9_pour_15 : decode cX9_pour 15 = .ok (.aload_n 0, 1) := by decide +kernel
theorem dX9_pour_16 : decode cX9_pour 16 = .ok (.invokevirtual 305, 3) := by decide +kernel
theorem dX9_pour_19 : decode cX9_pour 19 = .ok (.istore_n 2, 1) := by decide +kernel
theorem dX9_pour_20 : decode cX9_pour 20 = .ok (.iload_n 1, 1) := by decide +kernel
theorem dX9_pour_21 : decode cX9_pour 21 = .ok (.iconst 3, 1) := by decide +kernel
theorem dX9_pour_22 : decode cX9_pour 22 = .ok (.if_icmp .ge 31, 3) := by decide +kernel
theorem dX9_pour_25 : decode cX9_pour 25 = .ok (.iload_n 1, 1) := by decide +kernel
theorem dX9_pour_26 : decode cX9_pour 26 = .ok (.ifCond .ne 7, 3) := by decide +kernel
theorem dX9_pour_29 : decode cX9_pour 29 = .ok (.iload_n 2, 1) := by decide +kernel
theorem dX9_pour_30 : decode cX9_pour 30 = .ok (.goto 22, 3) := by decide +kernel
theorem dX9_pour_33 : decode cX9_pour 33 = .ok (.iload_n 1, 1) := by decide +kernel
theorem dX9_pour_34 : decode cX9_pour 34 = .ok (.iconst 1, 1) := by decide +kernel
theorem dX9_pour_35 : decode cX9_pour 35 = .ok (.if_icmp .ne 10, 3) := by decide +kernel
theorem dX9_pour_38 : decode cX9_pour 38 = .ok (.aload_n 0, 1) := by decide +kernel
theorem dX9_pour_39 : decode cX9_pour 39 = .ok (.getfield 299, 3) := by decide +kernel
theorem dX9_pour_42 : decode cX9_pour 42 = .ok (.goto 10, 3) := by decide +kernel
theorem dX9_pour_45 : decode cX9_pour 45 = .ok (.iload_n 2, 1) := by decide +kernel
theorem dX9_pour_46 : decode cX9_pour 46 = .ok (.aload_n 0, 1) := by decide +kernel
theorem dX9_pour_47 : decode cX9_pour 47 = .ok (.iconst 3, 1) := by decide +kernel
theorem dX9_pour_48 : decode cX9_pour 48 = .ok (.invokevirtual 308, 3) := by decide +kernel
theorem dX9_pour_51 : decode cX9_pour 51 = .ok (.isub, 1) := by decide +kernel
theorem dX9_pour_52 : decode cX9_pour 52 = .ok (.ireturn, 1) := by decide +kernel
theorem dX9_pour_53 : decode cX9_pour 53 = .ok (.iload_n 1, 1) := by decide +kernel
theorem dX9_pour_54 : decode cX9_pour 54 = .ok (.iconst 5, 1) := by decide +kernel
theorem dX9_pour_55 : decode cX9_pour 55 = .ok (.if_icmp .ne 10, 3) := by decide +kernel
theorem dX9_pour_58 : decode cX9_pour 58 = .ok (.aload_n 0, 1) := by decide +kernel
theorem dX9_pour_59 : decode cX9_pour 59 = .ok (.invokevirtual 311, 3) := by decide +kernel
theorem dX9_pour_62 : decode cX9_pour 62 = .ok (.goto 8, 3) := by decide +kernel
theorem dX9_pour_65 : decode cX9_pour 65 = .ok (.aload_n 0, 1) := by decide +kernel
theorem dX9_pour_66 : decode cX9_pour 66 = .ok (.iload_n 1, 1) := by decide +kernel
theorem dX9_pour_67 : decode cX9_pour 67 = .ok (.invokevirtual 308, 3) := by decide +kernel
theorem dX9_pour_70 : decode cX9_pour 70 = .ok (.ireturn, 1) := by decide +kernel
set_option maxRecDepth 20000 in
theorem ggX9_best_X9_in : GoodIn wsX9_best wsX9_in := goodIn_r _ [6] (by decide +kernel) (by decide +kernel)
set_option maxRecDepth 20000 in
theorem gX9_best_X9_in : GoodIn wsX9_best (va_wsS RX9 80 yX9_in wsX9_in) := goodIn_app (goodIn_of _ (by decide +kernel)) ggX9_best_X9_in
set_option maxRecDepth 20000 in
theorem ggX9_best_X9_mostBut : GoodIn wsX9_best wsX9_mostBut := goodIn_r _ [10, 11, 2, 12, 13, 14, 15, 5, 16, 17, 18, 19, 20, 21, 22, 23, 24, 25, 26, 27, 28, 29, 30, 31, 32, 33, 34, 35, 36, 37, 38, 39, 40, 41, 42, 43, 44, 45, 46, 47, 48, 49, 50, 51, 52, 53, 54, 55, 56, 57, 58, 59, 60, 61, 62, 63, 64, 65, 66, 67, 68, 69, 70, 71, 72, 73, 74, 75, 76, 77, 78, 79, 80, 3, 4, 6, 81, 82, 83, 84, 85, 86, 87, 88, 89, 90, 91, 92, 93, 94, 95, 96, 97, 98, 99, 100, 101, 102, 103, 104, 105, 106, 107, 108, 109, 110, 111, 112, 113, 114, 115, 116, 117, 118, 119, 120, 121, 122, 123, 124, 125, 126, 127, 128, 129, 130, 131, 132, 133, 134, 135, 136, 137, 138, 139, 140, 141, 142, 143, 144, 145, 146, 147, 148, 149, 150, 151, 152, 153, 154, 155, 156, 157, 158, 159, 160, 161, 162, 163, 164, 165, 166, 167, 168, 169, 170, 171, 172, 173, 174, 175, 176, 177, 178, 179, 180, 181, 182, 183, 184, 185, 186] (by decide +kernel) (by decide +kernel)
set_option maxRecDepth 20000 in
theorem gX9_best_X9_mostBut : GoodIn wsX9_best (wsV RX9 302 RX9 yX9_mostBut wsX9_mostBut) := goodIn_app (goodIn_of _ (by decide +kernel)) ggX9_best_X9_mostBut
theorem dX9_best_0 : decode cX9_best 0 = .ok (.iload_n 1, 1) := by decide +kernel
theorem dX9_best_1 : decode cX9_best 1 = .ok (.i2l, 1) := by decide +kernel
theorem dX9_best_2 : decode cX9_best 2 = .ok (.lconst 0, 1) := by decide +kernel
theorem dX9_best_3 : decode cX9_best 3 = .ok (.ldc2_w 84, 3) := by decide +kernel
theorem dX9_best_6 : decode cX9_best 6 = .ok (.invokestatic 80, 3) := by decide +kernel
theorem dX9_best_9 : decode cX9_best 9 = .ok (.ifCond .ne 6, 3) := by decide +kernel
theorem dX9_best_12 : decode cX9_best 12 = .ok (.bipush (-2), 2) := by decide +kernel
theorem dX9_best_14 : decode cX9_best 14 = .ok (.ireturn, 1) := by decide +kernel
theorem dX9_best_15 : decode cX9_best 15 = .ok (.iconst (-1), 1) := by decide +kernel
theorem dX9_best_16 : decode cX9_best 16 = .ok (.istore_n 2, 1) := by decide +kernel
theorem dX9_best_17 : decode cX9_best 17 = .ok (.iconst 0, 1) := by decide +kernel
theorem dX9_best_18 : decode cX9_best 18 = .ok (.istore_n 3, 1) := by decide +kernel
theorem dX9_best_19 : decode cX9_best 19 = .ok (.iload_n 1, 1) := by decide +kernel
theorem dX9_best_20 : decode cX9_best 20 = .ok (.iconst 2, 1) := by decide +kernel
theorem dX9_best_21 : decode cX9_best 21 = .ok (.if_icmp .ge 10, 3) := by decide +kernel
theorem dX9_best_24 : decode cX9_best 24 = .ok (.aload_n 0, 1) := by decide +kernel
theorem dX9_best_25 : decode cX9_best 25 = .ok (.getfield 77, 3) := by decide +kernel
theorem dX9_best_28 : decode cX9_best 28 = .ok (.goto 5, 3) := by decide +kernel
theorem dX9_best_31 : decode cX9_best 31 = .ok (.bipush 6, 2) := by decide +kernel
theorem dX9_best_33 : decode cX9_best 33 = .ok (.istore 4, 2) := by decide +kernel
theorem dX9_best_35 : decode cX9_best 35 = .ok (.iconst 0, 1) := by decide +kernel
theorem dX9_best_36 : decode cX9_best 36 = .ok (.istore 5, 2) := by decide +kernel
