set_option maxRecDepth 20000 in
theorem gX9_taken_X9_in : GoodIn wsX9_taken (va_wsS RX9 80 yX9_in wsX9_in) := goodIn_app (goodIn_of _ (by decide +kernel)) ggX9_taken_X9_in
set_option maxRecDepth 20000 in
theorem ggX9_taken_X9_isOne : GoodIn wsX9_taken wsX9_isOne := goodIn_r _ [11, 12, 4, 5, 6, 7, 16, 17, 18, 19, 20, 21, 22, 23, 24, 25, 26, 27, 28, 29, 30, 31, 32, 33, 34, 35, 36, 37, 38, 39, 40, 41, 42, 43, 44, 45, 46, 47, 48, 49, 50, 51, 52, 53, 54, 55, 56, 57, 58, 59] (by decide +kernel) (by decide +kernel)
set_option maxRecDepth 20000 in
theorem gX9_taken_X9_isOne : GoodIn wsX9_taken (wsV RX9 90 RX9 yX9_isOne wsX9_isOne) := goodIn_app (goodIn_of _ (by decide +kernel)) ggX9_taken_X9_isOne
set_option maxRecDepth 20000 in
theorem ggX9_taken_X9_over : GoodIn wsX9_taken wsX9_over := goodIn_r _ [15] (by decide +kernel) (by decide +kernel)
set_option maxRecDepth 20000 in
theorem gX9_taken_X9_over : GoodIn wsX9_taken (va_wsS RX9 356 yX9_over wsX9_over) := goodIn_app (goodIn_of _ (by decide +kernel)) ggX9_taken_X9_over
theorem dX9_taken_0 : decode cX9_taken 0 = .ok (.iload_n 2, 1) := by decide +kernel
theorem dX9_taken_1 : decode cX9_taken 1 = .ok (.i2l, 1) := by decide +kernel
theorem dX9_taken_2 : decode cX9_taken 2 = .ok (.lconst 0, 1) := by decide +kernel
theorem dX9_taken_3 : decode cX9_taken 3 = .ok (.ldc2_w 84, 3) := by decide +kernel
theorem dX9_taken_6 : decode cX9_taken 6 = .ok (.invokestatic 80, 3) := by decide +kernel
theorem dX9_taken_9 : decode cX9_taken 9 = .ok (.ifCond .ne 6, 3) := by decide +kernel
theorem dX9_taken_12 : decode cX9_taken 12 = .ok (.bipush (-2), 2) := by decide +kernel
theorem dX9_taken_14 : decode cX9_taken 14 = .ok (.ireturn, 1) := by decide +kernel
theorem dX9_taken_15 : decode cX9_taken 15 = .ok (.aload_n 0, 1) := by decide +kernel
theorem dX9_taken_16 : decode cX9_taken 16 = .ok (.iload_n 1, 1) := by decide +kernel
theorem dX9_taken_17 : decode cX9_taken 17 = .ok (.invokevirtual 90, 3) := by decide +kernel
theorem dX9_taken_20 : decode cX9_taken 20 = .ok (.ifCond .ne 6, 3) := by decide +kernel
theorem dX9_taken_23 : decode cX9_taken 23 = .ok (.bipush (-11), 2) := by decide +kernel
theorem dX9_taken_25 : decode cX9_taken 25 = .ok (.ireturn, 1) := by decide +kernel
theorem dX9_taken_26 : decode cX9_taken 26 = .ok (.aload_n 0, 1) := by decide +kernel
theorem dX9_taken_27 : decode cX9_taken 27 = .ok (.getfield 23, 3) := by decide +kernel
theorem dX9_taken_30 : decode cX9_taken 30 = .ok (.iload_n 1, 1) := by decide +kernel
theorem dX9_taken_31 : decode cX9_taken 31 = .ok (.iaload, 1) := by decide +kernel
theorem dX9_taken_32 : decode cX9_taken 32 = .ok (.istore_n 3, 1) := by decide +kernel
theorem dX9_taken_33 : decode cX9_taken 33 = .ok (.iload_n 3, 1) := by decide +kernel
theorem dX9_taken_34 : decode cX9_taken 34 = .ok (.iconst (-1), 1) := by decide +kernel
theorem dX9_taken_35 : decode cX9_taken 35 = .ok (.if_icmp .eq 16, 3) := by decide +kernel
theorem dX9_taken_38 : decode cX9_taken 38 = .ok (.iload_n 3, 1) := by decide +kernel
theorem dX9_taken_39 : decode cX9_taken 39 = .ok (.iload_n 2, 1) := by decide +kernel
theorem dX9_taken_40 : decode cX9_taken 40 = .ok (.if_icmp .eq 11, 3) := by decide +kernel
theorem dX9_taken_43 : decode cX9_taken 43 = .ok (.iload_n 3, 1) := by decide +kernel
theorem dX9_taken_44 : decode cX9_taken 44 = .ok (.invokestatic 356, 3) := by decide +kernel
theorem dX9_taken_47 : decode cX9_taken 47 = .ok (.istore_n 3, 1) := by decide +kernel
theorem dX9_taken_48 : decode cX9_taken 48 = .ok (.goto (-15), 3) := by decide +kernel
theorem dX9_taken_51 : decode cX9_taken 51 = .ok (.iload_n 3, 1) := by decide +kernel
theorem dX9_taken_52 : decode cX9_taken 52 = .ok (.iload_n 2, 1) := by decide +kernel
theorem dX9_taken_53 : decode cX9_taken 53 = .ok (.if_icmp .ne 14, 3) := by decide +kernel
theorem dX9_taken_56 : decode cX9_taken 56 = .ok (.aload_n 0, 1) := by decide +kernel
theorem dX9_taken_57 : decode cX9_taken 57 = .ok (.getfield 26, 3) := by decide +kernel
theorem dX9_taken_60 : decode cX9_taken 60 = .ok (.iconst 3, 1) := by decide +kernel
theorem dX9_taken_61 : decode cX9_taken 61 = .ok (.iload_n 1, 1) := by decide +kernel
theorem dX9_taken_62 : decode cX9_taken 62 = .ok (.imul, 1) := by decide +kernel
theorem dX9_taken_63 : decode cX9_taken 63 = .ok (.iaload, 1) := by decide +kernel
theorem dX9_taken_64 : decode cX9_taken 64 = .ok (.goto 5, 3) := by decide +kernel
theorem dX9_taken_67 : decode cX9_taken 67 = .ok (.bipush (-13), 2) := by decide +kernel
theorem dX9_taken_69 : decode cX9_taken 69 = .ok (.ireturn, 1) := by decide +kernel
