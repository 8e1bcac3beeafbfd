theorem dX9_says_41 : decode cX9_says 41 = .ok (.imul, 1) := by decide +kernel
theorem dX9_says_42 : decode cX9_says 42 = .ok (.iconst 2, 1) := by decide +kernel
theorem dX9_says_43 : decode cX9_says 43 = .ok (.iadd, 1) := by decide +kernel
theorem dX9_says_44 : decode cX9_says 44 = .ok (.iaload, 1) := by decide +kernel
theorem dX9_says_45 : decode cX9_says 45 = .ok (.putfield 199, 3) := by decide +kernel
theorem dX9_says_48 : decode cX9_says 48 = .ok (.aload_n 0, 1) := by decide +kernel
theorem dX9_says_49 : decode cX9_says 49 = .ok (.iload_n 3, 1) := by decide +kernel
theorem dX9_says_50 : decode cX9_says 50 = .ok (.putfield 202, 3) := by decide +kernel
theorem dX9_says_53 : decode cX9_says 53 = .ok (.aload_n 0, 1) := by decide +kernel
theorem dX9_says_54 : decode cX9_says 54 = .ok (.aload_n 0, 1) := by decide +kernel
theorem dX9_says_55 : decode cX9_says 55 = .ok (.getfield 114, 3) := by decide +kernel
theorem dX9_says_58 : decode cX9_says 58 = .ok (.putfield 205, 3) := by decide +kernel
theorem dX9_says_61 : decode cX9_says 61 = .ok (.aload_n 0, 1) := by decide +kernel
theorem dX9_says_62 : decode cX9_says 62 = .ok (.iload_n 1, 1) := by decide +kernel
theorem dX9_says_63 : decode cX9_says 63 = .ok (.invokevirtual 248, 3) := by decide +kernel
theorem dX9_says_66 : decode cX9_says 66 = .ok (.istore 4, 2) := by decide +kernel
theorem dX9_says_68 : decode cX9_says 68 = .ok (.iload_n 1, 1) := by decide +kernel
theorem dX9_says_69 : decode cX9_says 69 = .ok (.iconst 1, 1) := by decide +kernel
theorem dX9_says_70 : decode cX9_says 70 = .ok (.if_icmp .ne 8, 3) := by decide +kernel
theorem dX9_says_73 : decode cX9_says 73 = .ok (.iload 4, 2) := by decide +kernel
theorem dX9_says_75 : decode cX9_says 75 = .ok (.goto 11, 3) := by decide +kernel
theorem dX9_says_78 : decode cX9_says 78 = .ok (.iload 4, 2) := by decide +kernel
theorem dX9_says_80 : decode cX9_says 80 = .ok (.iconst 0, 1) := by decide +kernel
theorem dX9_says_81 : decode cX9_says 81 = .ok (.bipush 99, 2) := by decide +kernel
theorem dX9_says_83 : decode cX9_says 83 = .ok (.invokestatic 251, 3) := by decide +kernel
theorem dX9_says_86 : decode cX9_says 86 = .ok (.ireturn, 1) := by decide +kernel
set_option maxRecDepth 20000 in
theorem ggX9_keptRead_X9_read : GoodIn wsX9_keptRead wsX9_read := goodIn_r _ [21, 22, 23, 24, 25, 26, 27, 28, 29, 30, 31, 20, 32, 33, 34, 35, 36, 37, 38, 39, 40, 41, 42, 43, 44, 45, 46, 47, 48, 49, 50, 51, 52, 53, 54, 55, 56, 57, 58, 59, 60, 61, 62, 63, 64, 65, 66, 67, 68, 69, 70, 71, 72, 73, 74, 75, 76, 77, 78, 79, 80, 81, 82, 83, 84, 85, 86, 87, 88, 89, 90, 91, 92, 4, 6, 8, 10, 11, 13, 93, 94, 95, 96, 97, 98, 99, 100, 101, 102, 103, 104, 105, 106, 107, 108, 109, 110, 111, 112, 113, 114, 115, 116, 117, 118, 119, 120, 121, 122, 123, 124, 125, 126, 127, 128, 129, 130, 131, 132, 133, 134, 135, 136, 137, 138, 139, 140, 141, 142, 143, 144, 145, 146] (by decide +kernel) (by decide +kernel)
set_option maxRecDepth 20000 in
theorem gX9_keptRead_X9_read : GoodIn wsX9_keptRead (wsV RX9 245 RX9 yX9_read wsX9_read) := goodIn_app (goodIn_of _ (by decide +kernel)) ggX9_keptRead_X9_read
theorem dX9_keptRead_0 : decode cX9_keptRead 0 = .ok (.aload_n 0, 1) := by decide +kernel
theorem dX9_keptRead_1 : decode cX9_keptRead 1 = .ok (.getfield 117, 3) := by decide +kernel
theorem dX9_keptRead_4 : decode cX9_keptRead 4 = .ok (.i2l, 1) := by decide +kernel
theorem dX9_keptRead_5 : decode cX9_keptRead 5 = .ok (.ldc2_w 255, 3) := by decide +kernel
theorem dX9_keptRead_8 : decode cX9_keptRead 8 = .ok (.lmul, 1) := by decide +kernel
theorem dX9_keptRead_9 : decode cX9_keptRead 9 = .ok (.iload_n 1, 1) := by decide +kernel
theorem dX9_keptRead_10 : decode cX9_keptRead 10 = .ok (.i2l, 1) := by decide +kernel
theorem dX9_keptRead_11 : decode cX9_keptRead 11 = .ok (.ladd, 1) := by decide +kernel
theorem dX9_keptRead_12 : decode cX9_keptRead 12 = .ok (.lstore_n 2, 1) := by decide +kernel
theorem dX9_keptRead_13 : decode cX9_keptRead 13 = .ok (.lload_n 2, 1) := by decide +kernel
theorem dX9_keptRead_14 : decode cX9_keptRead 14 = .ok (.ldc2_w 257, 3) := by decide +kernel
theorem dX9_keptRead_17 : decode cX9_keptRead 17 = .ok (.lmul, 1) := by decide +kernel
theorem dX9_keptRead_18 : decode cX9_keptRead 18 = .ok (.aload_n 0, 1) := by decide +kernel
theorem dX9_keptRead_19 : decode cX9_keptRead 19 = .ok (.getfield 190, 3) := by decide +kernel
theorem dX9_keptRead_22 : decode cX9_keptRead 22 = .ok (.i2l, 1) := by decide +kernel
theorem dX9_keptRead_23 : decode cX9_keptRead 23 = .ok (.ladd, 1) := by decide +kernel
theorem dX9_keptRead_24 : decode cX9_keptRead 24 = .ok (.lstore_n 2, 1) := by decide +kernel
theorem dX9_keptRead_25 : decode cX9_keptRead 25 = .ok (.lload_n 2, 1) := by decide +kernel
theorem dX9_keptRead_26 : decode cX9_keptRead 26 = .ok (.ldc2_w 259, 3) := by decide +kernel
theorem dX9_keptRead_29 : decode cX9_keptRead 29 = .ok (.lmul, 1) := by decide +kernel
theorem dX9_keptRead_30 : decode cX9_keptRead 30 = .ok (.aload_n 0, 1) := by decide +kernel
theorem dX9_keptRead_31 : decode cX9_keptRead 31 = .ok (.getfield 193, 3) := by decide +kernel
theorem dX9_keptRead_34 : decode cX9_keptRead 34 = .ok (.i2l, 1) := by decide +kernel
theorem dX9_keptRead_35 : decode cX9_keptRead 35 = .ok (.ladd, 1) := by decide +kernel
theorem dX9_keptRead_36 : decode cX9_keptRead 36 = .ok (.lstore_n 2, 1) := by decide +kernel
theorem dX9_keptRead_37 : decode cX9_keptRead 37 = .ok (.lload_n 2, 1) := by decide +kernel
theorem dX9_keptRead_38 : decode cX9_keptRead 38 = .ok (.ldc2_w 261, 3) := by decide +kernel
theorem dX9_keptRead_41 : decode cX9_keptRead 41 = .ok (.lmul, 1) := by decide +kernel
theorem dX9_keptRead_42 : decode cX9_keptRead 42 = .ok (.aload_n 0, 1) := by decide +kernel
theorem dX9_keptRead_43 : decode cX9_keptRead 43 = .ok (.getfield 196, 3) := by decide +kernel
theorem dX9_keptRead_46 : decode cX9_keptRead 46 = .ok (.i2l, 1) := by decide +kernel
theorem dX9_keptRead_47 : decode cX9_keptRead 47 = .ok (.ladd, 1) := by decide +kernel
theorem dX9_keptRead_48 : decode cX9_keptRead 48 = .ok (.lstore_n 2, 1) := by decide +kernel
theorem dX9_keptRead_49 : decode cX9_keptRead 49 = .ok (.lload_n 2, 1) := by decide +kernel
theorem dX9_keptRead_50 : decode cX9_keptRead 50 = .ok (.ldc2_w 263, 3) := by decide +kernel
theorem dX9_keptRead_53 : decode cX9_keptRead 53 = .ok (.lmul, 1) := by decide +kernel
theorem dX9_keptRead_54 : decode cX9_keptRead 54 = .ok (.aload_n 0, 1) := by decide +kernel
theorem dX9_keptRead_55 : decode cX9_keptRead 55 = .ok (.getfield 199, 3) := by decide +kernel
theorem dX9_keptRead_58 : decode cX9_keptRead 58 = .ok (.i2l, 1) := by decide +kernel
theorem dX9_keptRead_59 : decode cX9_keptRead 59 = .ok (.ladd, 1) := by decide +kernel
theorem dX9_keptRead_60 : decode cX9_keptRead 60 = .ok (.lstore_n 2, 1) := by decide +kernel
theorem dX9_keptRead_61 : decode cX9_keptRead 61 = .ok (.lload_n 2, 1) := by decide +kernel
theorem dX9_keptRead_62 : decode cX9_keptRead 62 = .ok (.ldc2_w 259, 3) := by decide +kernel
theorem dX9_keptRead_65 : decode cX9_keptRead 65 = .ok (.lmul, 1) := by decide +kernel
theorem dX9_keptRead_66 : decode cX9_keptRead 66 = .ok (.aload_n 0, 1) := by decide +kernel
theorem dX9_keptRead_67 : decode cX9_keptRead 67 = .ok (.getfield 202, 3) := by decide +kernel
theorem dX9_keptRead_70 : decode cX9_keptRead 70 = .ok (.i2l, 1) := by decide +kernel
theorem dX9_keptRead_71 : decode cX9_keptRead 71 = .ok (.ladd, 1) := by decide +kernel
theorem dX9_keptRead_72 : decode cX9_keptRead 72 = .ok (.lstore_n 2, 1) := by decide +kernel
theorem dX9_keptRead_73 : decode cX9_keptRead 73 = .ok (.lload_n 2, 1) := by decide +kernel
theorem dX9_keptRead_74 : decode cX9_keptRead 74 = .ok (.ldc2_w 265, 3) := by decide +kernel
theorem dX9_keptRead_77 : decode cX9_keptRead 77 = .ok (.lmul, 1) := by decide +kernel
theorem dX9_keptRead_78 : decode cX9_keptRead 78 = .ok (.aload_n 0, 1) := by decide +kernel
theorem dX9_keptRead_79 : decode cX9_keptRead 79 = .ok (.getfield 205, 3) := by decide +kernel
theorem dX9_keptRead_82 : decode cX9_keptRead 82 = .ok (.i2l, 1) := by decide +kernel
theorem dX9_keptRead_83 : decode cX9_keptRead 83 = .ok (.ladd, 1) := by decide +kernel
theorem dX9_keptRead_84 : decode cX9_keptRead 84 = .ok (.lconst 1, 1) := by decide +kernel
theorem dX9_keptRead_85 : decode cX9_keptRead 85 = .ok (.ladd, 1) := by decide +kernel
theorem dX9_keptRead_86 : decode cX9_keptRead 86 = .ok (.lstore_n 2, 1) := by decide +kernel
theorem dX9_keptRead_87 : decode cX9_keptRead 87 = .ok (.lload_n 2, 1) := by decide +kernel
theorem dX9_keptRead_88 : decode cX9_keptRead 88 = .ok (.ldc2_w 267, 3) := by decide +kernel
theorem dX9_keptRead_91 : decode cX9_keptRead 91 = .ok (.lmul, 1) := by decide +kernel
theorem dX9_keptRead_92 : decode cX9_keptRead 92 = .ok (.bipush 54, 2) := by decide +kernel
theorem dX9_keptRead_94 : decode cX9_keptRead 94 = .ok (.lushr, 1) := by decide +kernel
theorem dX9_keptRead_95 : decode cX9_keptRead 95 = .ok (.l2i, 1) := by decide +kernel
theorem dX9_keptRead_96 : decode cX9_keptRead 96 = .ok (.istore 4, 2) := by decide +kernel
theorem dX9_keptRead_98 : decode cX9_keptRead 98 = .ok (.aload_n 0, 1) := by decide +kernel
theorem dX9_keptRead_99 : decode cX9_keptRead 99 = .ok (.getfield 32, 3) := by decide +kernel
theorem dX9_keptRead_102 : decode cX9_keptRead 102 = .ok (.iload 4, 2) := by decide +kernel
theorem dX9_keptRead_104 : decode cX9_keptRead 104 = .ok (.laload, 1) := by decide +kernel
theorem dX9_keptRead_105 : decode cX9_keptRead 105 = .ok (.lload_n 2, 1) := by decide +kernel
theorem dX9_keptRead_106 : decode cX9_keptRead 106 = .ok (.lcmp, 1) := by decide +kernel
theorem dX9_keptRead_107 : decode cX9_keptRead 107 = .ok (.ifCond .eq 27, 3) := by decide +kernel
theorem dX9_keptRead_110 : decode cX9_keptRead 110 = .ok (.aload_n 0, 1) := by decide +kernel
theorem dX9_keptRead_111 : decode cX9_keptRead 111 = .ok (.getfield 36, 3) := by decide +kernel
theorem dX9_keptRead_114 : decode cX9_keptRead 114 = .ok (.iload 4, 2) := by decide +kernel
theorem dX9_keptRead_116 : decode cX9_keptRead 116 = .ok (.aload_n 0, 1) := by decide +kernel
theorem dX9_keptRead_117 : decode cX9_keptRead 117 = .ok (.aload_n 0, 1) := by decide +kernel
theorem dX9_keptRead_118 : decode cX9_keptRead 118 = .ok (.getfield 117, 3) := by decide +kernel
theorem dX9_keptRead_121 : decode cX9_keptRead 121 = .ok (.iload_n 1, 1) := by decide +kernel
theorem dX9_keptRead_122 : decode cX9_keptRead 122 = .ok (.invokevirtual 245, 3) := by decide +kernel
theorem dX9_keptRead_125 : decode cX9_keptRead 125 = .ok (.iastore, 1) := by decide +kernel
theorem dX9_keptRead_126 : decode cX9_keptRead 126 = .ok (.aload_n 0, 1) := by decide +kernel
theorem dX9_keptRead_127 : decode cX9_keptRead 127 = .ok (.getfield 32, 3) := by decide +kernel
theorem dX9_keptRead_130 : decode cX9_keptRead 130 = .ok (.iload 4, 2) := by decide +kernel
theorem dX9_keptRead_132 : decode cX9_keptRead 132 = .ok (.lload_n 2, 1) := by decide +kernel
theorem dX9_keptRead_133 : decode cX9_keptRead 133 = .ok (.lastore, 1) := by decide +kernel
theorem dX9_keptRead_134 : decode cX9_keptRead 134 = .ok (.aload_n 0, 1) := by decide +kernel
theorem dX9_keptRead_135 : decode cX9_keptRead 135 = .ok (.getfield 36, 3) := by decide +kernel
theorem dX9_keptRead_138 : decode cX9_keptRead 138 = .ok (.iload 4, 2) := by decide +kernel
theorem dX9_keptRead_140 : decode cX9_keptRead 140 = .ok (.iaload, 1) := by decide +kernel
theorem dX9_keptRead_141 : decode cX9_keptRead 141 = .ok (.ireturn, 1) := by decide +kernel
set_option maxRecDepth 20000 in
theorem ggX9_yieldsOf_X9_says : GoodIn wsX9_yieldsOf wsX9_says := goodIn_r _ [9, 2, 10, 11, 4, 12, 13, 14, 3, 15, 16, 17, 18, 8, 19, 20, 21, 22, 23, 24, 25, 26, 27, 28, 29, 30, 31, 32, 33, 34, 35, 36, 37, 38, 39, 40, 41, 42, 43, 44, 45, 46, 47, 48, 49, 50, 51, 52, 53, 54, 55, 56, 57, 58, 59, 60, 61, 62, 63, 64, 65, 66, 67, 68, 69, 70, 71, 72, 73, 74, 75, 76, 77, 78, 79, 80, 81, 82, 83, 84, 85, 86, 87, 88, 89, 90, 91, 92, 93, 94, 95, 96, 97, 98, 99, 100, 101, 102, 103, 104, 105, 106, 107, 108, 109, 110, 111, 112, 113, 114, 115, 116, 117, 118, 119, 120, 121, 122, 123, 124, 125, 126, 127, 128, 129, 130, 131, 132, 133, 134, 135, 136, 137, 138, 139, 140, 141, 142, 143, 144, 145, 146, 147, 148, 149, 150, 151, 152, 153, 154, 155, 156, 157, 158, 159, 160, 161] (by decide +kernel) (by decide +kernel)
set_option maxRecDepth 20000 in
theorem gX9_yieldsOf_X9_says : GoodIn wsX9_yieldsOf (wsV RX9 269 RX9 yX9_says wsX9_says) := goodIn_app (goodIn_of _ (by decide +kernel)) ggX9_yieldsOf_X9_says
set_option maxRecDepth 20000 in
theorem ggX9_yieldsOf_X9_within : GoodIn wsX9_yieldsOf wsX9_within := goodIn_r _ [117] (by decide +kernel) (by decide +kernel)
set_option maxRecDepth 20000 in
theorem gX9_yieldsOf_X9_within : GoodIn wsX9_yieldsOf (va_wsS RX9 251 yX9_within wsX9_within) := goodIn_app (goodIn_of _ (by decide +kernel)) ggX9_yieldsOf_X9_within
theorem dX9_yieldsOf_0 : decode cX9_yieldsOf 0 = .ok (.aload_n 0, 1) := by decide +kernel
theorem dX9_yieldsOf_1 : decode cX9_yieldsOf 1 = .ok (.getfield 23, 3) := by decide +kernel
theorem dX9_yieldsOf_4 : decode cX9_yieldsOf 4 = .ok (.iload_n 1, 1) := by decide +kernel
theorem dX9_yieldsOf_5 : decode cX9_yieldsOf 5 = .ok (.iaload, 1) := by decide +kernel
theorem dX9_yieldsOf_6 : decode cX9_yieldsOf 6 = .ok (.istore_n 2, 1) := by decide +kernel
theorem dX9_yieldsOf_7 : decode cX9_yieldsOf 7 = .ok (.aload_n 0, 1) := by decide +kernel
theorem dX9_yieldsOf_8 : decode cX9_yieldsOf 8 = .ok (.getfield 26, 3) := by decide +kernel
theorem dX9_yieldsOf_11 : decode cX9_yieldsOf 11 = .ok (.iconst 3, 1) := by decide +kernel
theorem dX9_yieldsOf_12 : decode cX9_yieldsOf 12 = .ok (.iload_n 1, 1) := by decide +kernel
theorem dX9_yieldsOf_13 : decode cX9_yieldsOf 13 = .ok (.imul, 1) := by decide +kernel
theorem dX9_yieldsOf_14 : decode cX9_yieldsOf 14 = .ok (.iconst 1, 1) := by decide +kernel
theorem dX9_yieldsOf_15 : decode cX9_yieldsOf 15 = .ok (.iadd, 1) := by decide +kernel
theorem dX9_yieldsOf_16 : decode cX9_yieldsOf 16 = .ok (.iaload, 1) := by decide +kernel
theorem dX9_yieldsOf_17 : decode cX9_yieldsOf 17 = .ok (.ifCond .eq 35, 3) := by decide +kernel
theorem dX9_yieldsOf_20 : decode cX9_yieldsOf 20 = .ok (.iload_n 2, 1) := by decide +kernel
theorem dX9_yieldsOf_21 : decode cX9_yieldsOf 21 = .ok (.iconst 4, 1) := by decide +kernel
theorem dX9_yieldsOf_22 : decode cX9_yieldsOf 22 = .ok (.if_icmp .ne 12, 3) := by decide +kernel
theorem dX9_yieldsOf_25 : decode cX9_yieldsOf 25 = .ok (.aload_n 0, 1) := by decide +kernel
theorem dX9_yieldsOf_26 : decode cX9_yieldsOf 26 = .ok (.getfield 114, 3) := by decide +kernel
theorem dX9_yieldsOf_29 : decode cX9_yieldsOf 29 = .ok (.bipush 11, 2) := by decide +kernel
theorem dX9_yieldsOf_31 : decode cX9_yieldsOf 31 = .ok (.if_icmp .lt 21, 3) := by decide +kernel
theorem dX9_yieldsOf_34 : decode cX9_yieldsOf 34 = .ok (.iload_n 2, 1) := by decide +kernel
theorem dX9_yieldsOf_35 : decode cX9_yieldsOf 35 = .ok (.iconst 5, 1) := by decide +kernel
theorem dX9_yieldsOf_36 : decode cX9_yieldsOf 36 = .ok (.if_icmp .ne 18, 3) := by decide +kernel
theorem dX9_yieldsOf_39 : decode cX9_yieldsOf 39 = .ok (.aload_n 0, 1) := by decide +kernel
theorem dX9_yieldsOf_40 : decode cX9_yieldsOf 40 = .ok (.getfield 26, 3) := by decide +kernel
theorem dX9_yieldsOf_43 : decode cX9_yieldsOf 43 = .ok (.iconst 3, 1) := by decide +kernel
theorem dX9_yieldsOf_44 : decode cX9_yieldsOf 44 = .ok (.iload_n 1, 1) := by decide +kernel
theorem dX9_yieldsOf_45 : decode cX9_yieldsOf 45 = .ok (.imul, 1) := by decide +kernel
theorem dX9_yieldsOf_46 : decode cX9_yieldsOf 46 = .ok (.iconst 2, 1) := by decide +kernel
theorem dX9_yieldsOf_47 : decode cX9_yieldsOf 47 = .ok (.iadd, 1) := by decide +kernel
theorem dX9_yieldsOf_48 : decode cX9_yieldsOf 48 = .ok (.iaload, 1) := by decide +kernel
theorem dX9_yieldsOf_49 : decode cX9_yieldsOf 49 = .ok (.ifCond .le 5, 3) := by decide +kernel
theorem dX9_yieldsOf_52 : decode cX9_yieldsOf 52 = .ok (.iconst 0, 1) := by decide +kernel
theorem dX9_yieldsOf_53 : decode cX9_yieldsOf 53 = .ok (.ireturn, 1) := by decide +kernel
theorem dX9_yieldsOf_54 : decode cX9_yieldsOf 54 = .ok (.aload_n 0, 1) := by decide +kernel
theorem dX9_yieldsOf_55 : decode cX9_yieldsOf 55 = .ok (.iconst 0, 1) := by decide +kernel
theorem dX9_yieldsOf_56 : decode cX9_yieldsOf 56 = .ok (.iload_n 1, 1) := by decide +kernel
theorem dX9_yieldsOf_57 : decode cX9_yieldsOf 57 = .ok (.iconst 0, 1) := by decide +kernel
theorem dX9_yieldsOf_58 : decode cX9_yieldsOf 58 = .ok (.invokevirtual 269, 3) := by decide +kernel
theorem dX9_yieldsOf_61 : decode cX9_yieldsOf 61 = .ok (.istore_n 3, 1) := by decide +kernel
theorem dX9_yieldsOf_62 : decode cX9_yieldsOf 62 = .ok (.aload_n 0, 1) := by decide +kernel
theorem dX9_yieldsOf_63 : decode cX9_yieldsOf 63 = .ok (.getfield 111, 3) := by decide +kernel
theorem dX9_yieldsOf_66 : decode cX9_yieldsOf 66 = .ok (.iconst 2, 1) := by decide +kernel
theorem dX9_yieldsOf_67 : decode cX9_yieldsOf 67 = .ok (.irem, 1) := by decide +kernel
theorem dX9_yieldsOf_68 : decode cX9_yieldsOf 68 = .ok (.iconst 1, 1) := by decide +kernel
theorem dX9_yieldsOf_69 : decode cX9_yieldsOf 69 = .ok (.if_icmp .ne 16, 3) := by decide +kernel
theorem dX9_yieldsOf_72 : decode cX9_yieldsOf 72 = .ok (.iload_n 3, 1) := by decide +kernel
theorem dX9_yieldsOf_73 : decode cX9_yieldsOf 73 = .ok (.aload_n 0, 1) := by decide +kernel
theorem dX9_yieldsOf_74 : decode cX9_yieldsOf 74 = .ok (.getfield 26, 3) := by decide +kernel
theorem dX9_yieldsOf_77 : decode cX9_yieldsOf 77 = .ok (.iconst 3, 1) := by decide +kernel
theorem dX9_yieldsOf_78 : decode cX9_yieldsOf 78 = .ok (.iload_n 1, 1) := by decide +kernel
theorem dX9_yieldsOf_79 : decode cX9_yieldsOf 79 = .ok (.imul, 1) := by decide +kernel
theorem dX9_yieldsOf_80 : decode cX9_yieldsOf 80 = .ok (.iaload, 1) := by decide +kernel
theorem dX9_yieldsOf_81 : decode cX9_yieldsOf 81 = .ok (.iadd, 1) := by decide +kernel
theorem dX9_yieldsOf_82 : decode cX9_yieldsOf 82 = .ok (.goto 4, 3) := by decide +kernel
theorem dX9_yieldsOf_85 : decode cX9_yieldsOf 85 = .ok (.iload_n 3, 1) := by decide +kernel
theorem dX9_yieldsOf_86 : decode cX9_yieldsOf 86 = .ok (.iconst 0, 1) := by decide +kernel
theorem dX9_yieldsOf_87 : decode cX9_yieldsOf 87 = .ok (.bipush 99, 2) := by decide +kernel
theorem dX9_yieldsOf_89 : decode cX9_yieldsOf 89 = .ok (.invokestatic 251, 3) := by decide +kernel
theorem dX9_yieldsOf_92 : decode cX9_yieldsOf 92 = .ok (.istore 4, 2) := by decide +kernel
theorem dX9_yieldsOf_94 : decode cX9_yieldsOf 94 = .ok (.iload_n 2, 1) := by decide +kernel
theorem dX9_yieldsOf_95 : decode cX9_yieldsOf 95 = .ok (.iconst 1, 1) := by decide +kernel
theorem dX9_yieldsOf_96 : decode cX9_yieldsOf 96 = .ok (.if_icmp .ne 8, 3) := by decide +kernel
theorem dX9_yieldsOf_99 : decode cX9_yieldsOf 99 = .ok (.iload 4, 2) := by decide +kernel
theorem dX9_yieldsOf_101 : decode cX9_yieldsOf 101 = .ok (.goto 36, 3) := by decide +kernel
theorem dX9_yieldsOf_104 : decode cX9_yieldsOf 104 = .ok (.iload_n 2, 1) := by decide +kernel
theorem dX9_yieldsOf_105 : decode cX9_yieldsOf 105 = .ok (.iconst 3, 1) := by decide +kernel
theorem dX9_yieldsOf_106 : decode cX9_yieldsOf 106 = .ok (.if_icmp .ne 14, 3) := by decide +kernel
theorem dX9_yieldsOf_109 : decode cX9_yieldsOf 109 = .ok (.iload 4, 2) := by decide +kernel
theorem dX9_yieldsOf_111 : decode cX9_yieldsOf 111 = .ok (.iconst 0, 1) := by decide +kernel
theorem dX9_yieldsOf_112 : decode cX9_yieldsOf 112 = .ok (.bipush 20, 2) := by decide +kernel
theorem dX9_yieldsOf_114 : decode cX9_yieldsOf 114 = .ok (.invokestatic 251, 3) := by decide +kernel
theorem dX9_yieldsOf_117 : decode cX9_yieldsOf 117 = .ok (.goto 20, 3) := by decide +kernel
theorem dX9_yieldsOf_120 : decode cX9_yieldsOf 120 = .ok (.iload_n 2, 1) := by decide +kernel
theorem dX9_yieldsOf_121 : decode cX9_yieldsOf 121 = .ok (.iconst 2, 1) := by decide +kernel
theorem dX9_yieldsOf_122 : decode cX9_yieldsOf 122 = .ok (.if_icmp .eq 8, 3) := by decide +kernel
theorem dX9_yieldsOf_125 : decode cX9_yieldsOf 125 = .ok (.iload_n 2, 1) := by decide +kernel
theorem dX9_yieldsOf_126 : decode cX9_yieldsOf 126 = .ok (.iconst 4, 1) := by decide +kernel
theorem dX9_yieldsOf_127 : decode cX9_yieldsOf 127 = .ok (.if_icmp .ne 9, 3) := by decide +kernel
theorem dX9_yieldsOf_130 : decode cX9_yieldsOf 130 = .ok (.iconst 2, 1) := by decide +kernel
theorem dX9_yieldsOf_131 : decode cX9_yieldsOf 131 = .ok (.iload_n 3, 1) := by decide +kernel
theorem dX9_yieldsOf_132 : decode cX9_yieldsOf 132 = .ok (.imul, 1) := by decide +kernel
theorem dX9_yieldsOf_133 : decode cX9_yieldsOf 133 = .ok (.goto 4, 3) := by decide +kernel
theorem dX9_yieldsOf_136 : decode cX9_yieldsOf 136 = .ok (.iload_n 3, 1) := by decide +kernel
theorem dX9_yieldsOf_137 : decode cX9_yieldsOf 137 = .ok (.iconst 0, 1) := by decide +kernel
theorem dX9_yieldsOf_138 : decode cX9_yieldsOf 138 = .ok (.bipush 99, 2) := by decide +kernel
theorem dX9_yieldsOf_140 : decode cX9_yieldsOf 140 = .ok (.invokestatic 251, 3) := by decide +kernel
theorem dX9_yieldsOf_143 : decode cX9_yieldsOf 143 = .ok (.ireturn, 1) := by decide +kernel
set_option maxRecDepth 20000 in
theorem ggX9_suits_X9_says : GoodIn wsX9_suits wsX9_says := goodIn_r _ [8, 3, 9, 10, 11, 12, 13, 14, 15, 16, 17, 18, 19, 7, 20, 21, 22, 23, 24, 25, 26, 27, 28, 29, 30, 31, 32, 33, 34, 35, 36, 37, 38, 39, 40, 41, 42, 43, 44, 45, 46, 47, 48, 49, 50, 51, 52, 53, 54, 55, 56, 57, 58, 59, 60, 61, 62, 63, 64, 65, 66, 67, 68, 69, 70, 71, 72, 73, 74, 75, 76, 77, 78, 79, 80, 81, 82, 83, 84, 85, 86, 87, 88, 89, 90, 91, 92, 93, 94, 95, 96, 97, 98, 99, 100, 101, 102, 103, 104, 105, 106, 107, 108, 109, 110, 111, 112, 113, 114, 115, 116, 117, 118, 119, 120, 121, 122, 123, 124, 125, 126, 127, 128, 129, 130, 131, 132, 133, 134, 135, 136, 137, 138, 139, 140, 141, 142, 143, 144, 145, 146, 147, 148, 149, 150, 151, 152, 153, 154, 155, 156, 157, 158, 159, 160, 161, 162] (by decide +kernel) (by decide +kernel)
set_option maxRecDepth 20000 in
theorem gX9_suits_X9_says : GoodIn wsX9_suits (wsV RX9 269 RX9 yX9_says wsX9_says) := goodIn_app (goodIn_of _ (by decide +kernel)) ggX9_suits_X9_says
theorem dX9_suits_0 : decode cX9_suits 0 = .ok (.aload_n 0, 1) := by decide +kernel
theorem dX9_suits_1 : decode cX9_suits 1 = .ok (.getfield 23, 3) := by decide +kernel
theorem dX9_suits_4 : decode cX9_suits 4 = .ok (.iload_n 1, 1) := by decide +kernel
theorem dX9_suits_5 : decode cX9_suits 5 = .ok (.iaload, 1) := by decide +kernel
theorem dX9_suits_6 : decode cX9_suits 6 = .ok (.istore_n 3, 1) := by decide +kernel
theorem dX9_suits_7 : decode cX9_suits 7 = .ok (.aload_n 0, 1) := by decide +kernel
theorem dX9_suits_8 : decode cX9_suits 8 = .ok (.getfield 29, 3) := by decide +kernel
theorem dX9_suits_11 : decode cX9_suits 11 = .ok (.iconst 3, 1) := by decide +kernel
theorem dX9_suits_12 : decode cX9_suits 12 = .ok (.iload_n 2, 1) := by decide +kernel
theorem dX9_suits_13 : decode cX9_suits 13 = .ok (.imul, 1) := by decide +kernel
theorem dX9_suits_14 : decode cX9_suits 14 = .ok (.iconst 1, 1) := by decide +kernel
theorem dX9_suits_15 : decode cX9_suits 15 = .ok (.iadd, 1) := by decide +kernel
theorem dX9_suits_16 : decode cX9_suits 16 = .ok (.iaload, 1) := by decide +kernel
theorem dX9_suits_17 : decode cX9_suits 17 = .ok (.istore 4, 2) := by decide +kernel
theorem dX9_suits_19 : decode cX9_suits 19 = .ok (.iload_n 3, 1) := by decide +kernel
theorem dX9_suits_20 : decode cX9_suits 20 = .ok (.iconst 4, 1) := by decide +kernel
theorem dX9_suits_21 : decode cX9_suits 21 = .ok (.if_icmp .eq 8, 3) := by decide +kernel
theorem dX9_suits_24 : decode cX9_suits 24 = .ok (.iload_n 3, 1) := by decide +kernel
theorem dX9_suits_25 : decode cX9_suits 25 = .ok (.iconst 5, 1) := by decide +kernel
theorem dX9_suits_26 : decode cX9_suits 26 = .ok (.if_icmp .ne 19, 3) := by decide +kernel
theorem dX9_suits_29 : decode cX9_suits 29 = .ok (.iload_n 3, 1) := by decide +kernel
theorem dX9_suits_30 : decode cX9_suits 30 = .ok (.iconst 5, 1) := by decide +kernel
theorem dX9_suits_31 : decode cX9_suits 31 = .ok (.if_icmp .eq 8, 3) := by decide +kernel
theorem dX9_suits_34 : decode cX9_suits 34 = .ok (.iload_n 2, 1) := by decide +kernel
theorem dX9_suits_35 : decode cX9_suits 35 = .ok (.iconst 5, 1) := by decide +kernel
theorem dX9_suits_36 : decode cX9_suits 36 = .ok (.if_icmp .ne 7, 3) := by decide +kernel
theorem dX9_suits_39 : decode cX9_suits 39 = .ok (.iconst 1, 1) := by decide +kernel
theorem dX9_suits_40 : decode cX9_suits 40 = .ok (.goto 4, 3) := by decide +kernel
theorem dX9_suits_43 : decode cX9_suits 43 = .ok (.iconst 0, 1) := by decide +kernel
theorem dX9_suits_44 : decode cX9_suits 44 = .ok (.ireturn, 1) := by decide +kernel
theorem dX9_suits_45 : decode cX9_suits 45 = .ok (.aload_n 0, 1) := by decide +kernel
theorem dX9_suits_46 : decode cX9_suits 46 = .ok (.iconst 1, 1) := by decide +kernel
theorem dX9_suits_47 : decode cX9_suits 47 = .ok (.iload_n 1, 1) := by decide +kernel
theorem dX9_suits_48 : decode cX9_suits 48 = .ok (.iload 4, 2) := by decide +kernel
theorem dX9_suits_50 : decode cX9_suits 50 = .ok (.invokevirtual 269, 3) := by decide +kernel
theorem dX9_suits_53 : decode cX9_suits 53 = .ok (.ifCond .eq 7, 3) := by decide +kernel
theorem dX9_suits_56 : decode cX9_suits 56 = .ok (.iconst 1, 1) := by decide +kernel
theorem dX9_suits_57 : decode cX9_suits 57 = .ok (.goto 4, 3) := by decide +kernel
theorem dX9_suits_60 : decode cX9_suits 60 = .ok (.iconst 0, 1) := by decide +kernel
theorem dX9_suits_61 : decode cX9_suits 61 = .ok (.istore 5, 2) := by decide +kernel
theorem dX9_suits_63 : decode cX9_suits 63 = .ok (.iload 5, 2) := by decide +kernel
theorem dX9_suits_65 : decode cX9_suits 65 = .ok (.ifCond .eq 20, 3) := by decide +kernel
theorem dX9_suits_68 : decode cX9_suits 68 = .ok (.iload 4, 2) := by decide +kernel
theorem dX9_suits_70 : decode cX9_suits 70 = .ok (.aload_n 0, 1) := by decide +kernel
theorem dX9_suits_71 : decode cX9_suits 71 = .ok (.getfield 26, 3) := by decide +kernel
theorem dX9_suits_74 : decode cX9_suits 74 = .ok (.iconst 3, 1) := by decide +kernel
theorem dX9_suits_75 : decode cX9_suits 75 = .ok (.iload_n 1, 1) := by decide +kernel
theorem dX9_suits_76 : decode cX9_suits 76 = .ok (.imul, 1) := by decide +kernel
theorem dX9_suits_77 : decode cX9_suits 77 = .ok (.iaload, 1) := by decide +kernel
theorem dX9_suits_78 : decode cX9_suits 78 = .ok (.if_icmp .eq 7, 3) := by decide +kernel
theorem dX9_suits_81 : decode cX9_suits 81 = .ok (.iconst 1, 1) := by decide +kernel
theorem dX9_suits_82 : decode cX9_suits 82 = .ok (.goto 4, 3) := by decide +kernel
theorem dX9_suits_85 : decode cX9_suits 85 = .ok (.iconst 0, 1) := by decide +kernel
theorem dX9_suits_86 : decode cX9_suits 86 = .ok (.istore 6, 2) := by decide +kernel
theorem dX9_suits_88 : decode cX9_suits 88 = .ok (.iload_n 3, 1) := by decide +kernel
theorem dX9_suits_89 : decode cX9_suits 89 = .ok (.iconst 1, 1) := by decide +kernel
theorem dX9_suits_90 : decode cX9_suits 90 = .ok (.if_icmp .ne 8, 3) := by decide +kernel
theorem dX9_suits_93 : decode cX9_suits 93 = .ok (.iload 6, 2) := by decide +kernel
theorem dX9_suits_95 : decode cX9_suits 95 = .ok (.goto 54, 3) := by decide +kernel
theorem dX9_suits_98 : decode cX9_suits 98 = .ok (.iload_n 3, 1) := by decide +kernel
theorem dX9_suits_99 : decode cX9_suits 99 = .ok (.iconst 3, 1) := by decide +kernel
theorem dX9_suits_100 : decode cX9_suits 100 = .ok (.if_icmp .ne 23, 3) := by decide +kernel
theorem dX9_suits_103 : decode cX9_suits 103 = .ok (.iload 6, 2) := by decide +kernel
theorem dX9_suits_105 : decode cX9_suits 105 = .ok (.ifCond .ne 10, 3) := by decide +kernel
theorem dX9_suits_108 : decode cX9_suits 108 = .ok (.iload 4, 2) := by decide +kernel
theorem dX9_suits_110 : decode cX9_suits 110 = .ok (.bipush 9, 2) := by decide +kernel
theorem dX9_suits_112 : decode cX9_suits 112 = .ok (.if_icmp .ne 7, 3) := by decide +kernel
theorem dX9_suits_115 : decode cX9_suits 115 = .ok (.iconst 1, 1) := by decide +kernel
theorem dX9_suits_116 : decode cX9_suits 116 = .ok (.goto 33, 3) := by decide +kernel
theorem dX9_suits_119 : decode cX9_suits 119 = .ok (.iconst 0, 1) := by decide +kernel
theorem dX9_suits_120 : decode cX9_suits 120 = .ok (.goto 29, 3) := by decide +kernel
theorem dX9_suits_123 : decode cX9_suits 123 = .ok (.iload_n 3, 1) := by decide +kernel
theorem dX9_suits_124 : decode cX9_suits 124 = .ok (.iconst 2, 1) := by decide +kernel
theorem dX9_suits_125 : decode cX9_suits 125 = .ok (.if_icmp .ne 22, 3) := by decide +kernel
theorem dX9_suits_128 : decode cX9_suits 128 = .ok (.iload 5, 2) := by decide +kernel
theorem dX9_suits_130 : decode cX9_suits 130 = .ok (.ifCond .ne 9, 3) := by decide +kernel
theorem dX9_suits_133 : decode cX9_suits 133 = .ok (.iload 4, 2) := by decide +kernel
theorem dX9_suits_135 : decode cX9_suits 135 = .ok (.iconst 3, 1) := by decide +kernel
theorem dX9_suits_136 : decode cX9_suits 136 = .ok (.if_icmp .ge 7, 3) := by decide +kernel
theorem dX9_suits_139 : decode cX9_suits 139 = .ok (.iconst 1, 1) := by decide +kernel
theorem dX9_suits_140 : decode cX9_suits 140 = .ok (.goto 9, 3) := by decide +kernel
theorem dX9_suits_143 : decode cX9_suits 143 = .ok (.iconst 0, 1) := by decide +kernel
theorem dX9_suits_144 : decode cX9_suits 144 = .ok (.goto 5, 3) := by decide +kernel
theorem dX9_suits_147 : decode cX9_suits 147 = .ok (.iload 5, 2) := by decide +kernel
theorem dX9_suits_149 : decode cX9_suits 149 = .ok (.ireturn, 1) := by decide +kernel
set_option maxRecDepth 20000 in
theorem ggX9_suitSet_X9_suits : GoodIn wsX9_suitSet wsX9_suits := goodIn_r _ [5, 6, 7, 8, 9, 10, 11, 4, 12, 13, 14, 15, 16, 17, 18, 19, 20, 21, 22, 23, 24, 25, 26, 27, 28, 29, 30, 31, 32, 33, 34, 35, 36, 37, 38, 39, 40, 41, 42, 43, 44, 45, 46, 47, 48, 49, 50, 51, 52, 53, 54, 55, 56, 57, 58, 59, 60, 61, 62, 63, 64, 65, 66, 67, 68, 69, 70, 71, 72, 73, 74, 75, 76, 77, 78, 79, 80, 81, 82, 83, 84, 85, 86, 87, 88, 89, 90, 91, 92, 93, 94, 95, 96, 97, 98, 99, 100, 101, 102, 103, 104, 105, 106, 107, 108, 109, 110, 111, 112, 113, 114, 115, 116, 117, 118, 119, 120, 121, 122, 123, 124, 125, 126, 127, 128, 129, 130, 131, 132, 133, 134, 135, 136, 137, 138, 139, 140, 141, 142, 143, 144, 145, 146, 147, 148, 149, 150, 151, 152, 153, 154, 155, 156, 157, 158, 159, 160, 161, 162, 163, 164, 165, 166] (by decide +kernel) (by decide +kernel)
set_option maxRecDepth 20000 in
theorem gX9_suitSet_X9_suits : GoodIn wsX9_suitSet (wsV RX9 272 RX9 yX9_suits wsX9_suits) := goodIn_app (goodIn_of _ (by decide +kernel)) ggX9_suitSet_X9_suits
theorem dX9_suitSet_0 : decode cX9_suitSet 0 = .ok (.iconst 0, 1) := by decide +kernel
theorem dX9_suitSet_1 : decode cX9_suitSet 1 = .ok (.istore_n 2, 1) := by decide +kernel
theorem dX9_suitSet_2 : decode cX9_suitSet 2 = .ok (.iconst 0, 1) := by decide +kernel
theorem dX9_suitSet_3 : decode cX9_suitSet 3 = .ok (.istore_n 3, 1) := by decide +kernel
theorem dX9_suitSet_4 : decode cX9_suitSet 4 = .ok (.iload_n 3, 1) := by decide +kernel
theorem dX9_suitSet_5 : decode cX9_suitSet 5 = .ok (.bipush 6, 2) := by decide +kernel
theorem dX9_suitSet_7 : decode cX9_suitSet 7 = .ok (.if_icmp .ge 28, 3) := by decide +kernel
theorem dX9_suitSet_10 : decode cX9_suitSet 10 = .ok (.iload_n 2, 1) := by decide +kernel
theorem dX9_suitSet_11 : decode cX9_suitSet 11 = .ok (.aload_n 0, 1) := by decide +kernel
theorem dX9_suitSet_12 : decode cX9_suitSet 12 = .ok (.iload_n 1, 1) := by decide +kernel
theorem dX9_suitSet_13 : decode cX9_suitSet 13 = .ok (.iload_n 3, 1) := by decide +kernel
theorem dX9_suitSet_14 : decode cX9_suitSet 14 = .ok (.invokevirtual 272, 3) := by decide +kernel
theorem dX9_suitSet_17 : decode cX9_suitSet 17 = .ok (.ifCond .eq 7, 3) := by decide +kernel
theorem dX9_suitSet_20 : decode cX9_suitSet 20 = .ok (.iconst 1, 1) := by decide +kernel
theorem dX9_suitSet_21 : decode cX9_suitSet 21 = .ok (.goto 4, 3) := by decide +kernel
theorem dX9_suitSet_24 : decode cX9_suitSet 24 = .ok (.iconst 0, 1) := by decide +kernel
theorem dX9_suitSet_25 : decode cX9_suitSet 25 = .ok (.iload_n 3, 1) := by decide +kernel
theorem dX9_suitSet_26 : decode cX9_suitSet 26 = .ok (.ishl, 1) := by decide +kernel
theorem dX9_suitSet_27 : decode cX9_suitSet 27 = .ok (.ior, 1) := by decide +kernel
theorem dX9_suitSet_28 : decode cX9_suitSet 28 = .ok (.istore_n 2, 1) := by decide +kernel
theorem dX9_suitSet_29 : decode cX9_suitSet 29 = .ok (.iinc 3 1, 3) := by decide +kernel
theorem dX9_suitSet_32 : decode cX9_suitSet 32 = .ok (.goto (-28), 3) := by decide +kernel
theorem dX9_suitSet_35 : decode cX9_suitSet 35 = .ok (.iload_n 2, 1) := by decide +kernel
theorem dX9_suitSet_36 : decode cX9_suitSet 36 = .ok (.ireturn, 1) := by decide +kernel
set_option maxRecDepth 20000 in
theorem ggX9_easedBy_X9_says : GoodIn wsX9_easedBy wsX9_says := goodIn_r _ [8, 2, 9, 10, 3, 11, 12, 13, 14, 15, 16, 17, 18, 7, 19, 20, 21, 22, 23, 24, 25, 26, 27, 28, 29, 30, 31, 32, 33, 34, 35, 36, 37, 38, 39, 40, 41, 42, 43, 44, 45, 46, 47, 48, 49, 50, 51, 52, 53, 54, 55, 56, 57, 58, 59, 60, 61, 62, 63, 64, 65, 66, 67, 68, 69, 70, 71, 72, 73, 74, 75, 76, 77, 78, 79, 80, 81, 82, 83, 84, 85, 86, 87, 88, 89, 90, 91, 92, 93, 94, 95, 96, 97, 98, 99, 100, 101, 102, 103, 104, 105, 106, 107, 108, 109, 110, 111, 112, 113, 114, 115, 116, 117, 118, 119, 120, 121, 122, 123, 124, 125, 126, 127, 128, 129, 130, 131, 132, 133, 134, 135, 136, 137, 138, 139, 140, 141, 142, 143, 144, 145, 146, 147, 148, 149, 150, 151, 152, 153, 154, 155, 156, 157, 158, 159, 160, 161] (by decide +kernel) (by decide +kernel)
set_option maxRecDepth 20000 in
theorem gX9_easedBy_X9_says : GoodIn wsX9_easedBy (wsV RX9 269 RX9 yX9_says wsX9_says) := goodIn_app (goodIn_of _ (by decide +kernel)) ggX9_easedBy_X9_says
theorem dX9_easedBy_0 : decode cX9_easedBy 0 = .ok (.aload_n 0, 1) := by decide +kernel
theorem dX9_easedBy_1 : decode cX9_easedBy 1 = .ok (.getfield 23, 3) := by decide +kernel
theorem dX9_easedBy_4 : decode cX9_easedBy 4 = .ok (.iload_n 1, 1) := by decide +kernel
theorem dX9_easedBy_5 : decode cX9_easedBy 5 = .ok (.iaload, 1) := by decide +kernel
theorem dX9_easedBy_6 : decode cX9_easedBy 6 = .ok (.istore_n 2, 1) := by decide +kernel
theorem dX9_easedBy_7 : decode cX9_easedBy 7 = .ok (.iload_n 2, 1) := by decide +kernel
theorem dX9_easedBy_8 : decode cX9_easedBy 8 = .ok (.iconst 2, 1) := by decide +kernel
theorem dX9_easedBy_9 : decode cX9_easedBy 9 = .ok (.if_icmp .eq 8, 3) := by decide +kernel
theorem dX9_easedBy_12 : decode cX9_easedBy 12 = .ok (.iload_n 2, 1) := by decide +kernel
theorem dX9_easedBy_13 : decode cX9_easedBy 13 = .ok (.iconst 4, 1) := by decide +kernel
theorem dX9_easedBy_14 : decode cX9_easedBy 14 = .ok (.if_icmp .ne 22, 3) := by decide +kernel
theorem dX9_easedBy_17 : decode cX9_easedBy 17 = .ok (.iload_n 2, 1) := by decide +kernel
theorem dX9_easedBy_18 : decode cX9_easedBy 18 = .ok (.iconst 4, 1) := by decide +kernel
theorem dX9_easedBy_19 : decode cX9_easedBy 19 = .ok (.if_icmp .ne 15, 3) := by decide +kernel
theorem dX9_easedBy_22 : decode cX9_easedBy 22 = .ok (.aload_n 0, 1) := by decide +kernel
theorem dX9_easedBy_23 : decode cX9_easedBy 23 = .ok (.getfield 26, 3) := by decide +kernel
theorem dX9_easedBy_26 : decode cX9_easedBy 26 = .ok (.iconst 3, 1) := by decide +kernel
theorem dX9_easedBy_27 : decode cX9_easedBy 27 = .ok (.iload_n 1, 1) := by decide +kernel
theorem dX9_easedBy_28 : decode cX9_easedBy 28 = .ok (.imul, 1) := by decide +kernel
theorem dX9_easedBy_29 : decode cX9_easedBy 29 = .ok (.iaload, 1) := by decide +kernel
theorem dX9_easedBy_30 : decode cX9_easedBy 30 = .ok (.ineg, 1) := by decide +kernel
theorem dX9_easedBy_31 : decode cX9_easedBy 31 = .ok (.goto 4, 3) := by decide +kernel
theorem dX9_easedBy_34 : decode cX9_easedBy 34 = .ok (.iconst 0, 1) := by decide +kernel
theorem dX9_easedBy_35 : decode cX9_easedBy 35 = .ok (.ireturn, 1) := by decide +kernel
theorem dX9_easedBy_36 : decode cX9_easedBy 36 = .ok (.iload_n 2, 1) := by decide +kernel
theorem dX9_easedBy_37 : decode cX9_easedBy 37 = .ok (.iconst 5, 1) := by decide +kernel
theorem dX9_easedBy_38 : decode cX9_easedBy 38 = .ok (.if_icmp .ne 27, 3) := by decide +kernel
theorem dX9_easedBy_41 : decode cX9_easedBy 41 = .ok (.aload_n 0, 1) := by decide +kernel
theorem dX9_easedBy_42 : decode cX9_easedBy 42 = .ok (.getfield 26, 3) := by decide +kernel
theorem dX9_easedBy_45 : decode cX9_easedBy 45 = .ok (.iconst 3, 1) := by decide +kernel
theorem dX9_easedBy_46 : decode cX9_easedBy 46 = .ok (.iload_n 1, 1) := by decide +kernel
theorem dX9_easedBy_47 : decode cX9_easedBy 47 = .ok (.imul, 1) := by decide +kernel
theorem dX9_easedBy_48 : decode cX9_easedBy 48 = .ok (.iconst 2, 1) := by decide +kernel
theorem dX9_easedBy_49 : decode cX9_easedBy 49 = .ok (.iadd, 1) := by decide +kernel
theorem dX9_easedBy_50 : decode cX9_easedBy 50 = .ok (.iaload, 1) := by decide +kernel
theorem dX9_easedBy_51 : decode cX9_easedBy 51 = .ok (.ifCond .le 14, 3) := by decide +kernel
theorem dX9_easedBy_54 : decode cX9_easedBy 54 = .ok (.aload_n 0, 1) := by decide +kernel
theorem dX9_easedBy_55 : decode cX9_easedBy 55 = .ok (.getfield 26, 3) := by decide +kernel
theorem dX9_easedBy_58 : decode cX9_easedBy 58 = .ok (.iconst 3, 1) := by decide +kernel
theorem dX9_easedBy_59 : decode cX9_easedBy 59 = .ok (.iload_n 1, 1) := by decide +kernel
theorem dX9_easedBy_60 : decode cX9_easedBy 60 = .ok (.imul, 1) := by decide +kernel
theorem dX9_easedBy_61 : decode cX9_easedBy 61 = .ok (.iconst 1, 1) := by decide +kernel
theorem dX9_easedBy_62 : decode cX9_easedBy 62 = .ok (.iadd, 1) := by decide +kernel
theorem dX9_easedBy_63 : decode cX9_easedBy 63 = .ok (.iaload, 1) := by decide +kernel
theorem dX9_easedBy_64 : decode cX9_easedBy 64 = .ok (.ireturn, 1) := by decide +kernel
theorem dX9_easedBy_65 : decode cX9_easedBy 65 = .ok (.iload_n 2, 1) := by decide +kernel
theorem dX9_easedBy_66 : decode cX9_easedBy 66 = .ok (.iconst 3, 1) := by decide +kernel
theorem dX9_easedBy_67 : decode cX9_easedBy 67 = .ok (.if_icmp .ne 15, 3) := by decide +kernel
theorem dX9_easedBy_70 : decode cX9_easedBy 70 = .ok (.aload_n 0, 1) := by decide +kernel
theorem dX9_easedBy_71 : decode cX9_easedBy 71 = .ok (.getfield 111, 3) := by decide +kernel
theorem dX9_easedBy_74 : decode cX9_easedBy 74 = .ok (.bipush 7, 2) := by decide +kernel
theorem dX9_easedBy_76 : decode cX9_easedBy 76 = .ok (.irem, 1) := by decide +kernel
theorem dX9_easedBy_77 : decode cX9_easedBy 77 = .ok (.ifCond .ne 5, 3) := by decide +kernel
theorem dX9_easedBy_80 : decode cX9_easedBy 80 = .ok (.iconst (-1), 1) := by decide +kernel
theorem dX9_easedBy_81 : decode cX9_easedBy 81 = .ok (.ireturn, 1) := by decide +kernel
theorem dX9_easedBy_82 : decode cX9_easedBy 82 = .ok (.aload_n 0, 1) := by decide +kernel
theorem dX9_easedBy_83 : decode cX9_easedBy 83 = .ok (.iconst 2, 1) := by decide +kernel
theorem dX9_easedBy_84 : decode cX9_easedBy 84 = .ok (.iload_n 1, 1) := by decide +kernel
theorem dX9_easedBy_85 : decode cX9_easedBy 85 = .ok (.iconst 0, 1) := by decide +kernel
theorem dX9_easedBy_86 : decode cX9_easedBy 86 = .ok (.invokevirtual 269, 3) := by decide +kernel
theorem dX9_easedBy_89 : decode cX9_easedBy 89 = .ok (.istore_n 3, 1) := by decide +kernel
theorem dX9_easedBy_90 : decode cX9_easedBy 90 = .ok (.iload_n 2, 1) := by decide +kernel
theorem dX9_easedBy_91 : decode cX9_easedBy 91 = .ok (.iconst 1, 1) := by decide +kernel
theorem dX9_easedBy_92 : decode cX9_easedBy 92 = .ok (.if_icmp .eq 8, 3) := by decide +kernel
theorem dX9_easedBy_95 : decode cX9_easedBy 95 = .ok (.iload_n 2, 1) := by decide +kernel
theorem dX9_easedBy_96 : decode cX9_easedBy 96 = .ok (.iconst 3, 1) := by decide +kernel
theorem dX9_easedBy_97 : decode cX9_easedBy 97 = .ok (.if_icmp .ne 9, 3) := by decide +kernel
theorem dX9_easedBy_100 : decode cX9_easedBy 100 = .ok (.iload_n 3, 1) := by decide +kernel
theorem dX9_easedBy_101 : decode cX9_easedBy 101 = .ok (.iconst 2, 1) := by decide +kernel
theorem dX9_easedBy_102 : decode cX9_easedBy 102 = .ok (.idiv, 1) := by decide +kernel
theorem dX9_easedBy_103 : decode cX9_easedBy 103 = .ok (.goto 4, 3) := by decide +kernel
theorem dX9_easedBy_106 : decode cX9_easedBy 106 = .ok (.iload_n 3, 1) := by decide +kernel
theorem dX9_easedBy_107 : decode cX9_easedBy 107 = .ok (.ireturn, 1) := by decide +kernel
set_option maxRecDepth 20000 in
theorem ggX9_eased_X9_isOne : GoodIn wsX9_eased wsX9_isOne := goodIn_r _ [5, 6, 7, 8, 4, 9, 127, 128, 129, 130, 131, 132, 133, 134, 135, 136, 137, 138, 139, 140, 141, 142, 143, 144, 145, 146, 147, 148, 149, 150, 151, 152, 153, 154, 155, 156, 157, 158, 159, 160, 161, 162, 163, 164, 165, 166, 167, 168, 169, 170] (by decide +kernel) (by decide +kernel)
set_option maxRecDepth 20000 in
theorem gX9_eased_X9_isOne : GoodIn wsX9_eased (wsV RX9 90 RX9 yX9_isOne wsX9_isOne) := goodIn_app (goodIn_of _ (by decide +kernel)) ggX9_eased_X9_isOne
set_option maxRecDepth 20000 in
theorem ggX9_eased_X9_easedBy : GoodIn wsX9_eased wsX9_easedBy := goodIn_r _ [13, 14, 15, 16, 17, 18, 19, 4, 20, 21, 22, 23, 24, 25, 26, 27, 28, 29, 30, 31, 32, 33, 34, 35, 36, 37, 38, 39, 40, 41, 42, 43, 44, 45, 46, 47, 48, 49, 50, 51, 52, 53, 54, 55, 56, 57, 58, 59, 60, 61, 62, 63, 64, 65, 66, 67, 68, 7, 8, 9, 69, 70, 71, 72, 73, 74, 75, 76, 77, 78, 79, 80, 81, 82, 83, 84, 85, 86, 87, 88, 89, 90, 91, 92, 93, 94, 95, 96, 97, 98, 99, 100, 101, 102, 103, 104, 105, 106, 107, 108, 109, 110, 111, 112, 113, 114, 115, 116, 117, 118, 119, 120, 121, 122, 123, 124, 125, 126, 127, 128, 129, 130, 131, 132, 133, 134, 135, 136, 137, 138, 139, 140, 141, 142, 143, 144, 145, 146, 147, 148, 149, 150, 151, 152, 153, 154, 155, 156, 157, 158, 159, 160, 161, 162, 163, 164, 165, 166, 167, 168, 169, 170] (by decide +kernel) (by decide +kernel)
set_option maxRecDepth 20000 in
theorem gX9_eased_X9_easedBy : GoodIn wsX9_eased (wsV RX9 275 RX9 yX9_easedBy wsX9_easedBy) := goodIn_app (goodIn_of _ (by decide +kernel)) ggX9_eased_X9_easedBy
theorem dX9_eased_0 : decode cX9_eased 0 = .ok (.aload_n 0, 1) := by decide +kernel
theorem dX9_eased_1 : decode cX9_eased 1 = .ok (.iload_n 1, 1) := by decide +kernel
theorem dX9_eased_2 : decode cX9_eased 2 = .ok (.invokevirtual 90, 3) := by decide +kernel
theorem dX9_eased_5 : decode cX9_eased 5 = .ok (.ifCond .eq 11, 3) := by decide +kernel
theorem dX9_eased_8 : decode cX9_eased 8 = .ok (.aload_n 0, 1) := by decide +kernel
theorem dX9_eased_9 : decode cX9_eased 9 = .ok (.iload_n 1, 1) := by decide +kernel
theorem dX9_eased_10 : decode cX9_eased 10 = .ok (.invokevirtual 275, 3) := by decide +kernel
theorem dX9_eased_13 : decode cX9_eased 13 = .ok (.goto 6, 3) := by decide +kernel
theorem dX9_eased_16 : decode cX9_eased 16 = .ok (.sipush (-1000), 3) := by decide +kernel
theorem dX9_eased_19 : decode cX9_eased 19 = .ok (.ireturn, 1) := by decide +kernel
set_option maxRecDepth 20000 in
theorem ggX9_passes_X9_yieldsOf : GoodIn wsX9_passes wsX9_yieldsOf := goodIn_r _ [11, 12, 5, 13, 6, 14, 15, 16, 10, 17, 18, 19, 20, 21, 22, 23, 24, 25, 26, 27, 28, 29, 30, 31, 32, 33, 34, 35, 36, 37, 38, 39, 40, 41, 42, 43, 44, 45, 46, 47, 48, 49, 50, 51, 52, 53, 54, 55, 56, 57, 58, 59, 60, 61, 62, 63, 64, 65, 66, 67, 68, 69, 70, 71, 72, 73, 74, 75, 76, 77, 78, 79, 80, 81, 82, 83, 84, 85, 86, 87, 88, 89, 90, 91, 92, 93, 94, 95, 96, 97, 98, 99, 100, 101, 102, 103, 104, 105, 106, 107, 108, 109, 110, 111, 112, 113, 114, 115, 116, 117, 118, 119, 120, 121, 122, 123, 124, 125, 134, 135, 136, 137, 138, 139, 140, 141, 142, 143, 144, 145, 146, 147, 148, 149, 150, 151, 152, 153, 154, 155, 156, 157, 158, 159, 160, 161, 162, 163, 164, 165, 166, 167, 168, 169, 170, 171, 172, 173, 174, 175, 176, 177] (by decide +kernel) (by decide +kernel)
set_option maxRecDepth 20000 in
theorem gX9_passes_X9_yieldsOf : GoodIn wsX9_passes (wsV RX9 126 RX9 yX9_yieldsOf wsX9_yieldsOf) := goodIn_app (goodIn_of _ (by decide +kernel)) ggX9_passes_X9_yieldsOf
set_option maxRecDepth 20000 in
theorem ggX9_passes_X9_easedBy : GoodIn wsX9_passes wsX9_easedBy := goodIn_r _ [129, 12, 5, 6, 14, 15, 16, 10, 17, 18, 19, 20, 21, 22, 13, 23, 24, 25, 26, 27, 28, 29, 30, 31, 32, 33, 34, 35, 36, 37, 38, 39, 40, 41, 42, 43, 44, 45, 46, 47, 48, 49, 50, 51, 52, 53, 54, 55, 56, 57, 58, 59, 60, 61, 62, 63, 64, 65, 66, 67, 68, 69, 70, 71, 72, 73, 74, 75, 76, 77, 78, 79, 80, 81, 82, 83, 84, 85, 86, 87, 88, 89, 90, 91, 92, 93, 94, 95, 96, 97, 98, 99, 100, 101, 102, 103, 104, 105, 106, 107, 108, 109, 110, 111, 112, 113, 114, 115, 116, 117, 118, 119, 120, 121, 122, 123, 124, 125, 134, 135, 136, 137, 138, 139, 140, 141, 142, 143, 144, 145, 146, 147, 148, 149, 150, 151, 152, 153, 154, 155, 156, 157, 158, 159, 160, 161, 162, 163, 164, 165, 166, 167, 168, 169, 170, 171, 172, 173, 174, 175, 176, 177] (by decide +kernel) (by decide +kernel)
set_option maxRecDepth 20000 in
theorem gX9_passes_X9_easedBy : GoodIn wsX9_passes (wsV RX9 275 RX9 yX9_easedBy wsX9_easedBy) := goodIn_app (goodIn_of _ (by decide +kernel)) ggX9_passes_X9_easedBy
set_option maxRecDepth 20000 in
theorem ggX9_passes_X9_suits : GoodIn wsX9_passes wsX9_suits := goodIn_r _ [133, 12, 1, 5, 14, 15, 16, 10, 17, 18, 19, 6, 20, 21, 22, 13, 23, 24, 25, 26, 27, 28, 29, 30, 31, 32, 33, 34, 35, 36, 37, 38, 39, 40, 41, 42, 43, 44, 45, 46, 47, 48, 49, 50, 51, 52, 53, 54, 55, 56, 57, 58, 59, 60, 61, 62, 63, 64, 65, 66, 67, 68, 69, 70, 71, 72, 73, 74, 75, 76, 77, 78, 79, 80, 81, 82, 83, 84, 85, 86, 87, 88, 89, 90, 91, 92, 93, 94, 95, 96, 97, 98, 99, 100, 101, 102, 103, 104, 105, 106, 107, 108, 109, 110, 111, 112, 113, 114, 115, 116, 117, 118, 119, 120, 121, 122, 123, 124, 125, 134, 135, 136, 137, 138, 139, 140, 141, 142, 143, 144, 145, 146, 147, 148, 149, 150, 151, 152, 153, 154, 155, 156, 157, 158, 159, 160, 161, 162, 163, 164, 165, 166, 167, 168, 169, 170, 171, 172, 173, 174, 175, 176, 177] (by decide +kernel) (by decide +kernel)
set_option maxRecDepth 20000 in
theorem gX9_passes_X9_suits : GoodIn wsX9_passes (wsV RX9 272 RX9 yX9_suits wsX9_suits) := goodIn_app (goodIn_of _ (by decide +kernel)) ggX9_passes_X9_suits
set_option maxRecDepth 20000 in
theorem ggX9_passes_X9_within : GoodIn wsX9_passes wsX9_within := goodIn_r _ [125] (by decide +kernel) (by decide +kernel)
set_option maxRecDepth 20000 in
theorem gX9_passes_X9_within : GoodIn wsX9_passes (va_wsS RX9 251 yX9_within wsX9_within) := goodIn_app (goodIn_of _ (by decide +kernel)) ggX9_passes_X9_within
theorem dX9_passes_0 : decode cX9_passes 0 = .ok (.iconst 0, 1) := by decide +kernel
theorem dX9_passes_1 : decode cX9_passes 1 = .ok (.istore_n 1, 1) := by decide +kernel
theorem dX9_passes_2 : decode cX9_passes 2 = .ok (.iconst 0, 1) := by decide +kernel
theorem dX9_passes_3 : decode cX9_passes 3 = .ok (.istore_n 2, 1) := by decide +kernel
theorem dX9_passes_4 : decode cX9_passes 4 = .ok (.iload_n 2, 1) := by decide +kernel
theorem dX9_passes_5 : decode cX9_passes 5 = .ok (.bipush 6, 2) := by decide +kernel
theorem dX9_passes_7 : decode cX9_passes 7 = .ok (.if_icmp .ge 20, 3) := by decide +kernel
theorem dX9_passes_10 : decode cX9_passes 10 = .ok (.aload_n 0, 1) := by decide +kernel
theorem dX9_passes_11 : decode cX9_passes 11 = .ok (.getfield 29, 3) := by decide +kernel
theorem dX9_passes_14 : decode cX9_passes 14 = .ok (.iconst 3, 1) := by decide +kernel
theorem dX9_passes_15 : decode cX9_passes 15 = .ok (.iload_n 2, 1) := by decide +kernel
theorem dX9_passes_16 : decode cX9_passes 16 = .ok (.imul, 1) := by decide +kernel
theorem dX9_passes_17 : decode cX9_passes 17 = .ok (.iconst 2, 1) := by decide +kernel
theorem dX9_passes_18 : decode cX9_passes 18 = .ok (.iadd, 1) := by decide +kernel
theorem dX9_passes_19 : decode cX9_passes 19 = .ok (.iconst 0, 1) := by decide +kernel
theorem dX9_passes_20 : decode cX9_passes 20 = .ok (.iastore, 1) := by decide +kernel
theorem dX9_passes_21 : decode cX9_passes 21 = .ok (.iinc 2 1, 3) := by decide +kernel
theorem dX9_passes_24 : decode cX9_passes 24 = .ok (.goto (-20), 3) := by decide +kernel
theorem dX9_passes_27 : decode cX9_passes 27 = .ok (.iconst 0, 1) := by decide +kernel
theorem dX9_passes_28 : decode cX9_passes 28 = .ok (.istore_n 2, 1) := by decide +kernel
theorem dX9_passes_29 : decode cX9_passes 29 = .ok (.iload_n 2, 1) := by decide +kernel
theorem dX9_passes_30 : decode cX9_passes 30 = .ok (.aload_n 0, 1) := by decide +kernel
theorem dX9_passes_31 : decode cX9_passes 31 = .ok (.getfield 77, 3) := by decide +kernel
theorem dX9_passes_34 : decode cX9_passes 34 = .ok (.if_icmp .ge 124, 3) := by decide +kernel
theorem dX9_passes_37 : decode cX9_passes 37 = .ok (.aload_n 0, 1) := by decide +kernel
theorem dX9_passes_38 : decode cX9_passes 38 = .ok (.iload_n 2, 1) := by decide +kernel
theorem dX9_passes_39 : decode cX9_passes 39 = .ok (.invokevirtual 126, 3) := by decide +kernel
theorem dX9_passes_42 : decode cX9_passes 42 = .ok (.istore_n 3, 1) := by decide +kernel
theorem dX9_passes_43 : decode cX9_passes 43 = .ok (.aload_n 0, 1) := by decide +kernel
theorem dX9_passes_44 : decode cX9_passes 44 = .ok (.getfield 42, 3) := by decide +kernel
theorem dX9_passes_47 : decode cX9_passes 47 = .ok (.iload_n 2, 1) := by decide +kernel
theorem dX9_passes_48 : decode cX9_passes 48 = .ok (.aload_n 0, 1) := by decide +kernel
theorem dX9_passes_49 : decode cX9_passes 49 = .ok (.iload_n 2, 1) := by decide +kernel
theorem dX9_passes_50 : decode cX9_passes 50 = .ok (.invokevirtual 275, 3) := by decide +kernel
theorem dX9_passes_53 : decode cX9_passes 53 = .ok (.iastore, 1) := by decide +kernel
theorem dX9_passes_54 : decode cX9_passes 54 = .ok (.iconst 0, 1) := by decide +kernel
theorem dX9_passes_55 : decode cX9_passes 55 = .ok (.istore 4, 2) := by decide +kernel
theorem dX9_passes_57 : decode cX9_passes 57 = .ok (.iload 4, 2) := by decide +kernel
theorem dX9_passes_59 : decode cX9_passes 59 = .ok (.bipush 6, 2) := by decide +kernel
theorem dX9_passes_61 : decode cX9_passes 61 = .ok (.if_icmp .ge 91, 3) := by decide +kernel
theorem dX9_passes_64 : decode cX9_passes 64 = .ok (.aload_n 0, 1) := by decide +kernel
theorem dX9_passes_65 : decode cX9_passes 65 = .ok (.iload_n 2, 1) := by decide +kernel
theorem dX9_passes_66 : decode cX9_passes 66 = .ok (.iload 4, 2) := by decide +kernel
theorem dX9_passes_68 : decode cX9_passes 68 = .ok (.invokevirtual 272, 3) := by decide +kernel
theorem dX9_passes_71 : decode cX9_passes 71 = .ok (.ifCond .eq 32, 3) := by decide +kernel
theorem dX9_passes_74 : decode cX9_passes 74 = .ok (.aload_n 0, 1) := by decide +kernel
theorem dX9_passes_75 : decode cX9_passes 75 = .ok (.getfield 29, 3) := by decide +kernel
theorem dX9_passes_78 : decode cX9_passes 78 = .ok (.iconst 3, 1) := by decide +kernel
theorem dX9_passes_79 : decode cX9_passes 79 = .ok (.iload 4, 2) := by decide +kernel
theorem dX9_passes_81 : decode cX9_passes 81 = .ok (.imul, 1) := by decide +kernel
theorem dX9_passes_82 : decode cX9_passes 82 = .ok (.iaload, 1) := by decide +kernel
theorem dX9_passes_83 : decode cX9_passes 83 = .ok (.aload_n 0, 1) := by decide +kernel
theorem dX9_passes_84 : decode cX9_passes 84 = .ok (.getfield 29, 3) := by decide +kernel
theorem dX9_passes_87 : decode cX9_passes 87 = .ok (.iconst 3, 1) := by decide +kernel
theorem dX9_passes_88 : decode cX9_passes 88 = .ok (.iload 4, 2) := by decide +kernel
theorem dX9_passes_90 : decode cX9_passes 90 = .ok (.imul, 1) := by decide +kernel
theorem dX9_passes_91 : decode cX9_passes 91 = .ok (.iconst 2, 1) := by decide +kernel
theorem dX9_passes_92 : decode cX9_passes 92 = .ok (.iadd, 1) := by decide +kernel
theorem dX9_passes_93 : decode cX9_passes 93 = .ok (.iaload, 1) := by decide +kernel
theorem dX9_passes_94 : decode cX9_passes 94 = .ok (.isub, 1) := by decide +kernel
theorem dX9_passes_95 : decode cX9_passes 95 = .ok (.iconst 0, 1) := by decide +kernel
theorem dX9_passes_96 : decode cX9_passes 96 = .ok (.iload_n 3, 1) := by decide +kernel
theorem dX9_passes_97 : decode cX9_passes 97 = .ok (.invokestatic 251, 3) := by decide +kernel
theorem dX9_passes_100 : decode cX9_passes 100 = .ok (.goto 4, 3) := by decide +kernel
theorem dX9_passes_103 : decode cX9_passes 103 = .ok (.iconst 0, 1) := by decide +kernel
theorem dX9_passes_104 : decode cX9_passes 104 = .ok (.istore 5, 2) := by decide +kernel
theorem dX9_passes_106 : decode cX9_passes 106 = .ok (.aload_n 0, 1) := by decide +kernel
theorem dX9_passes_107 : decode cX9_passes 107 = .ok (.getfield 39, 3) := by decide +kernel
theorem dX9_passes_110 : decode cX9_passes 110 = .ok (.bipush 6, 2) := by decide +kernel
theorem dX9_passes_112 : decode cX9_passes 112 = .ok (.iload_n 2, 1) := by decide +kernel
theorem dX9_passes_113 : decode cX9_passes 113 = .ok (.imul, 1) := by decide +kernel
theorem dX9_passes_114 : decode cX9_passes 114 = .ok (.iload 4, 2) := by decide +kernel
theorem dX9_passes_116 : decode cX9_passes 116 = .ok (.iadd, 1) := by decide +kernel
theorem dX9_passes_117 : decode cX9_passes 117 = .ok (.iload 5, 2) := by decide +kernel
theorem dX9_passes_119 : decode cX9_passes 119 = .ok (.iastore, 1) := by decide +kernel
theorem dX9_passes_120 : decode cX9_passes 120 = .ok (.aload_n 0, 1) := by decide +kernel
theorem dX9_passes_121 : decode cX9_passes 121 = .ok (.getfield 29, 3) := by decide +kernel
theorem dX9_passes_124 : decode cX9_passes 124 = .ok (.iconst 3, 1) := by decide +kernel
theorem dX9_passes_125 : decode cX9_passes 125 = .ok (.iload 4, 2) := by decide +kernel
theorem dX9_passes_127 : decode cX9_passes 127 = .ok (.imul, 1) := by decide +kernel
theorem dX9_passes_128 : decode cX9_passes 128 = .ok (.iconst 2, 1) := by decide +kernel
theorem dX9_passes_129 : decode cX9_passes 129 = .ok (.iadd, 1) := by decide +kernel
theorem dX9_passes_130 : decode cX9_passes 130 = .ok (.dup2, 1) := by decide +kernel
theorem dX9_passes_131 : decode cX9_passes 131 = .ok (.iaload, 1) := by decide +kernel
theorem dX9_passes_132 : decode cX9_passes 132 = .ok (.iload 5, 2) := by decide +kernel
theorem dX9_passes_134 : decode cX9_passes 134 = .ok (.iadd, 1) := by decide +kernel
theorem dX9_passes_135 : decode cX9_passes 135 = .ok (.iastore, 1) := by decide +kernel
theorem dX9_passes_136 : decode cX9_passes 136 = .ok (.iload_n 3, 1) := by decide +kernel
theorem dX9_passes_137 : decode cX9_passes 137 = .ok (.iload 5, 2) := by decide +kernel
theorem dX9_passes_139 : decode cX9_passes 139 = .ok (.isub, 1) := by decide +kernel
theorem dX9_passes_140 : decode cX9_passes 140 = .ok (.istore_n 3, 1) := by decide +kernel
theorem dX9_passes_141 : decode cX9_passes 141 = .ok (.iload_n 1, 1) := by decide +kernel
theorem dX9_passes_142 : decode cX9_passes 142 = .ok (.iload 5, 2) := by decide +kernel
theorem dX9_passes_144 : decode cX9_passes 144 = .ok (.iadd, 1) := by decide +kernel
theorem dX9_passes_145 : decode cX9_passes 145 = .ok (.istore_n 1, 1) := by decide +kernel
theorem dX9_passes_146 : decode cX9_passes 146 = .ok (.iinc 4 1, 3) := by decide +kernel
theorem dX9_passes_149 : decode cX9_passes 149 = .ok (.goto (-92), 3) := by decide +kernel
theorem dX9_passes_152 : decode cX9_passes 152 = .ok (.iinc 2 1, 3) := by decide +kernel
theorem dX9_passes_155 : decode cX9_passes 155 = .ok (.goto (-126), 3) := by decide +kernel
theorem dX9_passes_158 : decode cX9_passes 158 = .ok (.iconst 0, 1) := by decide +kernel
theorem dX9_passes_159 : decode cX9_passes 159 = .ok (.istore_n 2, 1) := by decide +kernel
theorem dX9_passes_160 : decode cX9_passes 160 = .ok (.iload_n 2, 1) := by decide +kernel
theorem dX9_passes_161 : decode cX9_passes 161 = .ok (.aload_n 0, 1) := by decide +kernel
theorem dX9_passes_162 : decode cX9_passes 162 = .ok (.getfield 77, 3) := by decide +kernel
theorem dX9_passes_165 : decode cX9_passes 165 = .ok (.if_icmp .ge 42, 3) := by decide +kernel
theorem dX9_passes_168 : decode cX9_passes 168 = .ok (.aload_n 0, 1) := by decide +kernel
theorem dX9_passes_169 : decode cX9_passes 169 = .ok (.getfield 26, 3) := by decide +kernel
theorem dX9_passes_172 : decode cX9_passes 172 = .ok (.iconst 3, 1) := by decide +kernel
theorem dX9_passes_173 : decode cX9_passes 173 = .ok (.iload_n 2, 1) := by decide +kernel
theorem dX9_passes_174 : decode cX9_passes 174 = .ok (.imul, 1) := by decide +kernel
theorem dX9_passes_175 : decode cX9_passes 175 = .ok (.iconst 1, 1) := by decide +kernel
theorem dX9_passes_176 : decode cX9_passes 176 = .ok (.iadd, 1) := by decide +kernel
theorem dX9_passes_177 : decode cX9_passes 177 = .ok (.aload_n 0, 1) := by decide +kernel
theorem dX9_passes_178 : decode cX9_passes 178 = .ok (.getfield 26, 3) := by decide +kernel
theorem dX9_passes_181 : decode cX9_passes 181 = .ok (.iconst 3, 1) := by decide +kernel
theorem dX9_passes_182 : decode cX9_passes 182 = .ok (.iload_n 2, 1) := by decide +kernel
theorem dX9_passes_183 : decode cX9_passes 183 = .ok (.imul, 1) := by decide +kernel
theorem dX9_passes_184 : decode cX9_passes 184 = .ok (.iconst 1, 1) := by decide +kernel
theorem dX9_passes_185 : decode cX9_passes 185 = .ok (.iadd, 1) := by decide +kernel
theorem dX9_passes_186 : decode cX9_passes 186 = .ok (.iaload, 1) := by decide +kernel
theorem dX9_passes_187 : decode cX9_passes 187 = .ok (.aload_n 0, 1) := by decide +kernel
theorem dX9_passes_188 : decode cX9_passes 188 = .ok (.getfield 42, 3) := by decide +kernel
theorem dX9_passes_191 : decode cX9_passes 191 = .ok (.iload_n 2, 1) := by decide +kernel
theorem dX9_passes_192 : decode cX9_passes 192 = .ok (.iaload, 1) := by decide +kernel
theorem dX9_passes_193 : decode cX9_passes 193 = .ok (.isub, 1) := by decide +kernel
theorem dX9_passes_194 : decode cX9_passes 194 = .ok (.iconst 0, 1) := by decide +kernel
theorem dX9_passes_195 : decode cX9_passes 195 = .ok (.bipush 99, 2) := by decide +kernel
theorem dX9_passes_197 : decode cX9_passes 197 = .ok (.invokestatic 251, 3) := by decide +kernel
theorem dX9_passes_200 : decode cX9_passes 200 = .ok (.iastore, 1) := by decide +kernel
theorem dX9_passes_201 : decode cX9_passes 201 = .ok (.iinc 2 1, 3) := by decide +kernel
theorem dX9_passes_204 : decode cX9_passes 204 = .ok (.goto (-44), 3) := by decide +kernel
theorem dX9_passes_207 : decode cX9_passes 207 = .ok (.aload_n 0, 1) := by decide +kernel
theorem dX9_passes_208 : decode cX9_passes 208 = .ok (.dup, 1) := by decide +kernel
theorem dX9_passes_209 : decode cX9_passes 209 = .ok (.getfield 111, 3) := by decide +kernel
theorem dX9_passes_212 : decode cX9_passes 212 = .ok (.iconst 1, 1) := by decide +kernel
theorem dX9_passes_213 : decode cX9_passes 213 = .ok (.iadd, 1) := by decide +kernel
theorem dX9_passes_214 : decode cX9_passes 214 = .ok (.putfield 111, 3) := by decide +kernel
theorem dX9_passes_217 : decode cX9_passes 217 = .ok (.iload_n 1, 1) := by decide +kernel
theorem dX9_passes_218 : decode cX9_passes 218 = .ok (.ireturn, 1) := by decide +kernel
set_option maxRecDepth 20000 in
theorem ggX9_night_X9_passes : GoodIn wsX9_night wsX9_passes := goodIn_r _ [6, 7, 8, 9, 10, 11, 1, 12, 13, 14, 5, 15, 16, 17, 18, 19, 20, 21, 22, 23, 24, 25, 26, 27, 28, 29, 30, 31, 32, 33, 34, 35, 36, 37, 38, 39, 40, 41, 42, 43, 44, 45, 46, 47, 48, 49, 50, 51, 52, 53, 54, 55, 56, 57, 58, 59, 60, 61, 62, 63, 64, 65, 66, 67, 68, 69, 70, 71, 72, 73, 74, 75, 76, 77, 78, 79, 80, 81, 82, 83, 84, 85, 86, 87, 88, 89, 90, 91, 92, 93, 94, 95, 96, 97, 98, 99, 100, 101, 102, 103, 104, 105, 106, 107, 108, 109, 110, 111, 112, 113, 114, 115, 116, 117, 118, 119, 120, 121, 122, 123, 124, 125, 126, 127, 128, 129, 130, 131, 132, 133, 134, 135, 136, 137, 138, 139, 140, 141, 142, 143, 144, 145, 146, 147, 148, 149, 150, 151, 152, 153, 154, 155, 156, 157, 158, 159, 160, 161, 162, 163, 164, 165, 166, 167, 168, 169, 170, 171, 172, 173, 174, 175, 176, 177, 178, 179, 180, 181] (by decide +kernel) (by decide +kernel)
set_option maxRecDepth 20000 in
theorem gX9_night_X9_passes : GoodIn wsX9_night (wsV RX9 278 RX9 yX9_passes wsX9_passes) := goodIn_app (goodIn_of _ (by decide +kernel)) ggX9_night_X9_passes
theorem dX9_night_0 : decode cX9_night 0 = .ok (.aload_n 0, 1) := by decide +kernel
theorem dX9_night_1 : decode cX9_night 1 = .ok (.getfield 111, 3) := by decide +kernel
theorem dX9_night_4 : decode cX9_night 4 = .ok (.sipush 999, 3) := by decide +kernel
theorem dX9_night_7 : decode cX9_night 7 = .ok (.if_icmp .ne 8, 3) := by decide +kernel
theorem dX9_night_10 : decode cX9_night 10 = .ok (.bipush (-3), 2) := by decide +kernel
theorem dX9_night_12 : decode cX9_night 12 = .ok (.goto 7, 3) := by decide +kernel
theorem dX9_night_15 : decode cX9_night 15 = .ok (.aload_n 0, 1) := by decide +kernel
theorem dX9_night_16 : decode cX9_night 16 = .ok (.invokevirtual 278, 3) := by decide +kernel
theorem dX9_night_19 : decode cX9_night 19 = .ok (.ireturn, 1) := by decide +kernel
set_option maxRecDepth 20000 in
theorem ggX9_tells1_X9_within : GoodIn wsX9_tells1 wsX9_within := goodIn_r _ [5] (by decide +kernel) (by decide +kernel)
