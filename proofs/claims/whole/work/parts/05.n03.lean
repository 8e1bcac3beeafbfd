theorem dX4_readOne_45 : decode cX4_readOne 45 = .ok (.ineg, 1) := by decide +kernel
theorem dX4_readOne_46 : decode cX4_readOne 46 = .ok (.invokevirtual 58, 3) := by decide +kernel
theorem dX4_readOne_49 : decode cX4_readOne 49 = .ok (.aload_n 0, 1) := by decide +kernel
theorem dX4_readOne_50 : decode cX4_readOne 50 = .ok (.invokevirtual 32, 3) := by decide +kernel
theorem dX4_readOne_53 : decode cX4_readOne 53 = .ok (.iconst 1, 1) := by decide +kernel
theorem dX4_readOne_54 : decode cX4_readOne 54 = .ok (.ireturn, 1) := by decide +kernel
theorem dX4_readOne_55 : decode cX4_readOne 55 = .ok (.iload_n 1, 1) := by decide +kernel
theorem dX4_readOne_56 : decode cX4_readOne 56 = .ok (.iconst 5, 1) := by decide +kernel
theorem dX4_readOne_57 : decode cX4_readOne 57 = .ok (.if_icmp .lt 5, 3) := by decide +kernel
theorem dX4_readOne_60 : decode cX4_readOne 60 = .ok (.iconst 0, 1) := by decide +kernel
theorem dX4_readOne_61 : decode cX4_readOne 61 = .ok (.ireturn, 1) := by decide +kernel
theorem dX4_readOne_62 : decode cX4_readOne 62 = .ok (.aload_n 0, 1) := by decide +kernel
theorem dX4_readOne_63 : decode cX4_readOne 63 = .ok (.getfield 41, 3) := by decide +kernel
theorem dX4_readOne_66 : decode cX4_readOne 66 = .ok (.bipush 45, 2) := by decide +kernel
theorem dX4_readOne_68 : decode cX4_readOne 68 = .ok (.if_icmp .ne 31, 3) := by decide +kernel
theorem dX4_readOne_71 : decode cX4_readOne 71 = .ok (.aload_n 0, 1) := by decide +kernel
theorem dX4_readOne_72 : decode cX4_readOne 72 = .ok (.invokevirtual 32, 3) := by decide +kernel
theorem dX4_readOne_75 : decode cX4_readOne 75 = .ok (.aload_n 0, 1) := by decide +kernel
theorem dX4_readOne_76 : decode cX4_readOne 76 = .ok (.iload_n 1, 1) := by decide +kernel
theorem dX4_readOne_77 : decode cX4_readOne 77 = .ok (.iconst 1, 1) := by decide +kernel
theorem dX4_readOne_78 : decode cX4_readOne 78 = .ok (.iadd, 1) := by decide +kernel
theorem dX4_readOne_79 : decode cX4_readOne 79 = .ok (.invokevirtual 73, 3) := by decide +kernel
theorem dX4_readOne_82 : decode cX4_readOne 82 = .ok (.ifCond .ne 5, 3) := by decide +kernel
theorem dX4_readOne_85 : decode cX4_readOne 85 = .ok (.iconst 0, 1) := by decide +kernel
theorem dX4_readOne_86 : decode cX4_readOne 86 = .ok (.ireturn, 1) := by decide +kernel
theorem dX4_readOne_87 : decode cX4_readOne 87 = .ok (.aload_n 0, 1) := by decide +kernel
theorem dX4_readOne_88 : decode cX4_readOne 88 = .ok (.getfield 18, 3) := by decide +kernel
theorem dX4_readOne_91 : decode cX4_readOne 91 = .ok (.sipush (-271), 3) := by decide +kernel
theorem dX4_readOne_94 : decode cX4_readOne 94 = .ok (.invokevirtual 58, 3) := by decide +kernel
theorem dX4_readOne_97 : decode cX4_readOne 97 = .ok (.iconst 1, 1) := by decide +kernel
theorem dX4_readOne_98 : decode cX4_readOne 98 = .ok (.ireturn, 1) := by decide +kernel
theorem dX4_readOne_99 : decode cX4_readOne 99 = .ok (.aload_n 0, 1) := by decide +kernel
theorem dX4_readOne_100 : decode cX4_readOne 100 = .ok (.getfield 41, 3) := by decide +kernel
theorem dX4_readOne_103 : decode cX4_readOne 103 = .ok (.bipush 40, 2) := by decide +kernel
theorem dX4_readOne_105 : decode cX4_readOne 105 = .ok (.if_icmp .ne 17, 3) := by decide +kernel
theorem dX4_readOne_108 : decode cX4_readOne 108 = .ok (.aload_n 0, 1) := by decide +kernel
theorem dX4_readOne_109 : decode cX4_readOne 109 = .ok (.iload_n 1, 1) := by decide +kernel
theorem dX4_readOne_110 : decode cX4_readOne 110 = .ok (.iconst 1, 1) := by decide +kernel
theorem dX4_readOne_111 : decode cX4_readOne 111 = .ok (.iadd, 1) := by decide +kernel
theorem dX4_readOne_112 : decode cX4_readOne 112 = .ok (.invokevirtual 82, 3) := by decide +kernel
theorem dX4_readOne_115 : decode cX4_readOne 115 = .ok (.ifCond .eq 7, 3) := by decide +kernel
theorem dX4_readOne_118 : decode cX4_readOne 118 = .ok (.iconst 1, 1) := by decide +kernel
theorem dX4_readOne_119 : decode cX4_readOne 119 = .ok (.goto 4, 3) := by decide +kernel
theorem dX4_readOne_122 : decode cX4_readOne 122 = .ok (.iconst 0, 1) := by decide +kernel
theorem dX4_readOne_123 : decode cX4_readOne 123 = .ok (.ireturn, 1) := by decide +kernel
set_option maxRecDepth 20000 in
theorem ggX4_readBracket_X4_step : GoodIn wsX4_readBracket wsX4_step := goodIn_r _ [6, 7, 8, 9, 10, 1, 11, 12, 5, 13, 14, 15, 16, 17, 18, 19, 20, 21, 22, 23, 24, 25, 26, 27, 28, 29, 30, 31, 32, 33, 34, 35, 36, 37, 38, 39, 40, 41, 42, 43, 44, 45, 46, 47, 48, 49, 50, 51, 52, 53, 54, 55, 56, 57, 58, 59, 60, 61, 62, 63, 64, 65, 66, 67, 68, 69, 70, 71, 72, 73, 74, 75, 76, 77, 78, 79, 80, 81, 82, 83, 84, 85, 86, 87, 88, 89, 90, 91, 92, 93, 94, 95, 96, 97, 98, 99, 100, 101, 102, 103, 104, 105, 106, 107, 108, 109, 110, 111, 112, 113, 114, 115, 116, 117, 118, 119, 120, 121, 122, 123, 124, 125, 126, 127, 128, 129, 130, 131, 132, 133, 134, 135, 136, 137, 138, 139, 140, 141, 142, 143, 186, 187, 188, 189, 190, 191, 192] (by decide +kernel) (by decide +kernel)
set_option maxRecDepth 20000 in
theorem gX4_readBracket_X4_step : GoodIn wsX4_readBracket (wsV RX4 32 RX4 yX4_step wsX4_step) := goodIn_app (goodIn_of _ (by decide +kernel)) ggX4_readBracket_X4_step
set_option maxRecDepth 20000 in
theorem ggX4_readBracket_X4_readAny : GoodIn wsX4_readBracket wsX4_readAny := goodIn_r _ [159, 1, 148, 160, 161, 162, 5, 2, 3, 4, 6, 7, 8, 9, 10, 11, 12, 13, 14, 15, 16, 17, 18, 19, 20, 21, 22, 23, 24, 25, 26, 27, 28, 29, 30, 31, 32, 33, 34, 35, 36, 37, 38, 39, 40, 41, 42, 43, 44, 45, 46, 47, 48, 49, 50, 51, 52, 53, 54, 55, 56, 57, 58, 59, 60, 61, 62, 63, 64, 65, 66, 67, 68, 69, 70, 71, 72, 73, 74, 75, 76, 77, 78, 79, 80, 81, 82, 83, 84, 85, 86, 87, 88, 89, 90, 91, 92, 93, 94, 95, 96, 97, 98, 99, 100, 101, 102, 103, 104, 105, 106, 107, 108, 109, 110, 111, 112, 113, 114, 115, 116, 117, 118, 119, 120, 121, 122, 123, 124, 125, 126, 127, 128, 129, 130, 131, 132, 133, 134, 135, 136, 137, 138, 139, 140, 141, 142, 143, 152, 153, 154, 155, 156, 157, 158, 147, 149, 150, 151, 0, 144, 145, 146, 163, 164, 165, 166, 167, 168, 169, 170, 171, 172, 173, 174, 175, 176, 177, 178, 179, 180, 181, 182, 183, 184, 185, 186, 187, 188, 189, 190, 191, 192, 193, 194, 195] (by decide +kernel) (by decide +kernel)
set_option maxRecDepth 20000 in
theorem gX4_readBracket_X4_readAny : GoodIn wsX4_readBracket (wsV RX4 47 RX4 yX4_readAny wsX4_readAny) := goodIn_app (goodIn_of _ (by decide +kernel)) ggX4_readBracket_X4_readAny
theorem dX4_readBracket_0 : decode cX4_readBracket 0 = .ok (.aload_n 0, 1) := by decide +kernel
theorem dX4_readBracket_1 : decode cX4_readBracket 1 = .ok (.invokevirtual 32, 3) := by decide +kernel
theorem dX4_readBracket_4 : decode cX4_readBracket 4 = .ok (.aload_n 0, 1) := by decide +kernel
theorem dX4_readBracket_5 : decode cX4_readBracket 5 = .ok (.iload_n 1, 1) := by decide +kernel
theorem dX4_readBracket_6 : decode cX4_readBracket 6 = .ok (.invokevirtual 47, 3) := by decide +kernel
theorem dX4_readBracket_9 : decode cX4_readBracket 9 = .ok (.ifCond .eq 12, 3) := by decide +kernel
theorem dX4_readBracket_12 : decode cX4_readBracket 12 = .ok (.aload_n 0, 1) := by decide +kernel
theorem dX4_readBracket_13 : decode cX4_readBracket 13 = .ok (.getfield 41, 3) := by decide +kernel
theorem dX4_readBracket_16 : decode cX4_readBracket 16 = .ok (.bipush 41, 2) := by decide +kernel
theorem dX4_readBracket_18 : decode cX4_readBracket 18 = .ok (.if_icmp .eq 5, 3) := by decide +kernel
theorem dX4_readBracket_21 : decode cX4_readBracket 21 = .ok (.iconst 0, 1) := by decide +kernel
theorem dX4_readBracket_22 : decode cX4_readBracket 22 = .ok (.ireturn, 1) := by decide +kernel
theorem dX4_readBracket_23 : decode cX4_readBracket 23 = .ok (.aload_n 0, 1) := by decide +kernel
theorem dX4_readBracket_24 : decode cX4_readBracket 24 = .ok (.invokevirtual 32, 3) := by decide +kernel
theorem dX4_readBracket_27 : decode cX4_readBracket 27 = .ok (.iconst 1, 1) := by decide +kernel
theorem dX4_readBracket_28 : decode cX4_readBracket 28 = .ok (.ireturn, 1) := by decide +kernel
set_option maxRecDepth 20000 in
theorem ggX4_step_X4_isLetter : GoodIn wsX4_step wsX4_isLetter := goodIn_r _ [9] (by decide +kernel) (by decide +kernel)
set_option maxRecDepth 20000 in
theorem gX4_step_X4_isLetter : GoodIn wsX4_step (va_wsS RX4 85 yX4_isLetter wsX4_isLetter) := goodIn_app (goodIn_of _ (by decide +kernel)) ggX4_step_X4_isLetter
set_option maxRecDepth 20000 in
theorem ggX4_step_X4_stepWord : GoodIn wsX4_step wsX4_stepWord := goodIn_r _ [13, 1, 2, 3, 5, 6, 7, 8, 9, 14, 15, 16, 17, 18, 19, 20, 21, 4, 22, 23, 24, 25, 26, 27, 28, 29, 30, 31, 32, 33, 34, 35, 36, 37, 38, 39, 40, 41, 42, 43, 44, 45, 46, 47, 48, 49, 50, 51, 52, 53, 54, 55, 56, 57, 58, 59, 60, 61, 62, 63, 64, 65, 66, 67, 68, 69, 70, 140, 141, 142, 143, 144, 145, 146] (by decide +kernel) (by decide +kernel)
set_option maxRecDepth 20000 in
theorem gX4_step_X4_stepWord : GoodIn wsX4_step (wsV RX4 88 RX4 yX4_stepWord wsX4_stepWord) := goodIn_app (goodIn_of _ (by decide +kernel)) ggX4_step_X4_stepWord
set_option maxRecDepth 20000 in
theorem ggX4_step_X4_isDigit : GoodIn wsX4_step wsX4_isDigit := goodIn_r _ [73] (by decide +kernel) (by decide +kernel)
set_option maxRecDepth 20000 in
theorem gX4_step_X4_isDigit : GoodIn wsX4_step (va_wsS RX4 91 yX4_isDigit wsX4_isDigit) := goodIn_app (goodIn_of _ (by decide +kernel)) ggX4_step_X4_isDigit
set_option maxRecDepth 20000 in
theorem ggX4_step_X4_stepNumber : GoodIn wsX4_step wsX4_stepNumber := goodIn_r _ [77, 78, 1, 2, 3, 4, 5, 71, 72, 8, 73, 140, 141, 142, 143, 144, 145, 146] (by decide +kernel) (by decide +kernel)
set_option maxRecDepth 20000 in
theorem gX4_step_X4_stepNumber : GoodIn wsX4_step (wsV RX4 94 RX4 yX4_stepNumber wsX4_stepNumber) := goodIn_app (goodIn_of _ (by decide +kernel)) ggX4_step_X4_stepNumber
set_option maxRecDepth 20000 in
theorem ggX4_step_J0_indexOf_0f7a4 : GoodIn wsX4_step wsJ0_indexOf_0f7a4 := goodIn_r _ [82, 83, 84, 85, 25, 86, 27, 38, 39, 40, 41, 32, 33, 87, 23, 24, 26, 28, 29, 30, 31, 88, 89, 44, 90, 91, 92, 93, 94, 95, 96, 97, 98, 99, 100, 101, 102, 103, 104, 105, 56, 106, 107, 108, 109, 110, 111, 112, 113, 114, 115, 61, 62, 63, 116, 117, 118, 49, 119, 120, 52, 121, 122, 123, 124, 65, 66, 67, 68, 69, 70, 125, 126, 127, 128, 129, 130, 131, 132, 133, 134, 135, 136, 137, 138, 139] (by decide +kernel) (by decide +kernel)
set_option maxRecDepth 20000 in
theorem gX4_step_J0_indexOf_0f7a4 : GoodIn wsX4_step (wsV RX4 99 RJ0 yJ0_indexOf_0f7a4 wsJ0_indexOf_0f7a4) := goodIn_app (goodIn_of _ (by decide +kernel)) ggX4_step_J0_indexOf_0f7a4
theorem dX4_step_0 : decode cX4_step 0 = .ok (.aload_n 0, 1) := by decide +kernel
theorem dX4_step_1 : decode cX4_step 1 = .ok (.getfield 29, 3) := by decide +kernel
theorem dX4_step_4 : decode cX4_step 4 = .ok (.aload_n 0, 1) := by decide +kernel
theorem dX4_step_5 : decode cX4_step 5 = .ok (.getfield 22, 3) := by decide +kernel
theorem dX4_step_8 : decode cX4_step 8 = .ok (.if_icmp .ge 44, 3) := by decide +kernel
theorem dX4_step_11 : decode cX4_step 11 = .ok (.aload_n 0, 1) := by decide +kernel
theorem dX4_step_12 : decode cX4_step 12 = .ok (.getfield 9, 3) := by decide +kernel
theorem dX4_step_15 : decode cX4_step 15 = .ok (.aload_n 0, 1) := by decide +kernel
theorem dX4_step_16 : decode cX4_step 16 = .ok (.getfield 29, 3) := by decide +kernel
theorem dX4_step_19 : decode cX4_step 19 = .ok (.iaload, 1) := by decide +kernel
theorem dX4_step_20 : decode cX4_step 20 = .ok (.bipush 32, 2) := by decide +kernel
theorem dX4_step_22 : decode cX4_step 22 = .ok (.if_icmp .eq 17, 3) := by decide +kernel
theorem dX4_step_25 : decode cX4_step 25 = .ok (.aload_n 0, 1) := by decide +kernel
theorem dX4_step_26 : decode cX4_step 26 = .ok (.getfield 9, 3) := by decide +kernel
theorem dX4_step_29 : decode cX4_step 29 = .ok (.aload_n 0, 1) := by decide +kernel
theorem dX4_step_30 : decode cX4_step 30 = .ok (.getfield 29, 3) := by decide +kernel
theorem dX4_step_33 : decode cX4_step 33 = .ok (.iaload, 1) := by decide +kernel
theorem dX4_step_34 : decode cX4_step 34 = .ok (.bipush 10, 2) := by decide +kernel
theorem dX4_step_36 : decode cX4_step 36 = .ok (.if_icmp .ne 16, 3) := by decide +kernel
theorem dX4_step_39 : decode cX4_step 39 = .ok (.aload_n 0, 1) := by decide +kernel
theorem dX4_step_40 : decode cX4_step 40 = .ok (.dup, 1) := by decide +kernel
theorem dX4_step_41 : decode cX4_step 41 = .ok (.getfield 29, 3) := by decide +kernel
theorem dX4_step_44 : decode cX4_step 44 = .ok (.iconst 1, 1) := by decide +kernel
theorem dX4_step_45 : decode cX4_step 45 = .ok (.iadd, 1) := by decide +kernel
theorem dX4_step_46 : decode cX4_step 46 = .ok (.putfield 29, 3) := by decide +kernel
theorem dX4_step_49 : decode cX4_step 49 = .ok (.goto (-49), 3) := by decide +kernel
theorem dX4_step_52 : decode cX4_step 52 = .ok (.aload_n 0, 1) := by decide +kernel
theorem dX4_step_53 : decode cX4_step 53 = .ok (.aload_n 0, 1) := by decide +kernel
theorem dX4_step_54 : decode cX4_step 54 = .ok (.getfield 29, 3) := by decide +kernel
theorem dX4_step_57 : decode cX4_step 57 = .ok (.putfield 44, 3) := by decide +kernel
theorem dX4_step_60 : decode cX4_step 60 = .ok (.aload_n 0, 1) := by decide +kernel
theorem dX4_step_61 : decode cX4_step 61 = .ok (.getfield 29, 3) := by decide +kernel
theorem dX4_step_64 : decode cX4_step 64 = .ok (.aload_n 0, 1) := by decide +kernel
theorem dX4_step_65 : decode cX4_step 65 = .ok (.getfield 22, 3) := by decide +kernel
theorem dX4_step_68 : decode cX4_step 68 = .ok (.if_icmp .lt 13, 3) := by decide +kernel
theorem dX4_step_71 : decode cX4_step 71 = .ok (.aload_n 0, 1) := by decide +kernel
theorem dX4_step_72 : decode cX4_step 72 = .ok (.sipush 269, 3) := by decide +kernel
theorem dX4_step_75 : decode cX4_step 75 = .ok (.putfield 41, 3) := by decide +kernel
theorem dX4_step_78 : decode cX4_step 78 = .ok (.goto 94, 3) := by decide +kernel
theorem dX4_step_81 : decode cX4_step 81 = .ok (.aload_n 0, 1) := by decide +kernel
theorem dX4_step_82 : decode cX4_step 82 = .ok (.getfield 9, 3) := by decide +kernel
theorem dX4_step_85 : decode cX4_step 85 = .ok (.aload_n 0, 1) := by decide +kernel
theorem dX4_step_86 : decode cX4_step 86 = .ok (.getfield 29, 3) := by decide +kernel
theorem dX4_step_89 : decode cX4_step 89 = .ok (.iaload, 1) := by decide +kernel
theorem dX4_step_90 : decode cX4_step 90 = .ok (.invokestatic 85, 3) := by decide +kernel
theorem dX4_step_93 : decode cX4_step 93 = .ok (.ifCond .eq 10, 3) := by decide +kernel
theorem dX4_step_96 : decode cX4_step 96 = .ok (.aload_n 0, 1) := by decide +kernel
theorem dX4_step_97 : decode cX4_step 97 = .ok (.invokevirtual 88, 3) := by decide +kernel
theorem dX4_step_100 : decode cX4_step 100 = .ok (.goto 72, 3) := by decide +kernel
theorem dX4_step_103 : decode cX4_step 103 = .ok (.aload_n 0, 1) := by decide +kernel
theorem dX4_step_104 : decode cX4_step 104 = .ok (.getfield 9, 3) := by decide +kernel
theorem dX4_step_107 : decode cX4_step 107 = .ok (.aload_n 0, 1) := by decide +kernel
theorem dX4_step_108 : decode cX4_step 108 = .ok (.getfield 29, 3) := by decide +kernel
theorem dX4_step_111 : decode cX4_step 111 = .ok (.iaload, 1) := by decide +kernel
theorem dX4_step_112 : decode cX4_step 112 = .ok (.invokestatic 91, 3) := by decide +kernel
theorem dX4_step_115 : decode cX4_step 115 = .ok (.ifCond .eq 10, 3) := by decide +kernel
theorem dX4_step_118 : decode cX4_step 118 = .ok (.aload_n 0, 1) := by decide +kernel
theorem dX4_step_119 : decode cX4_step 119 = .ok (.invokevirtual 94, 3) := by decide +kernel
theorem dX4_step_122 : decode cX4_step 122 = .ok (.goto 50, 3) := by decide +kernel
theorem dX4_step_125 : decode cX4_step 125 = .ok (.aload_n 0, 1) := by decide +kernel
theorem dX4_step_126 : decode cX4_step 126 = .ok (.ldc 97, 2) := by decide +kernel
theorem dX4_step_128 : decode cX4_step 128 = .ok (.aload_n 0, 1) := by decide +kernel
theorem dX4_step_129 : decode cX4_step 129 = .ok (.getfield 9, 3) := by decide +kernel
theorem dX4_step_132 : decode cX4_step 132 = .ok (.aload_n 0, 1) := by decide +kernel
theorem dX4_step_133 : decode cX4_step 133 = .ok (.getfield 29, 3) := by decide +kernel
theorem dX4_step_136 : decode cX4_step 136 = .ok (.iaload, 1) := by decide +kernel
theorem dX4_step_137 : decode cX4_step 137 = .ok (.i2c, 1) := by decide +kernel
theorem dX4_step_138 : decode cX4_step 138 = .ok (.invokevirtual 99, 3) := by decide +kernel
theorem dX4_step_141 : decode cX4_step 141 = .ok (.ifCond .lt 15, 3) := by decide +kernel
theorem dX4_step_144 : decode cX4_step 144 = .ok (.aload_n 0, 1) := by decide +kernel
theorem dX4_step_145 : decode cX4_step 145 = .ok (.getfield 9, 3) := by decide +kernel
theorem dX4_step_148 : decode cX4_step 148 = .ok (.aload_n 0, 1) := by decide +kernel
theorem dX4_step_149 : decode cX4_step 149 = .ok (.getfield 29, 3) := by decide +kernel
theorem dX4_step_152 : decode cX4_step 152 = .ok (.iaload, 1) := by decide +kernel
theorem dX4_step_153 : decode cX4_step 153 = .ok (.goto 6, 3) := by decide +kernel
theorem dX4_step_156 : decode cX4_step 156 = .ok (.sipush 270, 3) := by decide +kernel
theorem dX4_step_159 : decode cX4_step 159 = .ok (.putfield 41, 3) := by decide +kernel
theorem dX4_step_162 : decode cX4_step 162 = .ok (.aload_n 0, 1) := by decide +kernel
theorem dX4_step_163 : decode cX4_step 163 = .ok (.dup, 1) := by decide +kernel
theorem dX4_step_164 : decode cX4_step 164 = .ok (.getfield 29, 3) := by decide +kernel
theorem dX4_step_167 : decode cX4_step 167 = .ok (.iconst 1, 1) := by decide +kernel
theorem dX4_step_168 : decode cX4_step 168 = .ok (.iadd, 1) := by decide +kernel
theorem dX4_step_169 : decode cX4_step 169 = .ok (.putfield 29, 3) := by decide +kernel
theorem dX4_step_172 : decode cX4_step 172 = .ok (.return_, 1) := by decide +kernel
set_option maxRecDepth 20000 in
theorem ggX4_stepWord_X4_isLetter : GoodIn wsX4_stepWord wsX4_isLetter := goodIn_r _ [8] (by decide +kernel) (by decide +kernel)
set_option maxRecDepth 20000 in
theorem gX4_stepWord_X4_isLetter : GoodIn wsX4_stepWord (va_wsS RX4 85 yX4_isLetter wsX4_isLetter) := goodIn_app (goodIn_of _ (by decide +kernel)) ggX4_stepWord_X4_isLetter
set_option maxRecDepth 20000 in
theorem ggX4_stepWord_X7_spelling : GoodIn wsX4_stepWord wsX7_spelling := goodIn_r _ [12] (by decide +kernel) (by decide +kernel)
set_option maxRecDepth 20000 in
theorem gX4_stepWord_X7_spelling : GoodIn wsX4_stepWord (va_wsS RX4 105 yX7_spelling wsX7_spelling) := goodIn_app (goodIn_of _ (by decide +kernel)) ggX4_stepWord_X7_spelling
set_option maxRecDepth 20000 in
theorem ggX4_stepWord_X4_isSpelled : GoodIn wsX4_stepWord wsX4_isSpelled := goodIn_r _ [16, 1, 17, 3, 18, 19, 20, 21, 22, 23, 24, 25, 26, 27, 28, 29, 30, 31, 32, 33, 34, 35, 36, 37, 38, 39, 40, 41, 42, 43, 44, 45, 46, 47, 48, 49, 50, 51, 52, 53, 54, 55, 56, 57, 58, 59, 60, 61, 62, 63, 64, 65, 66, 67, 68, 69, 70, 71, 72, 73] (by decide +kernel) (by decide +kernel)
set_option maxRecDepth 20000 in
theorem gX4_stepWord_X4_isSpelled : GoodIn wsX4_stepWord (wsV RX4 109 RX4 yX4_isSpelled wsX4_isSpelled) := goodIn_app (goodIn_of _ (by decide +kernel)) ggX4_stepWord_X4_isSpelled
theorem dX4_stepWord_0 : decode cX4_stepWord 0 = .ok (.aload_n 0, 1) := by decide +kernel
theorem dX4_stepWord_1 : decode cX4_stepWord 1 = .ok (.getfield 29, 3) := by decide +kernel
theorem dX4_stepWord_4 : decode cX4_stepWord 4 = .ok (.aload_n 0, 1) := by decide +kernel
theorem dX4_stepWord_5 : decode cX4_stepWord 5 = .ok (.getfield 22, 3) := by decide +kernel
theorem dX4_stepWord_8 : decode cX4_stepWord 8 = .ok (.if_icmp .ge 31, 3) := by decide +kernel
theorem dX4_stepWord_11 : decode cX4_stepWord 11 = .ok (.aload_n 0, 1) := by decide +kernel
theorem dX4_stepWord_12 : decode cX4_stepWord 12 = .ok (.getfield 9, 3) := by decide +kernel
theorem dX4_stepWord_15 : decode cX4_stepWord 15 = .ok (.aload_n 0, 1) := by decide +kernel
theorem dX4_stepWord_16 : decode cX4_stepWord 16 = .ok (.getfield 29, 3) := by decide +kernel
theorem dX4_stepWord_19 : decode cX4_stepWord 19 = .ok (.iaload, 1) := by decide +kernel
theorem dX4_stepWord_20 : decode cX4_stepWord 20 = .ok (.invokestatic 85, 3) := by decide +kernel
theorem dX4_stepWord_23 : decode cX4_stepWord 23 = .ok (.ifCond .eq 16, 3) := by decide +kernel
theorem dX4_stepWord_26 : decode cX4_stepWord 26 = .ok (.aload_n 0, 1) := by decide +kernel
theorem dX4_stepWord_27 : decode cX4_stepWord 27 = .ok (.dup, 1) := by decide +kernel
theorem dX4_stepWord_28 : decode cX4_stepWord 28 = .ok (.getfield 29, 3) := by decide +kernel
theorem dX4_stepWord_31 : decode cX4_stepWord 31 = .ok (.iconst 1, 1) := by decide +kernel
theorem dX4_stepWord_32 : decode cX4_stepWord 32 = .ok (.iadd, 1) := by decide +kernel
theorem dX4_stepWord_33 : decode cX4_stepWord 33 = .ok (.putfield 29, 3) := by decide +kernel
theorem dX4_stepWord_36 : decode cX4_stepWord 36 = .ok (.goto (-36), 3) := by decide +kernel
theorem dX4_stepWord_39 : decode cX4_stepWord 39 = .ok (.aload_n 0, 1) := by decide +kernel
theorem dX4_stepWord_40 : decode cX4_stepWord 40 = .ok (.sipush 270, 3) := by decide +kernel
theorem dX4_stepWord_43 : decode cX4_stepWord 43 = .ok (.putfield 41, 3) := by decide +kernel
theorem dX4_stepWord_46 : decode cX4_stepWord 46 = .ok (.sipush 256, 3) := by decide +kernel
theorem dX4_stepWord_49 : decode cX4_stepWord 49 = .ok (.istore_n 1, 1) := by decide +kernel
theorem dX4_stepWord_50 : decode cX4_stepWord 50 = .ok (.iload_n 1, 1) := by decide +kernel
theorem dX4_stepWord_51 : decode cX4_stepWord 51 = .ok (.sipush 267, 3) := by decide +kernel
theorem dX4_stepWord_54 : decode cX4_stepWord 54 = .ok (.if_icmp .gt 25, 3) := by decide +kernel
theorem dX4_stepWord_57 : decode cX4_stepWord 57 = .ok (.aload_n 0, 1) := by decide +kernel
theorem dX4_stepWord_58 : decode cX4_stepWord 58 = .ok (.iload_n 1, 1) := by decide +kernel
theorem dX4_stepWord_59 : decode cX4_stepWord 59 = .ok (.invokestatic 105, 3) := by decide +kernel
theorem dX4_stepWord_62 : decode cX4_stepWord 62 = .ok (.invokevirtual 109, 3) := by decide +kernel
theorem dX4_stepWord_65 : decode cX4_stepWord 65 = .ok (.ifCond .eq 8, 3) := by decide +kernel
theorem dX4_stepWord_68 : decode cX4_stepWord 68 = .ok (.aload_n 0, 1) := by decide +kernel
theorem dX4_stepWord_69 : decode cX4_stepWord 69 = .ok (.iload_n 1, 1) := by decide +kernel
theorem dX4_stepWord_70 : decode cX4_stepWord 70 = .ok (.putfield 41, 3) := by decide +kernel
theorem dX4_stepWord_73 : decode cX4_stepWord 73 = .ok (.iinc 1 1, 3) := by decide +kernel
theorem dX4_stepWord_76 : decode cX4_stepWord 76 = .ok (.goto (-26), 3) := by decide +kernel
theorem dX4_stepWord_79 : decode cX4_stepWord 79 = .ok (.return_, 1) := by decide +kernel
set_option maxRecDepth 20000 in
theorem ggX4_isSpelled_J0_length_8abf5 : GoodIn wsX4_isSpelled wsJ0_length_8abf5 := goodIn_r _ [8, 9, 10, 11, 12, 7, 13, 14, 15] (by decide +kernel) (by decide +kernel)
set_option maxRecDepth 20000 in
theorem gX4_isSpelled_J0_length_8abf5 : GoodIn wsX4_isSpelled (wsV RX4 113 RJ0 yJ0_length_8abf5 wsJ0_length_8abf5) := goodIn_app (goodIn_of _ (by decide +kernel)) ggX4_isSpelled_J0_length_8abf5
set_option maxRecDepth 20000 in
theorem ggX4_isSpelled_J0_charAt_5068e : GoodIn wsX4_isSpelled wsJ0_charAt_5068e := goodIn_r _ [19, 9, 20, 21, 22, 7, 23, 14, 15, 24, 25, 26, 27, 28, 29, 30, 31, 32, 33, 34, 35, 36, 37, 38, 39, 40, 41, 42, 43, 44, 45, 46, 47, 48, 49, 50, 51, 52] (by decide +kernel) (by decide +kernel)
set_option maxRecDepth 20000 in
theorem gX4_isSpelled_J0_charAt_5068e : GoodIn wsX4_isSpelled (wsV RX4 117 RJ0 yJ0_charAt_5068e wsJ0_charAt_5068e) := goodIn_app (goodIn_of _ (by decide +kernel)) ggX4_isSpelled_J0_charAt_5068e
theorem dX4_isSpelled_0 : decode cX4_isSpelled 0 = .ok (.aload_n 1, 1) := by decide +kernel
theorem dX4_isSpelled_1 : decode cX4_isSpelled 1 = .ok (.invokevirtual 113, 3) := by decide +kernel
theorem dX4_isSpelled_4 : decode cX4_isSpelled 4 = .ok (.aload_n 0, 1) := by decide +kernel
theorem dX4_isSpelled_5 : decode cX4_isSpelled 5 = .ok (.getfield 29, 3) := by decide +kernel
theorem dX4_isSpelled_8 : decode cX4_isSpelled 8 = .ok (.aload_n 0, 1) := by decide +kernel
theorem dX4_isSpelled_9 : decode cX4_isSpelled 9 = .ok (.getfield 44, 3) := by decide +kernel
theorem dX4_isSpelled_12 : decode cX4_isSpelled 12 = .ok (.isub, 1) := by decide +kernel
theorem dX4_isSpelled_13 : decode cX4_isSpelled 13 = .ok (.if_icmp .eq 5, 3) := by decide +kernel
theorem dX4_isSpelled_16 : decode cX4_isSpelled 16 = .ok (.iconst 0, 1) := by decide +kernel
theorem dX4_isSpelled_17 : decode cX4_isSpelled 17 = .ok (.ireturn, 1) := by decide +kernel
theorem dX4_isSpelled_18 : decode cX4_isSpelled 18 = .ok (.iconst 0, 1) := by decide +kernel
theorem dX4_isSpelled_19 : decode cX4_isSpelled 19 = .ok (.istore_n 2, 1) := by decide +kernel
theorem dX4_isSpelled_20 : decode cX4_isSpelled 20 = .ok (.iload_n 2, 1) := by decide +kernel
theorem dX4_isSpelled_21 : decode cX4_isSpelled 21 = .ok (.aload_n 1, 1) := by decide +kernel
theorem dX4_isSpelled_22 : decode cX4_isSpelled 22 = .ok (.invokevirtual 113, 3) := by decide +kernel
theorem dX4_isSpelled_25 : decode cX4_isSpelled 25 = .ok (.if_icmp .ge 30, 3) := by decide +kernel
theorem dX4_isSpelled_28 : decode cX4_isSpelled 28 = .ok (.aload_n 1, 1) := by decide +kernel
theorem dX4_isSpelled_29 : decode cX4_isSpelled 29 = .ok (.iload_n 2, 1) := by decide +kernel
theorem dX4_isSpelled_30 : decode cX4_isSpelled 30 = .ok (.invokevirtual 117, 3) := by decide +kernel
theorem dX4_isSpelled_33 : decode cX4_isSpelled 33 = .ok (.aload_n 0, 1) := by decide +kernel
theorem dX4_isSpelled_34 : decode cX4_isSpelled 34 = .ok (.getfield 9, 3) := by decide +kernel
theorem dX4_isSpelled_37 : decode cX4_isSpelled 37 = .ok (.aload_n 0, 1) := by decide +kernel
theorem dX4_isSpelled_38 : decode cX4_isSpelled 38 = .ok (.getfield 44, 3) := by decide +kernel
theorem dX4_isSpelled_41 : decode cX4_isSpelled 41 = .ok (.iload_n 2, 1) := by decide +kernel
theorem dX4_isSpelled_42 : decode cX4_isSpelled 42 = .ok (.iadd, 1) := by decide +kernel
theorem dX4_isSpelled_43 : decode cX4_isSpelled 43 = .ok (.iaload, 1) := by decide +kernel
theorem dX4_isSpelled_44 : decode cX4_isSpelled 44 = .ok (.if_icmp .eq 5, 3) := by decide +kernel
theorem dX4_isSpelled_47 : decode cX4_isSpelled 47 = .ok (.iconst 0, 1) := by decide +kernel
theorem dX4_isSpelled_48 : decode cX4_isSpelled 48 = .ok (.ireturn, 1) := by decide +kernel
theorem dX4_isSpelled_49 : decode cX4_isSpelled 49 = .ok (.iinc 2 1, 3) := by decide +kernel
theorem dX4_isSpelled_52 : decode cX4_isSpelled 52 = .ok (.goto (-32), 3) := by decide +kernel
theorem dX4_isSpelled_55 : decode cX4_isSpelled 55 = .ok (.iconst 1, 1) := by decide +kernel
theorem dX4_isSpelled_56 : decode cX4_isSpelled 56 = .ok (.ireturn, 1) := by decide +kernel
set_option maxRecDepth 20000 in
theorem ggX4_stepNumber_X4_isDigit : GoodIn wsX4_stepNumber wsX4_isDigit := goodIn_r _ [10] (by decide +kernel) (by decide +kernel)
set_option maxRecDepth 20000 in
theorem gX4_stepNumber_X4_isDigit : GoodIn wsX4_stepNumber (va_wsS RX4 91 yX4_isDigit wsX4_isDigit) := goodIn_app (goodIn_of _ (by decide +kernel)) ggX4_stepNumber_X4_isDigit
theorem dX4_stepNumber_0 : decode cX4_stepNumber 0 = .ok (.aload_n 0, 1) := by decide +kernel
theorem dX4_stepNumber_1 : decode cX4_stepNumber 1 = .ok (.iconst 0, 1) := by decide +kernel
theorem dX4_stepNumber_2 : decode cX4_stepNumber 2 = .ok (.putfield 79, 3) := by decide +kernel
theorem dX4_stepNumber_5 : decode cX4_stepNumber 5 = .ok (.aload_n 0, 1) := by decide +kernel
theorem dX4_stepNumber_6 : decode cX4_stepNumber 6 = .ok (.getfield 29, 3) := by decide +kernel
theorem dX4_stepNumber_9 : decode cX4_stepNumber 9 = .ok (.aload_n 0, 1) := by decide +kernel
theorem dX4_stepNumber_10 : decode cX4_stepNumber 10 = .ok (.getfield 22, 3) := by decide +kernel
theorem dX4_stepNumber_13 : decode cX4_stepNumber 13 = .ok (.if_icmp .ge 55, 3) := by decide +kernel
theorem dX4_stepNumber_16 : decode cX4_stepNumber 16 = .ok (.aload_n 0, 1) := by decide +kernel
theorem dX4_stepNumber_17 : decode cX4_stepNumber 17 = .ok (.getfield 9, 3) := by decide +kernel
theorem dX4_stepNumber_20 : decode cX4_stepNumber 20 = .ok (.aload_n 0, 1) := by decide +kernel
theorem dX4_stepNumber_21 : decode cX4_stepNumber 21 = .ok (.getfield 29, 3) := by decide +kernel
theorem dX4_stepNumber_24 : decode cX4_stepNumber 24 = .ok (.iaload, 1) := by decide +kernel
theorem dX4_stepNumber_25 : decode cX4_stepNumber 25 = .ok (.invokestatic 91, 3) := by decide +kernel
theorem dX4_stepNumber_28 : decode cX4_stepNumber 28 = .ok (.ifCond .eq 40, 3) := by decide +kernel
theorem dX4_stepNumber_31 : decode cX4_stepNumber 31 = .ok (.aload_n 0, 1) := by decide +kernel
theorem dX4_stepNumber_32 : decode cX4_stepNumber 32 = .ok (.aload_n 0, 1) := by decide +kernel
theorem dX4_stepNumber_33 : decode cX4_stepNumber 33 = .ok (.getfield 79, 3) := by decide +kernel
theorem dX4_stepNumber_36 : decode cX4_stepNumber 36 = .ok (.bipush 10, 2) := by decide +kernel
theorem dX4_stepNumber_38 : decode cX4_stepNumber 38 = .ok (.imul, 1) := by decide +kernel
theorem dX4_stepNumber_39 : decode cX4_stepNumber 39 = .ok (.aload_n 0, 1) := by decide +kernel
theorem dX4_stepNumber_40 : decode cX4_stepNumber 40 = .ok (.getfield 9, 3) := by decide +kernel
theorem dX4_stepNumber_43 : decode cX4_stepNumber 43 = .ok (.aload_n 0, 1) := by decide +kernel
theorem dX4_stepNumber_44 : decode cX4_stepNumber 44 = .ok (.getfield 29, 3) := by decide +kernel
theorem dX4_stepNumber_47 : decode cX4_stepNumber 47 = .ok (.iaload, 1) := by decide +kernel
theorem dX4_stepNumber_48 : decode cX4_stepNumber 48 = .ok (.iadd, 1) := by decide +kernel
theorem dX4_stepNumber_49 : decode cX4_stepNumber 49 = .ok (.bipush 48, 2) := by decide +kernel
theorem dX4_stepNumber_51 : decode cX4_stepNumber 51 = .ok (.isub, 1) := by decide +kernel
theorem dX4_stepNumber_52 : decode cX4_stepNumber 52 = .ok (.putfield 79, 3) := by decide +kernel
theorem dX4_stepNumber_55 : decode cX4_stepNumber 55 = .ok (.aload_n 0, 1) := by decide +kernel
theorem dX4_stepNumber_56 : decode cX4_stepNumber 56 = .ok (.dup, 1) := by decide +kernel
theorem dX4_stepNumber_57 : decode cX4_stepNumber 57 = .ok (.getfield 29, 3) := by decide +kernel
theorem dX4_stepNumber_60 : decode cX4_stepNumber 60 = .ok (.iconst 1, 1) := by decide +kernel
theorem dX4_stepNumber_61 : decode cX4_stepNumber 61 = .ok (.iadd, 1) := by decide +kernel
theorem dX4_stepNumber_62 : decode cX4_stepNumber 62 = .ok (.putfield 29, 3) := by decide +kernel
theorem dX4_stepNumber_65 : decode cX4_stepNumber 65 = .ok (.goto (-60), 3) := by decide +kernel
theorem dX4_stepNumber_68 : decode cX4_stepNumber 68 = .ok (.aload_n 0, 1) := by decide +kernel
theorem dX4_stepNumber_69 : decode cX4_stepNumber 69 = .ok (.aload_n 0, 1) := by decide +kernel
theorem dX4_stepNumber_70 : decode cX4_stepNumber 70 = .ok (.getfield 29, 3) := by decide +kernel
theorem dX4_stepNumber_73 : decode cX4_stepNumber 73 = .ok (.aload_n 0, 1) := by decide +kernel
theorem dX4_stepNumber_74 : decode cX4_stepNumber 74 = .ok (.getfield 44, 3) := by decide +kernel
theorem dX4_stepNumber_77 : decode cX4_stepNumber 77 = .ok (.isub, 1) := by decide +kernel
theorem dX4_stepNumber_78 : decode cX4_stepNumber 78 = .ok (.iconst 4, 1) := by decide +kernel
theorem dX4_stepNumber_79 : decode cX4_stepNumber 79 = .ok (.if_icmp .gt 9, 3) := by decide +kernel
theorem dX4_stepNumber_82 : decode cX4_stepNumber 82 = .ok (.sipush 268, 3) := by decide +kernel
theorem dX4_stepNumber_85 : decode cX4_stepNumber 85 = .ok (.goto 6, 3) := by decide +kernel
theorem dX4_stepNumber_88 : decode cX4_stepNumber 88 = .ok (.sipush 270, 3) := by decide +kernel
theorem dX4_stepNumber_91 : decode cX4_stepNumber 91 = .ok (.putfield 41, 3) := by decide +kernel
theorem dX4_stepNumber_94 : decode cX4_stepNumber 94 = .ok (.return_, 1) := by decide +kernel
theorem dX4_isLetter_0 : decode cX4_isLetter 0 = .ok (.iload_n 0, 1) := by decide +kernel
theorem dX4_isLetter_1 : decode cX4_isLetter 1 = .ok (.bipush 97, 2) := by decide +kernel
theorem dX4_isLetter_3 : decode cX4_isLetter 3 = .ok (.if_icmp .lt 13, 3) := by decide +kernel
theorem dX4_isLetter_6 : decode cX4_isLetter 6 = .ok (.iload_n 0, 1) := by decide +kernel
theorem dX4_isLetter_7 : decode cX4_isLetter 7 = .ok (.bipush 122, 2) := by decide +kernel
theorem dX4_isLetter_9 : decode cX4_isLetter 9 = .ok (.if_icmp .gt 7, 3) := by decide +kernel
theorem dX4_isLetter_12 : decode cX4_isLetter 12 = .ok (.iconst 1, 1) := by decide +kernel
theorem dX4_isLetter_13 : decode cX4_isLetter 13 = .ok (.goto 4, 3) := by decide +kernel
theorem dX4_isLetter_16 : decode cX4_isLetter 16 = .ok (.iconst 0, 1) := by decide +kernel
theorem dX4_isLetter_17 : decode cX4_isLetter 17 = .ok (.ireturn, 1) := by decide +kernel
theorem dX4_isDigit_0 : decode cX4_isDigit 0 = .ok (.iload_n 0, 1) := by decide +kernel
theorem dX4_isDigit_1 : decode cX4_isDigit 1 = .ok (.bipush 48, 2) := by decide +kernel
theorem dX4_isDigit_3 : decode cX4_isDigit 3 = .ok (.if_icmp .lt 13, 3) := by decide +kernel
theorem dX4_isDigit_6 : decode cX4_isDigit 6 = .ok (.iload_n 0, 1) := by decide +kernel
theorem dX4_isDigit_7 : decode cX4_isDigit 7 = .ok (.bipush 57, 2) := by decide +kernel
theorem dX4_isDigit_9 : decode cX4_isDigit 9 = .ok (.if_icmp .gt 7, 3) := by decide +kernel
theorem dX4_isDigit_12 : decode cX4_isDigit 12 = .ok (.iconst 1, 1) := by decide +kernel
theorem dX4_isDigit_13 : decode cX4_isDigit 13 = .ok (.goto 4, 3) := by decide +kernel
theorem dX4_isDigit_16 : decode cX4_isDigit 16 = .ok (.iconst 0, 1) := by decide +kernel
theorem dX4_isDigit_17 : decode cX4_isDigit 17 = .ok (.ireturn, 1) := by decide +kernel
theorem dX5_init_0 : decode cX5_init 0 = .ok (.aload_n 0, 1) := by decide +kernel
theorem dX5_init_1 : decode cX5_init 1 = .ok (.invokespecial 1, 3) := by decide +kernel
theorem dX5_init_4 : decode cX5_init 4 = .ok (.aload_n 0, 1) := by decide +kernel
theorem dX5_init_5 : decode cX5_init 5 = .ok (.iconst (-1), 1) := by decide +kernel
theorem dX5_init_6 : decode cX5_init 6 = .ok (.putfield 9, 3) := by decide +kernel
theorem dX5_init_9 : decode cX5_init 9 = .ok (.aload_n 0, 1) := by decide +kernel
theorem dX5_init_10 : decode cX5_init 10 = .ok (.bipush 40, 2) := by decide +kernel
theorem dX5_init_12 : decode cX5_init 12 = .ok (.newarray .int, 2) := by decide +kernel
theorem dX5_init_14 : decode cX5_init 14 = .ok (.putfield 13, 3) := by decide +kernel
theorem dX5_init_17 : decode cX5_init 17 = .ok (.return_, 1) := by decide +kernel
theorem dX5_isMissing_0 : decode cX5_isMissing 0 = .ok (.aload_n 0, 1) := by decide +kernel
theorem dX5_isMissing_1 : decode cX5_isMissing 1 = .ok (.getfield 9, 3) := by decide +kernel
theorem dX5_isMissing_4 : decode cX5_isMissing 4 = .ok (.iconst (-1), 1) := by decide +kernel
theorem dX5_isMissing_5 : decode cX5_isMissing 5 = .ok (.if_icmp .ne 7, 3) := by decide +kernel
theorem dX5_isMissing_8 : decode cX5_isMissing 8 = .ok (.iconst 1, 1) := by decide +kernel
theorem dX5_isMissing_9 : decode cX5_isMissing 9 = .ok (.goto 4, 3) := by decide +kernel
theorem dX5_isMissing_12 : decode cX5_isMissing 12 = .ok (.iconst 0, 1) := by decide +kernel
theorem dX5_isMissing_13 : decode cX5_isMissing 13 = .ok (.ireturn, 1) := by decide +kernel
theorem dX5_become_0 : decode cX5_become 0 = .ok (.aload_n 0, 1) := by decide +kernel
theorem dX5_become_1 : decode cX5_become 1 = .ok (.iload_n 1, 1) := by decide +kernel
theorem dX5_become_2 : decode cX5_become 2 = .ok (.putfield 9, 3) := by decide +kernel
theorem dX5_become_5 : decode cX5_become 5 = .ok (.aload_n 0, 1) := by decide +kernel
theorem dX5_become_6 : decode cX5_become 6 = .ok (.iconst 0, 1) := by decide +kernel
theorem dX5_become_7 : decode cX5_become 7 = .ok (.bipush 40, 2) := by decide +kernel
theorem dX5_become_9 : decode cX5_become 9 = .ok (.iload_n 2, 1) := by decide +kernel
theorem dX5_become_10 : decode cX5_become 10 = .ok (.invokestatic 17, 3) := by decide +kernel
theorem dX5_become_13 : decode cX5_become 13 = .ok (.invokestatic 23, 3) := by decide +kernel
theorem dX5_become_16 : decode cX5_become 16 = .ok (.putfield 26, 3) := by decide +kernel
theorem dX5_become_19 : decode cX5_become 19 = .ok (.iconst 0, 1) := by decide +kernel
theorem dX5_become_20 : decode cX5_become 20 = .ok (.istore_n 3, 1) := by decide +kernel
theorem dX5_become_21 : decode cX5_become 21 = .ok (.iload_n 3, 1) := by decide +kernel
theorem dX5_become_22 : decode cX5_become 22 = .ok (.bipush 40, 2) := by decide +kernel
theorem dX5_become_24 : decode cX5_become 24 = .ok (.if_icmp .ge 16, 3) := by decide +kernel
theorem dX5_become_27 : decode cX5_become 27 = .ok (.aload_n 0, 1) := by decide +kernel
theorem dX5_become_28 : decode cX5_become 28 = .ok (.getfield 13, 3) := by decide +kernel
theorem dX5_become_31 : decode cX5_become 31 = .ok (.iload_n 3, 1) := by decide +kernel
theorem dX5_become_32 : decode cX5_become 32 = .ok (.iconst 0, 1) := by decide +kernel
theorem dX5_become_33 : decode cX5_become 33 = .ok (.iastore, 1) := by decide +kernel
theorem dX5_become_34 : decode cX5_become 34 = .ok (.iinc 3 1, 3) := by decide +kernel
theorem dX5_become_37 : decode cX5_become 37 = .ok (.goto (-16), 3) := by decide +kernel
theorem dX5_become_40 : decode cX5_become 40 = .ok (.return_, 1) := by decide +kernel
theorem dX5_hasRange_0 : decode cX5_hasRange 0 = .ok (.iload_n 1, 1) := by decide +kernel
theorem dX5_hasRange_1 : decode cX5_hasRange 1 = .ok (.ifCond .lt 21, 3) := by decide +kernel
theorem dX5_hasRange_4 : decode cX5_hasRange 4 = .ok (.iload_n 2, 1) := by decide +kernel
theorem dX5_hasRange_5 : decode cX5_hasRange 5 = .ok (.ifCond .lt 17, 3) := by decide +kernel
theorem dX5_hasRange_8 : decode cX5_hasRange 8 = .ok (.iload_n 1, 1) := by decide +kernel
theorem dX5_hasRange_9 : decode cX5_hasRange 9 = .ok (.aload_n 0, 1) := by decide +kernel
theorem dX5_hasRange_10 : decode cX5_hasRange 10 = .ok (.getfield 26, 3) := by decide +kernel
theorem dX5_hasRange_13 : decode cX5_hasRange 13 = .ok (.iload_n 2, 1) := by decide +kernel
theorem dX5_hasRange_14 : decode cX5_hasRange 14 = .ok (.isub, 1) := by decide +kernel
theorem dX5_hasRange_15 : decode cX5_hasRange 15 = .ok (.if_icmp .gt 7, 3) := by decide +kernel
theorem dX5_hasRange_18 : decode cX5_hasRange 18 = .ok (.iconst 1, 1) := by decide +kernel
theorem dX5_hasRange_19 : decode cX5_hasRange 19 = .ok (.goto 4, 3) := by decide +kernel
theorem dX5_hasRange_22 : decode cX5_hasRange 22 = .ok (.iconst 0, 1) := by decide +kernel
theorem dX5_hasRange_23 : decode cX5_hasRange 23 = .ok (.ireturn, 1) := by decide +kernel
set_option maxRecDepth 20000 in
theorem ggX5_put_X5_hasRange : GoodIn wsX5_put wsX5_hasRange := goodIn_r _ [7, 8, 9, 10, 11] (by decide +kernel) (by decide +kernel)
set_option maxRecDepth 20000 in
theorem gX5_put_X5_hasRange : GoodIn wsX5_put (wsV RX5 29 RX5 yX5_hasRange wsX5_hasRange) := goodIn_app (goodIn_of _ (by decide +kernel)) ggX5_put_X5_hasRange
theorem dX5_put_0 : decode cX5_put 0 = .ok (.aload_n 0, 1) := by decide +kernel
theorem dX5_put_1 : decode cX5_put 1 = .ok (.iload_n 1, 1) := by decide +kernel
theorem dX5_put_2 : decode cX5_put 2 = .ok (.iconst 1, 1) := by decide +kernel
theorem dX5_put_3 : decode cX5_put 3 = .ok (.invokevirtual 29, 3) := by decide +kernel
theorem dX5_put_6 : decode cX5_put 6 = .ok (.ifCond .ne 5, 3) := by decide +kernel
theorem dX5_put_9 : decode cX5_put 9 = .ok (.iconst 0, 1) := by decide +kernel
theorem dX5_put_10 : decode cX5_put 10 = .ok (.ireturn, 1) := by decide +kernel
theorem dX5_put_11 : decode cX5_put 11 = .ok (.aload_n 0, 1) := by decide +kernel
theorem dX5_put_12 : decode cX5_put 12 = .ok (.getfield 9, 3) := by decide +kernel
theorem dX5_put_15 : decode cX5_put 15 = .ok (.ifCond .ne 14, 3) := by decide +kernel
theorem dX5_put_18 : decode cX5_put 18 = .ok (.aload_n 0, 1) := by decide +kernel
theorem dX5_put_19 : decode cX5_put 19 = .ok (.getfield 13, 3) := by decide +kernel
theorem dX5_put_22 : decode cX5_put 22 = .ok (.iload_n 1, 1) := by decide +kernel
theorem dX5_put_23 : decode cX5_put 23 = .ok (.iload_n 2, 1) := by decide +kernel
theorem dX5_put_24 : decode cX5_put 24 = .ok (.i2b, 1) := by decide +kernel
theorem dX5_put_25 : decode cX5_put 25 = .ok (.iastore, 1) := by decide +kernel
theorem dX5_put_26 : decode cX5_put 26 = .ok (.goto 23, 3) := by decide +kernel
theorem dX5_put_29 : decode cX5_put 29 = .ok (.aload_n 0, 1) := by decide +kernel
theorem dX5_put_30 : decode cX5_put 30 = .ok (.getfield 13, 3) := by decide +kernel
theorem dX5_put_33 : decode cX5_put 33 = .ok (.iload_n 1, 1) := by decide +kernel
theorem dX5_put_34 : decode cX5_put 34 = .ok (.aload_n 0, 1) := by decide +kernel
theorem dX5_put_35 : decode cX5_put 35 = .ok (.getfield 9, 3) := by decide +kernel
theorem dX5_put_38 : decode cX5_put 38 = .ok (.iconst 1, 1) := by decide +kernel
theorem dX5_put_39 : decode cX5_put 39 = .ok (.if_icmp .ne 8, 3) := by decide +kernel
theorem dX5_put_42 : decode cX5_put 42 = .ok (.iload_n 2, 1) := by decide +kernel
theorem dX5_put_43 : decode cX5_put 43 = .ok (.i2s, 1) := by decide +kernel
theorem dX5_put_44 : decode cX5_put 44 = .ok (.goto 4, 3) := by decide +kernel
theorem dX5_put_47 : decode cX5_put 47 = .ok (.iload_n 2, 1) := by decide +kernel
theorem dX5_put_48 : decode cX5_put 48 = .ok (.iastore, 1) := by decide +kernel
theorem dX5_put_49 : decode cX5_put 49 = .ok (.iconst 1, 1) := by decide +kernel
theorem dX5_put_50 : decode cX5_put 50 = .ok (.ireturn, 1) := by decide +kernel
theorem dX6_init_0 : decode cX6_init 0 = .ok (.aload_n 0, 1) := by decide +kernel
theorem dX6_init_1 : decode cX6_init 1 = .ok (.invokespecial 3, 3) := by decide +kernel
theorem dX6_init_4 : decode cX6_init 4 = .ok (.aload_n 0, 1) := by decide +kernel
theorem dX6_init_5 : decode cX6_init 5 = .ok (.sipush 160, 3) := by decide +kernel
theorem dX6_init_8 : decode cX6_init 8 = .ok (.newarray .int, 2) := by decide +kernel
theorem dX6_init_10 : decode cX6_init 10 = .ok (.putfield 9, 3) := by decide +kernel
theorem dX6_init_13 : decode cX6_init 13 = .ok (.aload_n 0, 1) := by decide +kernel
theorem dX6_init_14 : decode cX6_init 14 = .ok (.iconst 3, 1) := by decide +kernel
theorem dX6_init_15 : decode cX6_init 15 = .ok (.newarray .int, 2) := by decide +kernel
theorem dX6_init_17 : decode cX6_init 17 = .ok (.putfield 15, 3) := by decide +kernel
theorem dX6_init_20 : decode cX6_init 20 = .ok (.return_, 1) := by decide +kernel
theorem dX6_clear_0 : decode cX6_clear 0 = .ok (.aload_n 0, 1) := by decide +kernel
theorem dX6_clear_1 : decode cX6_clear 1 = .ok (.iconst 0, 1) := by decide +kernel
theorem dX6_clear_2 : decode cX6_clear 2 = .ok (.putfield 18, 3) := by decide +kernel
theorem dX6_clear_5 : decode cX6_clear 5 = .ok (.return_, 1) := by decide +kernel
theorem dX6_add_0 : decode cX6_add 0 = .ok (.aload_n 0, 1) := by decide +kernel
theorem dX6_add_1 : decode cX6_add 1 = .ok (.getfield 18, 3) := by decide +kernel
theorem dX6_add_4 : decode cX6_add 4 = .ok (.sipush 160, 3) := by decide +kernel
theorem dX6_add_7 : decode cX6_add 7 = .ok (.if_icmp .ge 23, 3) := by decide +kernel
theorem dX6_add_10 : decode cX6_add 10 = .ok (.aload_n 0, 1) := by decide +kernel
theorem dX6_add_11 : decode cX6_add 11 = .ok (.getfield 9, 3) := by decide +kernel
theorem dX6_add_14 : decode cX6_add 14 = .ok (.aload_n 0, 1) := by decide +kernel
theorem dX6_add_15 : decode cX6_add 15 = .ok (.getfield 18, 3) := by decide +kernel
theorem dX6_add_18 : decode cX6_add 18 = .ok (.iload_n 1, 1) := by decide +kernel
theorem dX6_add_19 : decode cX6_add 19 = .ok (.iastore, 1) := by decide +kernel
theorem dX6_add_20 : decode cX6_add 20 = .ok (.aload_n 0, 1) := by decide +kernel
theorem dX6_add_21 : decode cX6_add 21 = .ok (.dup, 1) := by decide +kernel
theorem dX6_add_22 : decode cX6_add 22 = .ok (.getfield 18, 3) := by decide +kernel
theorem dX6_add_25 : decode cX6_add 25 = .ok (.iconst 1, 1) := by decide +kernel
theorem dX6_add_26 : decode cX6_add 26 = .ok (.iadd, 1) := by decide +kernel
theorem dX6_add_27 : decode cX6_add 27 = .ok (.putfield 18, 3) := by decide +kernel
theorem dX6_add_30 : decode cX6_add 30 = .ok (.return_, 1) := by decide +kernel
theorem dX6_endPart_0 : decode cX6_endPart 0 = .ok (.iload_n 1, 1) := by decide +kernel
theorem dX6_endPart_1 : decode cX6_endPart 1 = .ok (.ifCond .lt 18, 3) := by decide +kernel
theorem dX6_endPart_4 : decode cX6_endPart 4 = .ok (.iload_n 1, 1) := by decide +kernel
theorem dX6_endPart_5 : decode cX6_endPart 5 = .ok (.iconst 3, 1) := by decide +kernel
theorem dX6_endPart_6 : decode cX6_endPart 6 = .ok (.if_icmp .ge 13, 3) := by decide +kernel
theorem dX6_endPart_9 : decode cX6_endPart 9 = .ok (.aload_n 0, 1) := by decide +kernel
theorem dX6_endPart_10 : decode cX6_endPart 10 = .ok (.getfield 15, 3) := by decide +kernel
theorem dX6_endPart_13 : decode cX6_endPart 13 = .ok (.iload_n 1, 1) := by decide +kernel
theorem dX6_endPart_14 : decode cX6_endPart 14 = .ok (.aload_n 0, 1) := by decide +kernel
theorem dX6_endPart_15 : decode cX6_endPart 15 = .ok (.getfield 18, 3) := by decide +kernel
theorem dX6_endPart_18 : decode cX6_endPart 18 = .ok (.iastore, 1) := by decide +kernel
theorem dX6_endPart_19 : decode cX6_endPart 19 = .ok (.return_, 1) := by decide +kernel
set_option maxRecDepth 20000 in
theorem ggX6_beFirst_X6_clear : GoodIn wsX6_beFirst wsX6_clear := goodIn_r _ [5, 6, 17, 18, 19] (by decide +kernel) (by decide +kernel)
set_option maxRecDepth 20000 in
theorem gX6_beFirst_X6_clear : GoodIn wsX6_beFirst (wsV RX6 22 RX6 yX6_clear wsX6_clear) := goodIn_app (goodIn_of _ (by decide +kernel)) ggX6_beFirst_X6_clear
set_option maxRecDepth 20000 in
theorem ggX6_beFirst_X6_add : GoodIn wsX6_beFirst wsX6_add := goodIn_r _ [10, 6, 11, 17, 18, 19] (by decide +kernel) (by decide +kernel)
set_option maxRecDepth 20000 in
theorem gX6_beFirst_X6_add : GoodIn wsX6_beFirst (wsV RX6 25 RX6 yX6_add wsX6_add) := goodIn_app (goodIn_of _ (by decide +kernel)) ggX6_beFirst_X6_add
set_option maxRecDepth 20000 in
theorem ggX6_beFirst_X6_endPart : GoodIn wsX6_beFirst wsX6_endPart := goodIn_r _ [15, 16, 6, 17, 18, 19] (by decide +kernel) (by decide +kernel)
set_option maxRecDepth 20000 in
theorem gX6_beFirst_X6_endPart : GoodIn wsX6_beFirst (wsV RX6 31 RX6 yX6_endPart wsX6_endPart) := goodIn_app (goodIn_of _ (by decide +kernel)) ggX6_beFirst_X6_endPart
theorem dX6_beFirst_0 : decode cX6_beFirst 0 = .ok (.aload_n 0, 1) := by decide +kernel
theorem dX6_beFirst_1 : decode cX6_beFirst 1 = .ok (.invokevirtual 22, 3) := by decide +kernel
theorem dX6_beFirst_4 : decode cX6_beFirst 4 = .ok (.aload_n 0, 1) := by decide +kernel
theorem dX6_beFirst_5 : decode cX6_beFirst 5 = .ok (.iconst 1, 1) := by decide +kernel
theorem dX6_beFirst_6 : decode cX6_beFirst 6 = .ok (.invokevirtual 25, 3) := by decide +kernel
theorem dX6_beFirst_9 : decode cX6_beFirst 9 = .ok (.aload_n 0, 1) := by decide +kernel
theorem dX6_beFirst_10 : decode cX6_beFirst 10 = .ok (.sipush (-262), 3) := by decide +kernel
theorem dX6_beFirst_13 : decode cX6_beFirst 13 = .ok (.invokevirtual 25, 3) := by decide +kernel
theorem dX6_beFirst_16 : decode cX6_beFirst 16 = .ok (.aload_n 0, 1) := by decide +kernel
theorem dX6_beFirst_17 : decode cX6_beFirst 17 = .ok (.bipush (-43), 2) := by decide +kernel
theorem dX6_beFirst_19 : decode cX6_beFirst 19 = .ok (.invokevirtual 25, 3) := by decide +kernel
theorem dX6_beFirst_22 : decode cX6_beFirst 22 = .ok (.aload_n 0, 1) := by decide +kernel
theorem dX6_beFirst_23 : decode cX6_beFirst 23 = .ok (.iconst 0, 1) := by decide +kernel
theorem dX6_beFirst_24 : decode cX6_beFirst 24 = .ok (.invokevirtual 31, 3) := by decide +kernel
theorem dX6_beFirst_27 : decode cX6_beFirst 27 = .ok (.aload_n 0, 1) := by decide +kernel
theorem dX6_beFirst_28 : decode cX6_beFirst 28 = .ok (.iconst 1, 1) := by decide +kernel
theorem dX6_beFirst_29 : decode cX6_beFirst 29 = .ok (.invokevirtual 25, 3) := by decide +kernel
theorem dX6_beFirst_32 : decode cX6_beFirst 32 = .ok (.aload_n 0, 1) := by decide +kernel
theorem dX6_beFirst_33 : decode cX6_beFirst 33 = .ok (.iconst 1, 1) := by decide +kernel
theorem dX6_beFirst_34 : decode cX6_beFirst 34 = .ok (.invokevirtual 31, 3) := by decide +kernel
theorem dX6_beFirst_37 : decode cX6_beFirst 37 = .ok (.aload_n 0, 1) := by decide +kernel
theorem dX6_beFirst_38 : decode cX6_beFirst 38 = .ok (.iconst 0, 1) := by decide +kernel
theorem dX6_beFirst_39 : decode cX6_beFirst 39 = .ok (.invokevirtual 25, 3) := by decide +kernel
theorem dX6_beFirst_42 : decode cX6_beFirst 42 = .ok (.aload_n 0, 1) := by decide +kernel
theorem dX6_beFirst_43 : decode cX6_beFirst 43 = .ok (.iconst 2, 1) := by decide +kernel
theorem dX6_beFirst_44 : decode cX6_beFirst 44 = .ok (.invokevirtual 31, 3) := by decide +kernel
theorem dX6_beFirst_47 : decode cX6_beFirst 47 = .ok (.return_, 1) := by decide +kernel
set_option maxRecDepth 20000 in
theorem ggX6_value_X1_lodges : GoodIn wsX6_value wsX1_lodges := goodIn_r _ [7, 8, 31, 32, 33, 34, 35, 36, 37, 38, 39, 40, 41] (by decide +kernel) (by decide +kernel)
set_option maxRecDepth 20000 in
theorem gX6_value_X1_lodges : GoodIn wsX6_value (wsV RX6 34 RX1 yX1_lodges wsX1_lodges) := goodIn_app (goodIn_of _ (by decide +kernel)) ggX6_value_X1_lodges
set_option maxRecDepth 20000 in
theorem ggX6_value_X7_isName : GoodIn wsX6_value wsX7_isName := goodIn_r _ [12] (by decide +kernel) (by decide +kernel)
set_option maxRecDepth 20000 in
theorem gX6_value_X7_isName : GoodIn wsX6_value (va_wsS RX6 40 yX7_isName wsX7_isName) := goodIn_app (goodIn_of _ (by decide +kernel)) ggX6_value_X7_isName
set_option maxRecDepth 20000 in
theorem ggX6_value_X6_named : GoodIn wsX6_value wsX6_named := goodIn_r _ [16, 17, 18, 19, 20, 21, 31, 32, 33, 34, 35, 36, 37, 38, 39, 40, 41] (by decide +kernel) (by decide +kernel)
set_option maxRecDepth 20000 in
theorem gX6_value_X6_named : GoodIn wsX6_value (va_wsS RX6 43 yX6_named wsX6_named) := goodIn_app (goodIn_of _ (by decide +kernel)) ggX6_value_X6_named
set_option maxRecDepth 20000 in
theorem ggX6_value_X6_ofOne : GoodIn wsX6_value wsX6_ofOne := goodIn_r _ [24] (by decide +kernel) (by decide +kernel)
set_option maxRecDepth 20000 in
theorem gX6_value_X6_ofOne : GoodIn wsX6_value (va_wsS RX6 47 yX6_ofOne wsX6_ofOne) := goodIn_app (goodIn_of _ (by decide +kernel)) ggX6_value_X6_ofOne
set_option maxRecDepth 20000 in
theorem ggX6_value_X6_ofTwo : GoodIn wsX6_value wsX6_ofTwo := goodIn_r _ [27] (by decide +kernel) (by decide +kernel)
set_option maxRecDepth 20000 in
theorem gX6_value_X6_ofTwo : GoodIn wsX6_value (va_wsS RX6 51 yX6_ofTwo wsX6_ofTwo) := goodIn_app (goodIn_of _ (by decide +kernel)) ggX6_value_X6_ofTwo
theorem dX6_value_0 : decode cX6_value 0 = .ok (.iload_n 1, 1) := by decide +kernel
theorem dX6_value_1 : decode cX6_value 1 = .ok (.ifCond .lt 24, 3) := by decide +kernel
theorem dX6_value_4 : decode cX6_value 4 = .ok (.iload_n 1, 1) := by decide +kernel
theorem dX6_value_5 : decode cX6_value 5 = .ok (.iconst 3, 1) := by decide +kernel
theorem dX6_value_6 : decode cX6_value 6 = .ok (.if_icmp .ge 19, 3) := by decide +kernel
theorem dX6_value_9 : decode cX6_value 9 = .ok (.aload 5, 2) := by decide +kernel
theorem dX6_value_11 : decode cX6_value 11 = .ok (.arraylength, 1) := by decide +kernel
theorem dX6_value_12 : decode cX6_value 12 = .ok (.bipush 32, 2) := by decide +kernel
theorem dX6_value_14 : decode cX6_value 14 = .ok (.if_icmp .lt 11, 3) := by decide +kernel
theorem dX6_value_17 : decode cX6_value 17 = .ok (.aload_n 2, 1) := by decide +kernel
theorem dX6_value_18 : decode cX6_value 18 = .ok (.iload_n 3, 1) := by decide +kernel
theorem dX6_value_19 : decode cX6_value 19 = .ok (.invokevirtual 34, 3) := by decide +kernel
theorem dX6_value_22 : decode cX6_value 22 = .ok (.ifCond .ne 5, 3) := by decide +kernel
theorem dX6_value_25 : decode cX6_value 25 = .ok (.iconst 0, 1) := by decide +kernel
theorem dX6_value_26 : decode cX6_value 26 = .ok (.ireturn, 1) := by decide +kernel
theorem dX6_value_27 : decode cX6_value 27 = .ok (.iconst 0, 1) := by decide +kernel
theorem dX6_value_28 : decode cX6_value 28 = .ok (.istore 6, 2) := by decide +kernel
theorem dX6_value_30 : decode cX6_value 30 = .ok (.iload_n 1, 1) := by decide +kernel
theorem dX6_value_31 : decode cX6_value 31 = .ok (.ifCond .ne 7, 3) := by decide +kernel
theorem dX6_value_34 : decode cX6_value 34 = .ok (.iconst 0, 1) := by decide +kernel
theorem dX6_value_35 : decode cX6_value 35 = .ok (.goto 11, 3) := by decide +kernel
theorem dX6_value_38 : decode cX6_value 38 = .ok (.aload_n 0, 1) := by decide +kernel
theorem dX6_value_39 : decode cX6_value 39 = .ok (.getfield 15, 3) := by decide +kernel
theorem dX6_value_42 : decode cX6_value 42 = .ok (.iload_n 1, 1) := by decide +kernel
theorem dX6_value_43 : decode cX6_value 43 = .ok (.iconst 1, 1) := by decide +kernel
theorem dX6_value_44 : decode cX6_value 44 = .ok (.isub, 1) := by decide +kernel
theorem dX6_value_45 : decode cX6_value 45 = .ok (.iaload, 1) := by decide +kernel
theorem dX6_value_46 : decode cX6_value 46 = .ok (.istore 7, 2) := by decide +kernel
theorem dX6_value_48 : decode cX6_value 48 = .ok (.iload 7, 2) := by decide +kernel
theorem dX6_value_50 : decode cX6_value 50 = .ok (.aload_n 0, 1) := by decide +kernel
theorem dX6_value_51 : decode cX6_value 51 = .ok (.getfield 15, 3) := by decide +kernel
theorem dX6_value_54 : decode cX6_value 54 = .ok (.iload_n 1, 1) := by decide +kernel
theorem dX6_value_55 : decode cX6_value 55 = .ok (.iaload, 1) := by decide +kernel
theorem dX6_value_56 : decode cX6_value 56 = .ok (.if_icmp .ge 148, 3) := by decide +kernel
theorem dX6_value_59 : decode cX6_value 59 = .ok (.aload_n 0, 1) := by decide +kernel
theorem dX6_value_60 : decode cX6_value 60 = .ok (.getfield 9, 3) := by decide +kernel
theorem dX6_value_63 : decode cX6_value 63 = .ok (.iload 7, 2) := by decide +kernel
theorem dX6_value_65 : decode cX6_value 65 = .ok (.iaload, 1) := by decide +kernel
theorem dX6_value_66 : decode cX6_value 66 = .ok (.istore 8, 2) := by decide +kernel
theorem dX6_value_68 : decode cX6_value 68 = .ok (.iload 8, 2) := by decide +kernel
theorem dX6_value_70 : decode cX6_value 70 = .ok (.ifCond .ge 12, 3) := by decide +kernel
theorem dX6_value_73 : decode cX6_value 73 = .ok (.iload 8, 2) := by decide +kernel
theorem dX6_value_75 : decode cX6_value 75 = .ok (.ineg, 1) := by decide +kernel
theorem dX6_value_76 : decode cX6_value 76 = .ok (.invokestatic 40, 3) := by decide +kernel
theorem dX6_value_79 : decode cX6_value 79 = .ok (.ifCond .eq 41, 3) := by decide +kernel
theorem dX6_value_82 : decode cX6_value 82 = .ok (.iload 6, 2) := by decide +kernel
theorem dX6_value_84 : decode cX6_value 84 = .ok (.bipush 32, 2) := by decide +kernel
theorem dX6_value_86 : decode cX6_value 86 = .ok (.if_icmp .ge 112, 3) := by decide +kernel
theorem dX6_value_89 : decode cX6_value 89 = .ok (.aload 5, 2) := by decide +kernel
theorem dX6_value_91 : decode cX6_value 91 = .ok (.iload 6, 2) := by decide +kernel
theorem dX6_value_93 : decode cX6_value 93 = .ok (.iload 8, 2) := by decide +kernel
theorem dX6_value_95 : decode cX6_value 95 = .ok (.ifCond .lt 8, 3) := by decide +kernel
theorem dX6_value_98 : decode cX6_value 98 = .ok (.iload 8, 2) := by decide +kernel
theorem dX6_value_100 : decode cX6_value 100 = .ok (.goto 13, 3) := by decide +kernel
theorem dX6_value_103 : decode cX6_value 103 = .ok (.iload 8, 2) := by decide +kernel
theorem dX6_value_105 : decode cX6_value 105 = .ok (.ineg, 1) := by decide +kernel
theorem dX6_value_106 : decode cX6_value 106 = .ok (.aload_n 2, 1) := by decide +kernel
theorem dX6_value_107 : decode cX6_value 107 = .ok (.iload_n 3, 1) := by decide +kernel
theorem dX6_value_108 : decode cX6_value 108 = .ok (.iload 4, 2) := by decide +kernel
theorem dX6_value_110 : decode cX6_value 110 = .ok (.invokestatic 43, 3) := by decide +kernel
theorem dX6_value_113 : decode cX6_value 113 = .ok (.iastore, 1) := by decide +kernel
theorem dX6_value_114 : decode cX6_value 114 = .ok (.iinc 6 1, 3) := by decide +kernel
theorem dX6_value_117 : decode cX6_value 117 = .ok (.goto 81, 3) := by decide +kernel
theorem dX6_value_120 : decode cX6_value 120 = .ok (.iload 8, 2) := by decide +kernel
theorem dX6_value_122 : decode cX6_value 122 = .ok (.sipush (-261), 3) := by decide +kernel
theorem dX6_value_125 : decode cX6_value 125 = .ok (.if_icmp .eq 11, 3) := by decide +kernel
theorem dX6_value_128 : decode cX6_value 128 = .ok (.iload 8, 2) := by decide +kernel
theorem dX6_value_130 : decode cX6_value 130 = .ok (.sipush (-271), 3) := by decide +kernel
theorem dX6_value_133 : decode cX6_value 133 = .ok (.if_icmp .ne 31, 3) := by decide +kernel
theorem dX6_value_136 : decode cX6_value 136 = .ok (.iload 6, 2) := by decide +kernel
