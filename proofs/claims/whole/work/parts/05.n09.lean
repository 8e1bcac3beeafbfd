theorem dX9_atom_30 : decode cX9_atom 30 = .ok (.isub, 1) := by decide +kernel
theorem dX9_atom_31 : decode cX9_atom 31 = .ok (.putfield 177, 3) := by decide +kernel
theorem dX9_atom_34 : decode cX9_atom 34 = .ok (.goto 127, 3) := by decide +kernel
theorem dX9_atom_37 : decode cX9_atom 37 = .ok (.aload_n 0, 1) := by decide +kernel
theorem dX9_atom_38 : decode cX9_atom 38 = .ok (.bipush 40, 2) := by decide +kernel
theorem dX9_atom_40 : decode cX9_atom 40 = .ok (.invokevirtual 208, 3) := by decide +kernel
theorem dX9_atom_43 : decode cX9_atom 43 = .ok (.ifCond .eq 52, 3) := by decide +kernel
theorem dX9_atom_46 : decode cX9_atom 46 = .ok (.aload_n 0, 1) := by decide +kernel
theorem dX9_atom_47 : decode cX9_atom 47 = .ok (.invokevirtual 211, 3) := by decide +kernel
theorem dX9_atom_50 : decode cX9_atom 50 = .ok (.ifCond .eq 111, 3) := by decide +kernel
theorem dX9_atom_53 : decode cX9_atom 53 = .ok (.aload_n 0, 1) := by decide +kernel
theorem dX9_atom_54 : decode cX9_atom 54 = .ok (.invokevirtual 219, 3) := by decide +kernel
theorem dX9_atom_57 : decode cX9_atom 57 = .ok (.istore_n 1, 1) := by decide +kernel
theorem dX9_atom_58 : decode cX9_atom 58 = .ok (.aload_n 0, 1) := by decide +kernel
theorem dX9_atom_59 : decode cX9_atom 59 = .ok (.bipush 41, 2) := by decide +kernel
theorem dX9_atom_61 : decode cX9_atom 61 = .ok (.invokevirtual 208, 3) := by decide +kernel
theorem dX9_atom_64 : decode cX9_atom 64 = .ok (.ifCond .ne 7, 3) := by decide +kernel
theorem dX9_atom_67 : decode cX9_atom 67 = .ok (.aload_n 0, 1) := by decide +kernel
theorem dX9_atom_68 : decode cX9_atom 68 = .ok (.invokevirtual 180, 3) := by decide +kernel
theorem dX9_atom_71 : decode cX9_atom 71 = .ok (.aload_n 0, 1) := by decide +kernel
theorem dX9_atom_72 : decode cX9_atom 72 = .ok (.dup, 1) := by decide +kernel
theorem dX9_atom_73 : decode cX9_atom 73 = .ok (.getfield 177, 3) := by decide +kernel
theorem dX9_atom_76 : decode cX9_atom 76 = .ok (.iconst 1, 1) := by decide +kernel
theorem dX9_atom_77 : decode cX9_atom 77 = .ok (.isub, 1) := by decide +kernel
theorem dX9_atom_78 : decode cX9_atom 78 = .ok (.putfield 177, 3) := by decide +kernel
theorem dX9_atom_81 : decode cX9_atom 81 = .ok (.aload_n 0, 1) := by decide +kernel
theorem dX9_atom_82 : decode cX9_atom 82 = .ok (.getfield 167, 3) := by decide +kernel
theorem dX9_atom_85 : decode cX9_atom 85 = .ok (.ifCond .ne 76, 3) := by decide +kernel
theorem dX9_atom_88 : decode cX9_atom 88 = .ok (.aload_n 0, 1) := by decide +kernel
theorem dX9_atom_89 : decode cX9_atom 89 = .ok (.invokevirtual 183, 3) := by decide +kernel
theorem dX9_atom_92 : decode cX9_atom 92 = .ok (.goto 69, 3) := by decide +kernel
theorem dX9_atom_95 : decode cX9_atom 95 = .ok (.aload_n 0, 1) := by decide +kernel
theorem dX9_atom_96 : decode cX9_atom 96 = .ok (.getfield 167, 3) := by decide +kernel
theorem dX9_atom_99 : decode cX9_atom 99 = .ok (.ifCond .ne 24, 3) := by decide +kernel
theorem dX9_atom_102 : decode cX9_atom 102 = .ok (.aload_n 0, 1) := by decide +kernel
theorem dX9_atom_103 : decode cX9_atom 103 = .ok (.getfield 152, 3) := by decide +kernel
theorem dX9_atom_106 : decode cX9_atom 106 = .ok (.iconst 2, 1) := by decide +kernel
theorem dX9_atom_107 : decode cX9_atom 107 = .ok (.if_icmp .ne 16, 3) := by decide +kernel
theorem dX9_atom_110 : decode cX9_atom 110 = .ok (.aload_n 0, 1) := by decide +kernel
theorem dX9_atom_111 : decode cX9_atom 111 = .ok (.getfield 163, 3) := by decide +kernel
theorem dX9_atom_114 : decode cX9_atom 114 = .ok (.l2i, 1) := by decide +kernel
theorem dX9_atom_115 : decode cX9_atom 115 = .ok (.istore_n 1, 1) := by decide +kernel
theorem dX9_atom_116 : decode cX9_atom 116 = .ok (.aload_n 0, 1) := by decide +kernel
theorem dX9_atom_117 : decode cX9_atom 117 = .ok (.invokevirtual 183, 3) := by decide +kernel
theorem dX9_atom_120 : decode cX9_atom 120 = .ok (.goto 41, 3) := by decide +kernel
theorem dX9_atom_123 : decode cX9_atom 123 = .ok (.aload_n 0, 1) := by decide +kernel
theorem dX9_atom_124 : decode cX9_atom 124 = .ok (.getfield 167, 3) := by decide +kernel
theorem dX9_atom_127 : decode cX9_atom 127 = .ok (.ifCond .ne 30, 3) := by decide +kernel
theorem dX9_atom_130 : decode cX9_atom 130 = .ok (.aload_n 0, 1) := by decide +kernel
theorem dX9_atom_131 : decode cX9_atom 131 = .ok (.getfield 152, 3) := by decide +kernel
theorem dX9_atom_134 : decode cX9_atom 134 = .ok (.iconst 1, 1) := by decide +kernel
theorem dX9_atom_135 : decode cX9_atom 135 = .ok (.if_icmp .ne 22, 3) := by decide +kernel
theorem dX9_atom_138 : decode cX9_atom 138 = .ok (.aload_n 0, 1) := by decide +kernel
theorem dX9_atom_139 : decode cX9_atom 139 = .ok (.invokevirtual 222, 3) := by decide +kernel
theorem dX9_atom_142 : decode cX9_atom 142 = .ok (.istore_n 1, 1) := by decide +kernel
theorem dX9_atom_143 : decode cX9_atom 143 = .ok (.aload_n 0, 1) := by decide +kernel
theorem dX9_atom_144 : decode cX9_atom 144 = .ok (.getfield 167, 3) := by decide +kernel
theorem dX9_atom_147 : decode cX9_atom 147 = .ok (.ifCond .ne 14, 3) := by decide +kernel
theorem dX9_atom_150 : decode cX9_atom 150 = .ok (.aload_n 0, 1) := by decide +kernel
theorem dX9_atom_151 : decode cX9_atom 151 = .ok (.invokevirtual 183, 3) := by decide +kernel
theorem dX9_atom_154 : decode cX9_atom 154 = .ok (.goto 7, 3) := by decide +kernel
theorem dX9_atom_157 : decode cX9_atom 157 = .ok (.aload_n 0, 1) := by decide +kernel
theorem dX9_atom_158 : decode cX9_atom 158 = .ok (.invokevirtual 180, 3) := by decide +kernel
theorem dX9_atom_161 : decode cX9_atom 161 = .ok (.iload_n 1, 1) := by decide +kernel
theorem dX9_atom_162 : decode cX9_atom 162 = .ok (.ireturn, 1) := by decide +kernel
set_option maxRecDepth 20000 in
theorem ggX9_term_X9_atom : GoodIn wsX9_term wsX9_atom := goodIn_r _ [38, 39, 9, 10, 11, 5, 6, 7, 4, 8, 40, 41, 42, 43, 44, 45, 46, 47, 17, 48, 12, 13, 14, 15, 16, 18, 19, 20, 21, 22, 23, 24, 25, 26, 27, 28, 29, 30, 31, 32, 1, 2, 3, 49, 50, 51, 52, 53, 54, 55, 56, 57, 58, 59, 60, 61, 62, 63, 64, 65, 66, 67, 68, 69, 33, 34, 35, 36, 37, 70, 71, 72, 73, 74, 75, 76, 77, 78, 79, 80, 81, 82, 0, 83, 84, 85, 86, 87, 88, 89, 90, 91, 92, 93, 94, 95, 96, 97, 98, 99, 100, 101, 102, 103, 104, 105, 106, 107, 108, 109, 110, 111, 112, 113, 114, 115, 116, 117, 118, 119, 120, 121, 122, 123, 124, 125, 126] (by decide +kernel) (by decide +kernel)
set_option maxRecDepth 20000 in
theorem gX9_term_X9_atom : GoodIn wsX9_term (wsV RX9 215 RX9 yX9_atom wsX9_atom) := goodIn_app (goodIn_of _ (by decide +kernel)) ggX9_term_X9_atom
set_option maxRecDepth 20000 in
theorem ggX9_term_X9_isSign : GoodIn wsX9_term wsX9_isSign := goodIn_r _ [8, 9, 10, 11, 83, 84, 85, 86, 87, 88, 89, 90, 91, 92, 93, 94, 95, 96, 97, 98, 99, 100, 101, 102, 103, 104, 105, 106, 107, 108, 109, 110, 111, 112, 113, 114, 115, 116, 117, 118, 119, 120, 121, 122, 123, 124, 125, 126] (by decide +kernel) (by decide +kernel)
set_option maxRecDepth 20000 in
theorem gX9_term_X9_isSign : GoodIn wsX9_term (wsV RX9 208 RX9 yX9_isSign wsX9_isSign) := goodIn_app (goodIn_of _ (by decide +kernel)) ggX9_term_X9_isSign
set_option maxRecDepth 20000 in
theorem ggX9_term_X9_next : GoodIn wsX9_term wsX9_next := goodIn_r _ [15, 16, 17, 10, 18, 19, 20, 21, 22, 11, 23, 24, 25, 26, 4, 27, 28, 29, 30, 31, 32, 83, 84, 85, 86, 87, 88, 89, 90, 91, 92, 93, 94, 95, 96, 97, 98, 99, 100, 101, 102, 103, 104, 105, 106, 107, 108, 109, 110, 111, 112, 113, 114, 115, 116, 117, 118, 119, 120, 121, 122, 123, 124, 125, 126] (by decide +kernel) (by decide +kernel)
set_option maxRecDepth 20000 in
theorem gX9_term_X9_next : GoodIn wsX9_term (wsV RX9 183 RX9 yX9_next wsX9_next) := goodIn_app (goodIn_of _ (by decide +kernel)) ggX9_term_X9_next
theorem dX9_term_0 : decode cX9_term 0 = .ok (.aload_n 0, 1) := by decide +kernel
theorem dX9_term_1 : decode cX9_term 1 = .ok (.invokevirtual 215, 3) := by decide +kernel
theorem dX9_term_4 : decode cX9_term 4 = .ok (.istore_n 1, 1) := by decide +kernel
theorem dX9_term_5 : decode cX9_term 5 = .ok (.aload_n 0, 1) := by decide +kernel
theorem dX9_term_6 : decode cX9_term 6 = .ok (.bipush 42, 2) := by decide +kernel
theorem dX9_term_8 : decode cX9_term 8 = .ok (.invokevirtual 208, 3) := by decide +kernel
theorem dX9_term_11 : decode cX9_term 11 = .ok (.ifCond .eq 17, 3) := by decide +kernel
theorem dX9_term_14 : decode cX9_term 14 = .ok (.aload_n 0, 1) := by decide +kernel
theorem dX9_term_15 : decode cX9_term 15 = .ok (.invokevirtual 183, 3) := by decide +kernel
theorem dX9_term_18 : decode cX9_term 18 = .ok (.iload_n 1, 1) := by decide +kernel
theorem dX9_term_19 : decode cX9_term 19 = .ok (.aload_n 0, 1) := by decide +kernel
theorem dX9_term_20 : decode cX9_term 20 = .ok (.invokevirtual 215, 3) := by decide +kernel
theorem dX9_term_23 : decode cX9_term 23 = .ok (.imul, 1) := by decide +kernel
theorem dX9_term_24 : decode cX9_term 24 = .ok (.istore_n 1, 1) := by decide +kernel
theorem dX9_term_25 : decode cX9_term 25 = .ok (.goto (-20), 3) := by decide +kernel
theorem dX9_term_28 : decode cX9_term 28 = .ok (.iload_n 1, 1) := by decide +kernel
theorem dX9_term_29 : decode cX9_term 29 = .ok (.ireturn, 1) := by decide +kernel
set_option maxRecDepth 20000 in
theorem ggX9_added_X9_term : GoodIn wsX9_added wsX9_term := goodIn_r _ [82, 45, 46, 47, 6, 7, 8, 9, 10, 11, 12, 1, 13, 14, 15, 16, 17, 18, 19, 20, 21, 22, 23, 24, 25, 26, 27, 28, 29, 30, 31, 32, 33, 0, 2, 3, 4, 5, 34, 35, 36, 37, 38, 39, 40, 41, 42, 43, 44, 48, 49, 50, 51, 52, 53, 54, 55, 56, 57, 58, 59, 60, 61, 62, 63, 64, 65, 66, 67, 68, 69, 70, 71, 72, 73, 74, 75, 76, 77, 78, 79, 80, 81, 83, 84, 85, 86, 87, 88, 89, 90, 91, 92, 93, 94, 95, 96, 97, 98, 99, 100, 101, 102, 103, 104, 105, 106, 107, 108, 109, 110, 111, 112, 113, 114, 115, 116, 117, 118, 119, 120, 121, 122, 123, 124, 125, 126] (by decide +kernel) (by decide +kernel)
set_option maxRecDepth 20000 in
theorem gX9_added_X9_term : GoodIn wsX9_added (wsV RX9 225 RX9 yX9_term wsX9_term) := goodIn_app (goodIn_of _ (by decide +kernel)) ggX9_added_X9_term
set_option maxRecDepth 20000 in
theorem ggX9_added_X9_isSign : GoodIn wsX9_added wsX9_isSign := goodIn_r _ [10, 11, 12, 1, 83, 84, 85, 86, 87, 88, 89, 90, 91, 92, 93, 94, 95, 96, 97, 98, 99, 100, 101, 102, 103, 104, 105, 106, 107, 108, 109, 110, 111, 112, 113, 114, 115, 116, 117, 118, 119, 120, 121, 122, 123, 124, 125, 126] (by decide +kernel) (by decide +kernel)
set_option maxRecDepth 20000 in
theorem gX9_added_X9_isSign : GoodIn wsX9_added (wsV RX9 208 RX9 yX9_isSign wsX9_isSign) := goodIn_app (goodIn_of _ (by decide +kernel)) ggX9_added_X9_isSign
set_option maxRecDepth 20000 in
theorem ggX9_added_X9_next : GoodIn wsX9_added wsX9_next := goodIn_r _ [16, 17, 18, 12, 19, 20, 21, 22, 23, 1, 24, 25, 26, 27, 6, 28, 29, 30, 31, 32, 33, 83, 84, 85, 86, 87, 88, 89, 90, 91, 92, 93, 94, 95, 96, 97, 98, 99, 100, 101, 102, 103, 104, 105, 106, 107, 108, 109, 110, 111, 112, 113, 114, 115, 116, 117, 118, 119, 120, 121, 122, 123, 124, 125, 126] (by decide +kernel) (by decide +kernel)
set_option maxRecDepth 20000 in
theorem gX9_added_X9_next : GoodIn wsX9_added (wsV RX9 183 RX9 yX9_next wsX9_next) := goodIn_app (goodIn_of _ (by decide +kernel)) ggX9_added_X9_next
theorem dX9_added_0 : decode cX9_added 0 = .ok (.aload_n 0, 1) := by decide +kernel
theorem dX9_added_1 : decode cX9_added 1 = .ok (.invokevirtual 225, 3) := by decide +kernel
theorem dX9_added_4 : decode cX9_added 4 = .ok (.istore_n 1, 1) := by decide +kernel
theorem dX9_added_5 : decode cX9_added 5 = .ok (.aload_n 0, 1) := by decide +kernel
theorem dX9_added_6 : decode cX9_added 6 = .ok (.bipush 43, 2) := by decide +kernel
theorem dX9_added_8 : decode cX9_added 8 = .ok (.invokevirtual 208, 3) := by decide +kernel
theorem dX9_added_11 : decode cX9_added 11 = .ok (.ifCond .ne 12, 3) := by decide +kernel
theorem dX9_added_14 : decode cX9_added 14 = .ok (.aload_n 0, 1) := by decide +kernel
theorem dX9_added_15 : decode cX9_added 15 = .ok (.bipush 45, 2) := by decide +kernel
theorem dX9_added_17 : decode cX9_added 17 = .ok (.invokevirtual 208, 3) := by decide +kernel
theorem dX9_added_20 : decode cX9_added 20 = .ok (.ifCond .eq 46, 3) := by decide +kernel
theorem dX9_added_23 : decode cX9_added 23 = .ok (.aload_n 0, 1) := by decide +kernel
theorem dX9_added_24 : decode cX9_added 24 = .ok (.getfield 163, 3) := by decide +kernel
theorem dX9_added_27 : decode cX9_added 27 = .ok (.ldc2_w 228, 3) := by decide +kernel
theorem dX9_added_30 : decode cX9_added 30 = .ok (.lcmp, 1) := by decide +kernel
theorem dX9_added_31 : decode cX9_added 31 = .ok (.ifCond .ne 7, 3) := by decide +kernel
theorem dX9_added_34 : decode cX9_added 34 = .ok (.iconst 1, 1) := by decide +kernel
theorem dX9_added_35 : decode cX9_added 35 = .ok (.goto 4, 3) := by decide +kernel
theorem dX9_added_38 : decode cX9_added 38 = .ok (.iconst 0, 1) := by decide +kernel
theorem dX9_added_39 : decode cX9_added 39 = .ok (.istore_n 2, 1) := by decide +kernel
theorem dX9_added_40 : decode cX9_added 40 = .ok (.aload_n 0, 1) := by decide +kernel
theorem dX9_added_41 : decode cX9_added 41 = .ok (.invokevirtual 183, 3) := by decide +kernel
theorem dX9_added_44 : decode cX9_added 44 = .ok (.aload_n 0, 1) := by decide +kernel
theorem dX9_added_45 : decode cX9_added 45 = .ok (.invokevirtual 225, 3) := by decide +kernel
theorem dX9_added_48 : decode cX9_added 48 = .ok (.istore_n 3, 1) := by decide +kernel
theorem dX9_added_49 : decode cX9_added 49 = .ok (.iload_n 2, 1) := by decide +kernel
theorem dX9_added_50 : decode cX9_added 50 = .ok (.ifCond .eq 9, 3) := by decide +kernel
theorem dX9_added_53 : decode cX9_added 53 = .ok (.iload_n 1, 1) := by decide +kernel
theorem dX9_added_54 : decode cX9_added 54 = .ok (.iload_n 3, 1) := by decide +kernel
theorem dX9_added_55 : decode cX9_added 55 = .ok (.iadd, 1) := by decide +kernel
theorem dX9_added_56 : decode cX9_added 56 = .ok (.goto 6, 3) := by decide +kernel
theorem dX9_added_59 : decode cX9_added 59 = .ok (.iload_n 1, 1) := by decide +kernel
theorem dX9_added_60 : decode cX9_added 60 = .ok (.iload_n 3, 1) := by decide +kernel
theorem dX9_added_61 : decode cX9_added 61 = .ok (.isub, 1) := by decide +kernel
theorem dX9_added_62 : decode cX9_added 62 = .ok (.istore_n 1, 1) := by decide +kernel
theorem dX9_added_63 : decode cX9_added 63 = .ok (.goto (-58), 3) := by decide +kernel
theorem dX9_added_66 : decode cX9_added 66 = .ok (.iload_n 1, 1) := by decide +kernel
theorem dX9_added_67 : decode cX9_added 67 = .ok (.ireturn, 1) := by decide +kernel
set_option maxRecDepth 20000 in
theorem ggX9_not_X9_isWord : GoodIn wsX9_not wsX9_isWord := goodIn_r _ [8, 9, 10, 11, 12, 13, 14, 15, 7, 16, 17, 18, 19, 20, 21, 22, 23, 83, 84, 85, 86, 87, 88, 89, 90, 91, 92, 93, 94, 95, 96, 97, 98, 99, 100, 101, 102, 103, 104, 105, 106, 107, 108, 109, 110, 111, 112, 113, 114, 115, 116, 117, 118, 119, 120, 121, 122, 123, 124, 125, 126] (by decide +kernel) (by decide +kernel)
set_option maxRecDepth 20000 in
theorem gX9_not_X9_isWord : GoodIn wsX9_not (wsV RX9 186 RX9 yX9_isWord wsX9_isWord) := goodIn_app (goodIn_of _ (by decide +kernel)) ggX9_not_X9_isWord
set_option maxRecDepth 20000 in
theorem ggX9_not_X9_opens : GoodIn wsX9_not wsX9_opens := goodIn_r _ [27, 1, 28, 29, 30, 7, 31, 9, 12, 32, 33, 34, 35, 36, 11, 10, 21, 37, 38, 39, 40, 2, 41, 17, 18, 19, 20, 22, 23, 42, 43, 44, 83, 84, 85, 86, 87, 88, 89, 90, 91, 92, 93, 94, 95, 96, 97, 98, 99, 100, 101, 102, 103, 104, 105, 106, 107, 108, 109, 110, 111, 112, 113, 114, 115, 116, 117, 118, 119, 120, 121, 122, 123, 124, 125, 126] (by decide +kernel) (by decide +kernel)
set_option maxRecDepth 20000 in
theorem gX9_not_X9_opens : GoodIn wsX9_not (wsV RX9 211 RX9 yX9_opens wsX9_opens) := goodIn_app (goodIn_of _ (by decide +kernel)) ggX9_not_X9_opens
set_option maxRecDepth 20000 in
theorem ggX9_not_X9_not : GoodIn wsX9_not wsX9_not := goodIn_r _ [0, 1, 2, 3, 4, 5, 6, 7, 8, 9, 10, 11, 12, 13, 14, 15, 16, 17, 18, 19, 20, 21, 22, 23, 24, 25, 26, 27, 28, 29, 30, 31, 32, 33, 34, 35, 36, 37, 38, 39, 40, 41, 42, 43, 44, 45, 46, 47, 48, 49, 50, 51, 52, 53, 54, 55, 56, 57, 58, 59, 60, 61, 62, 63, 64, 65, 66, 67, 68, 69, 70, 71, 72, 73, 74, 75, 76, 77, 78, 79, 80, 81, 82, 83, 84, 85, 86, 87, 88, 89, 90, 91, 92, 93, 94, 95, 96, 97, 98, 99, 100, 101, 102, 103, 104, 105, 106, 107, 108, 109, 110, 111, 112, 113, 114, 115, 116, 117, 118, 119, 120, 121, 122, 123, 124, 125, 126] (by decide +kernel) (by decide +kernel)
set_option maxRecDepth 20000 in
theorem gX9_not_X9_not : GoodIn wsX9_not (wsV RX9 230 RX9 yX9_not wsX9_not) := goodIn_app (goodIn_of _ (by decide +kernel)) ggX9_not_X9_not
set_option maxRecDepth 20000 in
theorem ggX9_not_X9_added : GoodIn wsX9_not wsX9_added := goodIn_r _ [55, 2, 56, 57, 58, 59, 7, 51, 52, 53, 54, 9, 10, 33, 34, 35, 36, 11, 12, 21, 37, 38, 39, 40, 41, 17, 18, 19, 20, 22, 23, 42, 43, 44, 60, 1, 24, 25, 26, 27, 28, 29, 30, 31, 32, 61, 62, 63, 64, 65, 66, 67, 68, 69, 70, 71, 72, 73, 74, 75, 76, 4, 5, 6, 8, 13, 14, 15, 16, 77, 45, 46, 47, 78, 79, 80, 81, 0, 3, 48, 49, 50, 82, 83, 84, 85, 86, 87, 88, 89, 90, 91, 92, 93, 94, 95, 96, 97, 98, 99, 100, 101, 102, 103, 104, 105, 106, 107, 108, 109, 110, 111, 112, 113, 114, 115, 116, 117, 118, 119, 120, 121, 122, 123, 124, 125, 126] (by decide +kernel) (by decide +kernel)
set_option maxRecDepth 20000 in
theorem gX9_not_X9_added : GoodIn wsX9_not (wsV RX9 233 RX9 yX9_added wsX9_added) := goodIn_app (goodIn_of _ (by decide +kernel)) ggX9_not_X9_added
set_option maxRecDepth 20000 in
theorem ggX9_not_X9_isSign : GoodIn wsX9_not wsX9_isSign := goodIn_r _ [54, 9, 10, 2, 83, 84, 85, 86, 87, 88, 89, 90, 91, 92, 93, 94, 95, 96, 97, 98, 99, 100, 101, 102, 103, 104, 105, 106, 107, 108, 109, 110, 111, 112, 113, 114, 115, 116, 117, 118, 119, 120, 121, 122, 123, 124, 125, 126] (by decide +kernel) (by decide +kernel)
set_option maxRecDepth 20000 in
theorem gX9_not_X9_isSign : GoodIn wsX9_not (wsV RX9 208 RX9 yX9_isSign wsX9_isSign) := goodIn_app (goodIn_of _ (by decide +kernel)) ggX9_not_X9_isSign
set_option maxRecDepth 20000 in
theorem ggX9_not_X9_next : GoodIn wsX9_not wsX9_next := goodIn_r _ [36, 11, 12, 10, 21, 37, 38, 39, 40, 2, 41, 17, 18, 19, 7, 20, 22, 23, 42, 43, 44, 83, 84, 85, 86, 87, 88, 89, 90, 91, 92, 93, 94, 95, 96, 97, 98, 99, 100, 101, 102, 103, 104, 105, 106, 107, 108, 109, 110, 111, 112, 113, 114, 115, 116, 117, 118, 119, 120, 121, 122, 123, 124, 125, 126] (by decide +kernel) (by decide +kernel)
set_option maxRecDepth 20000 in
theorem gX9_not_X9_next : GoodIn wsX9_not (wsV RX9 183 RX9 yX9_next wsX9_next) := goodIn_app (goodIn_of _ (by decide +kernel)) ggX9_not_X9_next
theorem dX9_not_0 : decode cX9_not 0 = .ok (.aload_n 0, 1) := by decide +kernel
theorem dX9_not_1 : decode cX9_not 1 = .ok (.bipush 110, 2) := by decide +kernel
theorem dX9_not_3 : decode cX9_not 3 = .ok (.bipush 111, 2) := by decide +kernel
theorem dX9_not_5 : decode cX9_not 5 = .ok (.bipush 116, 2) := by decide +kernel
theorem dX9_not_7 : decode cX9_not 7 = .ok (.iconst 0, 1) := by decide +kernel
theorem dX9_not_8 : decode cX9_not 8 = .ok (.iconst 0, 1) := by decide +kernel
theorem dX9_not_9 : decode cX9_not 9 = .ok (.iconst 0, 1) := by decide +kernel
theorem dX9_not_10 : decode cX9_not 10 = .ok (.iconst 0, 1) := by decide +kernel
theorem dX9_not_11 : decode cX9_not 11 = .ok (.iconst 0, 1) := by decide +kernel
theorem dX9_not_12 : decode cX9_not 12 = .ok (.invokevirtual 186, 3) := by decide +kernel
theorem dX9_not_15 : decode cX9_not 15 = .ok (.ifCond .eq 37, 3) := by decide +kernel
theorem dX9_not_18 : decode cX9_not 18 = .ok (.aload_n 0, 1) := by decide +kernel
theorem dX9_not_19 : decode cX9_not 19 = .ok (.invokevirtual 211, 3) := by decide +kernel
theorem dX9_not_22 : decode cX9_not 22 = .ok (.ifCond .ne 5, 3) := by decide +kernel
theorem dX9_not_25 : decode cX9_not 25 = .ok (.iconst 0, 1) := by decide +kernel
theorem dX9_not_26 : decode cX9_not 26 = .ok (.ireturn, 1) := by decide +kernel
theorem dX9_not_27 : decode cX9_not 27 = .ok (.aload_n 0, 1) := by decide +kernel
theorem dX9_not_28 : decode cX9_not 28 = .ok (.invokevirtual 230, 3) := by decide +kernel
theorem dX9_not_31 : decode cX9_not 31 = .ok (.istore_n 1, 1) := by decide +kernel
theorem dX9_not_32 : decode cX9_not 32 = .ok (.aload_n 0, 1) := by decide +kernel
theorem dX9_not_33 : decode cX9_not 33 = .ok (.dup, 1) := by decide +kernel
theorem dX9_not_34 : decode cX9_not 34 = .ok (.getfield 177, 3) := by decide +kernel
theorem dX9_not_37 : decode cX9_not 37 = .ok (.iconst 1, 1) := by decide +kernel
theorem dX9_not_38 : decode cX9_not 38 = .ok (.isub, 1) := by decide +kernel
theorem dX9_not_39 : decode cX9_not 39 = .ok (.putfield 177, 3) := by decide +kernel
theorem dX9_not_42 : decode cX9_not 42 = .ok (.iload_n 1, 1) := by decide +kernel
theorem dX9_not_43 : decode cX9_not 43 = .ok (.ifCond .ne 7, 3) := by decide +kernel
theorem dX9_not_46 : decode cX9_not 46 = .ok (.iconst 1, 1) := by decide +kernel
theorem dX9_not_47 : decode cX9_not 47 = .ok (.goto 4, 3) := by decide +kernel
theorem dX9_not_50 : decode cX9_not 50 = .ok (.iconst 0, 1) := by decide +kernel
theorem dX9_not_51 : decode cX9_not 51 = .ok (.ireturn, 1) := by decide +kernel
theorem dX9_not_52 : decode cX9_not 52 = .ok (.aload_n 0, 1) := by decide +kernel
theorem dX9_not_53 : decode cX9_not 53 = .ok (.invokevirtual 233, 3) := by decide +kernel
theorem dX9_not_56 : decode cX9_not 56 = .ok (.istore_n 1, 1) := by decide +kernel
theorem dX9_not_57 : decode cX9_not 57 = .ok (.aload_n 0, 1) := by decide +kernel
theorem dX9_not_58 : decode cX9_not 58 = .ok (.bipush 60, 2) := by decide +kernel
theorem dX9_not_60 : decode cX9_not 60 = .ok (.invokevirtual 208, 3) := by decide +kernel
theorem dX9_not_63 : decode cX9_not 63 = .ok (.ifCond .ne 14, 3) := by decide +kernel
theorem dX9_not_66 : decode cX9_not 66 = .ok (.aload_n 0, 1) := by decide +kernel
theorem dX9_not_67 : decode cX9_not 67 = .ok (.bipush 61, 2) := by decide +kernel
theorem dX9_not_69 : decode cX9_not 69 = .ok (.invokevirtual 208, 3) := by decide +kernel
theorem dX9_not_72 : decode cX9_not 72 = .ok (.ifCond .ne 5, 3) := by decide +kernel
theorem dX9_not_75 : decode cX9_not 75 = .ok (.iload_n 1, 1) := by decide +kernel
theorem dX9_not_76 : decode cX9_not 76 = .ok (.ireturn, 1) := by decide +kernel
theorem dX9_not_77 : decode cX9_not 77 = .ok (.aload_n 0, 1) := by decide +kernel
theorem dX9_not_78 : decode cX9_not 78 = .ok (.getfield 163, 3) := by decide +kernel
theorem dX9_not_81 : decode cX9_not 81 = .ok (.ldc2_w 236, 3) := by decide +kernel
theorem dX9_not_84 : decode cX9_not 84 = .ok (.lcmp, 1) := by decide +kernel
theorem dX9_not_85 : decode cX9_not 85 = .ok (.ifCond .ne 7, 3) := by decide +kernel
theorem dX9_not_88 : decode cX9_not 88 = .ok (.iconst 1, 1) := by decide +kernel
theorem dX9_not_89 : decode cX9_not 89 = .ok (.goto 4, 3) := by decide +kernel
theorem dX9_not_92 : decode cX9_not 92 = .ok (.iconst 0, 1) := by decide +kernel
theorem dX9_not_93 : decode cX9_not 93 = .ok (.istore_n 2, 1) := by decide +kernel
theorem dX9_not_94 : decode cX9_not 94 = .ok (.aload_n 0, 1) := by decide +kernel
theorem dX9_not_95 : decode cX9_not 95 = .ok (.invokevirtual 183, 3) := by decide +kernel
theorem dX9_not_98 : decode cX9_not 98 = .ok (.aload_n 0, 1) := by decide +kernel
theorem dX9_not_99 : decode cX9_not 99 = .ok (.invokevirtual 233, 3) := by decide +kernel
theorem dX9_not_102 : decode cX9_not 102 = .ok (.istore_n 3, 1) := by decide +kernel
theorem dX9_not_103 : decode cX9_not 103 = .ok (.iload_n 2, 1) := by decide +kernel
theorem dX9_not_104 : decode cX9_not 104 = .ok (.ifCond .eq 11, 3) := by decide +kernel
theorem dX9_not_107 : decode cX9_not 107 = .ok (.iload_n 1, 1) := by decide +kernel
theorem dX9_not_108 : decode cX9_not 108 = .ok (.iload_n 3, 1) := by decide +kernel
theorem dX9_not_109 : decode cX9_not 109 = .ok (.if_icmp .ge 15, 3) := by decide +kernel
theorem dX9_not_112 : decode cX9_not 112 = .ok (.goto 8, 3) := by decide +kernel
theorem dX9_not_115 : decode cX9_not 115 = .ok (.iload_n 1, 1) := by decide +kernel
theorem dX9_not_116 : decode cX9_not 116 = .ok (.iload_n 3, 1) := by decide +kernel
theorem dX9_not_117 : decode cX9_not 117 = .ok (.if_icmp .ne 7, 3) := by decide +kernel
theorem dX9_not_120 : decode cX9_not 120 = .ok (.iconst 1, 1) := by decide +kernel
theorem dX9_not_121 : decode cX9_not 121 = .ok (.goto 4, 3) := by decide +kernel
theorem dX9_not_124 : decode cX9_not 124 = .ok (.iconst 0, 1) := by decide +kernel
theorem dX9_not_125 : decode cX9_not 125 = .ok (.ireturn, 1) := by decide +kernel
set_option maxRecDepth 20000 in
theorem ggX9_both_X9_not : GoodIn wsX9_both wsX9_not := goodIn_r _ [77, 47, 32, 78, 5, 6, 7, 4, 8, 9, 10, 11, 12, 13, 14, 15, 16, 17, 18, 19, 20, 21, 22, 23, 48, 49, 50, 51, 52, 53, 54, 55, 56, 24, 25, 26, 27, 28, 29, 30, 31, 33, 34, 35, 36, 1, 2, 3, 79, 80, 81, 42, 43, 44, 45, 37, 38, 39, 40, 41, 46, 57, 58, 59, 60, 61, 62, 63, 64, 65, 66, 67, 68, 69, 70, 71, 72, 0, 73, 74, 75, 76, 82, 83, 84, 85, 86, 87, 88, 89, 90, 91, 92, 93, 94, 95, 96, 97, 98, 99, 100, 101, 102, 103, 104, 105, 106, 107, 108, 109, 110, 111, 112, 113, 114, 115, 116, 117, 118, 119, 120, 121, 122, 123, 124, 125, 126] (by decide +kernel) (by decide +kernel)
set_option maxRecDepth 20000 in
theorem gX9_both_X9_not : GoodIn wsX9_both (wsV RX9 230 RX9 yX9_not wsX9_not) := goodIn_app (goodIn_of _ (by decide +kernel)) ggX9_both_X9_not
set_option maxRecDepth 20000 in
theorem ggX9_both_X9_isWord : GoodIn wsX9_both wsX9_isWord := goodIn_r _ [8, 9, 10, 11, 12, 13, 14, 15, 4, 16, 17, 18, 19, 20, 21, 22, 23, 83, 84, 85, 86, 87, 88, 89, 90, 91, 92, 93, 94, 95, 96, 97, 98, 99, 100, 101, 102, 103, 104, 105, 106, 107, 108, 109, 110, 111, 112, 113, 114, 115, 116, 117, 118, 119, 120, 121, 122, 123, 124, 125, 126] (by decide +kernel) (by decide +kernel)
set_option maxRecDepth 20000 in
theorem gX9_both_X9_isWord : GoodIn wsX9_both (wsV RX9 186 RX9 yX9_isWord wsX9_isWord) := goodIn_app (goodIn_of _ (by decide +kernel)) ggX9_both_X9_isWord
set_option maxRecDepth 20000 in
theorem ggX9_both_X9_next : GoodIn wsX9_both wsX9_next := goodIn_r _ [27, 11, 12, 10, 21, 28, 29, 30, 31, 32, 33, 17, 18, 19, 4, 20, 22, 23, 34, 35, 36, 83, 84, 85, 86, 87, 88, 89, 90, 91, 92, 93, 94, 95, 96, 97, 98, 99, 100, 101, 102, 103, 104, 105, 106, 107, 108, 109, 110, 111, 112, 113, 114, 115, 116, 117, 118, 119, 120, 121, 122, 123, 124, 125, 126] (by decide +kernel) (by decide +kernel)
set_option maxRecDepth 20000 in
theorem gX9_both_X9_next : GoodIn wsX9_both (wsV RX9 183 RX9 yX9_next wsX9_next) := goodIn_app (goodIn_of _ (by decide +kernel)) ggX9_both_X9_next
theorem dX9_both_0 : decode cX9_both 0 = .ok (.aload_n 0, 1) := by decide +kernel
theorem dX9_both_1 : decode cX9_both 1 = .ok (.invokevirtual 230, 3) := by decide +kernel
theorem dX9_both_4 : decode cX9_both 4 = .ok (.istore_n 1, 1) := by decide +kernel
theorem dX9_both_5 : decode cX9_both 5 = .ok (.aload_n 0, 1) := by decide +kernel
theorem dX9_both_6 : decode cX9_both 6 = .ok (.bipush 97, 2) := by decide +kernel
theorem dX9_both_8 : decode cX9_both 8 = .ok (.bipush 110, 2) := by decide +kernel
theorem dX9_both_10 : decode cX9_both 10 = .ok (.bipush 100, 2) := by decide +kernel
theorem dX9_both_12 : decode cX9_both 12 = .ok (.iconst 0, 1) := by decide +kernel
theorem dX9_both_13 : decode cX9_both 13 = .ok (.iconst 0, 1) := by decide +kernel
theorem dX9_both_14 : decode cX9_both 14 = .ok (.iconst 0, 1) := by decide +kernel
theorem dX9_both_15 : decode cX9_both 15 = .ok (.iconst 0, 1) := by decide +kernel
theorem dX9_both_16 : decode cX9_both 16 = .ok (.iconst 0, 1) := by decide +kernel
theorem dX9_both_17 : decode cX9_both 17 = .ok (.invokevirtual 186, 3) := by decide +kernel
theorem dX9_both_20 : decode cX9_both 20 = .ok (.ifCond .eq 29, 3) := by decide +kernel
theorem dX9_both_23 : decode cX9_both 23 = .ok (.aload_n 0, 1) := by decide +kernel
theorem dX9_both_24 : decode cX9_both 24 = .ok (.invokevirtual 183, 3) := by decide +kernel
theorem dX9_both_27 : decode cX9_both 27 = .ok (.aload_n 0, 1) := by decide +kernel
theorem dX9_both_28 : decode cX9_both 28 = .ok (.invokevirtual 230, 3) := by decide +kernel
theorem dX9_both_31 : decode cX9_both 31 = .ok (.istore_n 2, 1) := by decide +kernel
theorem dX9_both_32 : decode cX9_both 32 = .ok (.iload_n 1, 1) := by decide +kernel
theorem dX9_both_33 : decode cX9_both 33 = .ok (.ifCond .eq 11, 3) := by decide +kernel
theorem dX9_both_36 : decode cX9_both 36 = .ok (.iload_n 2, 1) := by decide +kernel
theorem dX9_both_37 : decode cX9_both 37 = .ok (.ifCond .eq 7, 3) := by decide +kernel
theorem dX9_both_40 : decode cX9_both 40 = .ok (.iconst 1, 1) := by decide +kernel
theorem dX9_both_41 : decode cX9_both 41 = .ok (.goto 4, 3) := by decide +kernel
theorem dX9_both_44 : decode cX9_both 44 = .ok (.iconst 0, 1) := by decide +kernel
theorem dX9_both_45 : decode cX9_both 45 = .ok (.istore_n 1, 1) := by decide +kernel
theorem dX9_both_46 : decode cX9_both 46 = .ok (.goto (-41), 3) := by decide +kernel
theorem dX9_both_49 : decode cX9_both 49 = .ok (.iload_n 1, 1) := by decide +kernel
theorem dX9_both_50 : decode cX9_both 50 = .ok (.ireturn, 1) := by decide +kernel
set_option maxRecDepth 20000 in
theorem ggX9_either_X9_both : GoodIn wsX9_either wsX9_both := goodIn_r _ [73, 74, 75, 76, 4, 5, 6, 7, 8, 9, 10, 11, 12, 13, 14, 15, 16, 17, 18, 19, 20, 21, 22, 23, 24, 25, 26, 27, 28, 29, 30, 31, 32, 33, 34, 35, 36, 37, 38, 39, 40, 41, 42, 43, 44, 45, 46, 47, 48, 49, 50, 51, 52, 53, 54, 55, 56, 57, 58, 59, 60, 61, 62, 63, 64, 65, 66, 67, 68, 69, 70, 71, 72, 0, 1, 2, 3, 77, 78, 79, 80, 81, 82, 83, 84, 85, 86, 87, 88, 89, 90, 91, 92, 93, 94, 95, 96, 97, 98, 99, 100, 101, 102, 103, 104, 105, 106, 107, 108, 109, 110, 111, 112, 113, 114, 115, 116, 117, 118, 119, 120, 121, 122, 123, 124, 125, 126] (by decide +kernel) (by decide +kernel)
set_option maxRecDepth 20000 in
theorem gX9_either_X9_both : GoodIn wsX9_either (wsV RX9 238 RX9 yX9_both wsX9_both) := goodIn_app (goodIn_of _ (by decide +kernel)) ggX9_either_X9_both
set_option maxRecDepth 20000 in
theorem ggX9_either_X9_isWord : GoodIn wsX9_either wsX9_isWord := goodIn_r _ [8, 9, 10, 11, 12, 13, 14, 15, 4, 16, 17, 18, 19, 20, 21, 22, 23, 83, 84, 85, 86, 87, 88, 89, 90, 91, 92, 93, 94, 95, 96, 97, 98, 99, 100, 101, 102, 103, 104, 105, 106, 107, 108, 109, 110, 111, 112, 113, 114, 115, 116, 117, 118, 119, 120, 121, 122, 123, 124, 125, 126] (by decide +kernel) (by decide +kernel)
set_option maxRecDepth 20000 in
theorem gX9_either_X9_isWord : GoodIn wsX9_either (wsV RX9 186 RX9 yX9_isWord wsX9_isWord) := goodIn_app (goodIn_of _ (by decide +kernel)) ggX9_either_X9_isWord
set_option maxRecDepth 20000 in
theorem ggX9_either_X9_next : GoodIn wsX9_either wsX9_next := goodIn_r _ [27, 11, 12, 10, 21, 28, 29, 30, 31, 32, 33, 17, 18, 19, 4, 20, 22, 23, 34, 35, 36, 83, 84, 85, 86, 87, 88, 89, 90, 91, 92, 93, 94, 95, 96, 97, 98, 99, 100, 101, 102, 103, 104, 105, 106, 107, 108, 109, 110, 111, 112, 113, 114, 115, 116, 117, 118, 119, 120, 121, 122, 123, 124, 125, 126] (by decide +kernel) (by decide +kernel)
set_option maxRecDepth 20000 in
theorem gX9_either_X9_next : GoodIn wsX9_either (wsV RX9 183 RX9 yX9_next wsX9_next) := goodIn_app (goodIn_of _ (by decide +kernel)) ggX9_either_X9_next
theorem dX9_either_0 : decode cX9_either 0 = .ok (.aload_n 0, 1) := by decide +kernel
theorem dX9_either_1 : decode cX9_either 1 = .ok (.invokevirtual 238, 3) := by decide +kernel
theorem dX9_either_4 : decode cX9_either 4 = .ok (.istore_n 1, 1) := by decide +kernel
theorem dX9_either_5 : decode cX9_either 5 = .ok (.aload_n 0, 1) := by decide +kernel
theorem dX9_either_6 : decode cX9_either 6 = .ok (.bipush 111, 2) := by decide +kernel
theorem dX9_either_8 : decode cX9_either 8 = .ok (.bipush 114, 2) := by decide +kernel
theorem dX9_either_10 : decode cX9_either 10 = .ok (.iconst 0, 1) := by decide +kernel
theorem dX9_either_11 : decode cX9_either 11 = .ok (.iconst 0, 1) := by decide +kernel
theorem dX9_either_12 : decode cX9_either 12 = .ok (.iconst 0, 1) := by decide +kernel
theorem dX9_either_13 : decode cX9_either 13 = .ok (.iconst 0, 1) := by decide +kernel
theorem dX9_either_14 : decode cX9_either 14 = .ok (.iconst 0, 1) := by decide +kernel
theorem dX9_either_15 : decode cX9_either 15 = .ok (.iconst 0, 1) := by decide +kernel
theorem dX9_either_16 : decode cX9_either 16 = .ok (.invokevirtual 186, 3) := by decide +kernel
theorem dX9_either_19 : decode cX9_either 19 = .ok (.ifCond .eq 29, 3) := by decide +kernel
theorem dX9_either_22 : decode cX9_either 22 = .ok (.aload_n 0, 1) := by decide +kernel
theorem dX9_either_23 : decode cX9_either 23 = .ok (.invokevirtual 183, 3) := by decide +kernel
theorem dX9_either_26 : decode cX9_either 26 = .ok (.aload_n 0, 1) := by decide +kernel
theorem dX9_either_27 : decode cX9_either 27 = .ok (.invokevirtual 238, 3) := by decide +kernel
theorem dX9_either_30 : decode cX9_either 30 = .ok (.istore_n 2, 1) := by decide +kernel
theorem dX9_either_31 : decode cX9_either 31 = .ok (.iload_n 1, 1) := by decide +kernel
theorem dX9_either_32 : decode cX9_either 32 = .ok (.ifCond .ne 7, 3) := by decide +kernel
theorem dX9_either_35 : decode cX9_either 35 = .ok (.iload_n 2, 1) := by decide +kernel
theorem dX9_either_36 : decode cX9_either 36 = .ok (.ifCond .eq 7, 3) := by decide +kernel
theorem dX9_either_39 : decode cX9_either 39 = .ok (.iconst 1, 1) := by decide +kernel
theorem dX9_either_40 : decode cX9_either 40 = .ok (.goto 4, 3) := by decide +kernel
theorem dX9_either_43 : decode cX9_either 43 = .ok (.iconst 0, 1) := by decide +kernel
theorem dX9_either_44 : decode cX9_either 44 = .ok (.istore_n 1, 1) := by decide +kernel
theorem dX9_either_45 : decode cX9_either 45 = .ok (.goto (-40), 3) := by decide +kernel
theorem dX9_either_48 : decode cX9_either 48 = .ok (.iload_n 1, 1) := by decide +kernel
theorem dX9_either_49 : decode cX9_either 49 = .ok (.ireturn, 1) := by decide +kernel
set_option maxRecDepth 20000 in
theorem ggX9_part_X9_fail : GoodIn wsX9_part wsX9_fail := goodIn_r _ [6, 1, 7, 8, 84, 85, 86, 87, 88, 89, 90, 91, 92, 93, 94, 95, 96, 97, 98, 99, 100, 101, 102, 103, 104, 105, 106, 107, 108, 109, 110, 111, 112, 113, 114, 115, 116, 117, 118, 119, 120, 121, 122, 123, 124, 125, 126, 127] (by decide +kernel) (by decide +kernel)
set_option maxRecDepth 20000 in
theorem gX9_part_X9_fail : GoodIn wsX9_part (wsV RX9 180 RX9 yX9_fail wsX9_fail) := goodIn_app (goodIn_of _ (by decide +kernel)) ggX9_part_X9_fail
set_option maxRecDepth 20000 in
theorem ggX9_part_X9_next : GoodIn wsX9_part wsX9_next := goodIn_r _ [12, 13, 7, 14, 15, 16, 17, 18, 19, 20, 21, 22, 23, 24, 5, 25, 26, 27, 28, 29, 30, 84, 85, 86, 87, 88, 89, 90, 91, 92, 93, 94, 95, 96, 97, 98, 99, 100, 101, 102, 103, 104, 105, 106, 107, 108, 109, 110, 111, 112, 113, 114, 115, 116, 117, 118, 119, 120, 121, 122, 123, 124, 125, 126, 127] (by decide +kernel) (by decide +kernel)
set_option maxRecDepth 20000 in
theorem gX9_part_X9_next : GoodIn wsX9_part (wsV RX9 183 RX9 yX9_next wsX9_next) := goodIn_app (goodIn_of _ (by decide +kernel)) ggX9_part_X9_next
set_option maxRecDepth 20000 in
theorem ggX9_part_X9_either : GoodIn wsX9_part wsX9_either := goodIn_r _ [34, 35, 36, 37, 5, 38, 39, 40, 41, 1, 14, 13, 7, 42, 43, 44, 45, 22, 23, 24, 25, 15, 26, 27, 9, 10, 11, 12, 16, 17, 18, 19, 20, 21, 28, 29, 30, 46, 47, 48, 49, 50, 51, 52, 53, 54, 55, 56, 57, 58, 59, 60, 2, 3, 4, 6, 8, 61, 62, 63, 31, 32, 33, 64, 65, 66, 67, 68, 69, 70, 71, 72, 73, 74, 75, 76, 77, 78, 79, 80, 81, 82, 83, 84, 85, 86, 87, 88, 89, 90, 91, 92, 93, 94, 95, 96, 97, 98, 99, 100, 101, 102, 103, 104, 105, 106, 107, 108, 109, 110, 111, 112, 113, 114, 115, 116, 117, 118, 119, 120, 121, 122, 123, 124, 125, 126, 127] (by decide +kernel) (by decide +kernel)
set_option maxRecDepth 20000 in
theorem gX9_part_X9_either : GoodIn wsX9_part (wsV RX9 219 RX9 yX9_either wsX9_either) := goodIn_app (goodIn_of _ (by decide +kernel)) ggX9_part_X9_either
set_option maxRecDepth 20000 in
theorem ggX9_part_X9_isSign : GoodIn wsX9_part wsX9_isSign := goodIn_r _ [54, 1, 14, 20, 84, 85, 86, 87, 88, 89, 90, 91, 92, 93, 94, 95, 96, 97, 98, 99, 100, 101, 102, 103, 104, 105, 106, 107, 108, 109, 110, 111, 112, 113, 114, 115, 116, 117, 118, 119, 120, 121, 122, 123, 124, 125, 126, 127] (by decide +kernel) (by decide +kernel)
set_option maxRecDepth 20000 in
theorem gX9_part_X9_isSign : GoodIn wsX9_part (wsV RX9 208 RX9 yX9_isSign wsX9_isSign) := goodIn_app (goodIn_of _ (by decide +kernel)) ggX9_part_X9_isSign
theorem dX9_part_0 : decode cX9_part 0 = .ok (.iload_n 1, 1) := by decide +kernel
theorem dX9_part_1 : decode cX9_part 1 = .ok (.ifCond .ne 7, 3) := by decide +kernel
theorem dX9_part_4 : decode cX9_part 4 = .ok (.aload_n 0, 1) := by decide +kernel
theorem dX9_part_5 : decode cX9_part 5 = .ok (.invokevirtual 180, 3) := by decide +kernel
theorem dX9_part_8 : decode cX9_part 8 = .ok (.aload_n 0, 1) := by decide +kernel
theorem dX9_part_9 : decode cX9_part 9 = .ok (.getfield 167, 3) := by decide +kernel
theorem dX9_part_12 : decode cX9_part 12 = .ok (.ifCond .ne 7, 3) := by decide +kernel
theorem dX9_part_15 : decode cX9_part 15 = .ok (.aload_n 0, 1) := by decide +kernel
theorem dX9_part_16 : decode cX9_part 16 = .ok (.invokevirtual 183, 3) := by decide +kernel
theorem dX9_part_19 : decode cX9_part 19 = .ok (.aload_n 0, 1) := by decide +kernel
theorem dX9_part_20 : decode cX9_part 20 = .ok (.getfield 167, 3) := by decide +kernel
theorem dX9_part_23 : decode cX9_part 23 = .ok (.ifCond .eq 7, 3) := by decide +kernel
theorem dX9_part_26 : decode cX9_part 26 = .ok (.iconst 0, 1) := by decide +kernel
theorem dX9_part_27 : decode cX9_part 27 = .ok (.goto 7, 3) := by decide +kernel
theorem dX9_part_30 : decode cX9_part 30 = .ok (.aload_n 0, 1) := by decide +kernel
theorem dX9_part_31 : decode cX9_part 31 = .ok (.invokevirtual 219, 3) := by decide +kernel
theorem dX9_part_34 : decode cX9_part 34 = .ok (.istore_n 2, 1) := by decide +kernel
theorem dX9_part_35 : decode cX9_part 35 = .ok (.aload_n 0, 1) := by decide +kernel
theorem dX9_part_36 : decode cX9_part 36 = .ok (.bipush 59, 2) := by decide +kernel
theorem dX9_part_38 : decode cX9_part 38 = .ok (.invokevirtual 208, 3) := by decide +kernel
theorem dX9_part_41 : decode cX9_part 41 = .ok (.ifCond .ne 7, 3) := by decide +kernel
theorem dX9_part_44 : decode cX9_part 44 = .ok (.aload_n 0, 1) := by decide +kernel
theorem dX9_part_45 : decode cX9_part 45 = .ok (.invokevirtual 180, 3) := by decide +kernel
theorem dX9_part_48 : decode cX9_part 48 = .ok (.aload_n 0, 1) := by decide +kernel
theorem dX9_part_49 : decode cX9_part 49 = .ok (.getfield 167, 3) := by decide +kernel
theorem dX9_part_52 : decode cX9_part 52 = .ok (.ifCond .ne 7, 3) := by decide +kernel
theorem dX9_part_55 : decode cX9_part 55 = .ok (.aload_n 0, 1) := by decide +kernel
theorem dX9_part_56 : decode cX9_part 56 = .ok (.invokevirtual 183, 3) := by decide +kernel
theorem dX9_part_59 : decode cX9_part 59 = .ok (.iload_n 2, 1) := by decide +kernel
theorem dX9_part_60 : decode cX9_part 60 = .ok (.ireturn, 1) := by decide +kernel
set_option maxRecDepth 20000 in
theorem ggX9_read_X9_next : GoodIn wsX9_read wsX9_next := goodIn_r _ [12, 4, 13, 7, 3, 14, 15, 16, 17, 18, 19, 20, 21, 22, 11, 23, 24, 1, 25, 26, 27, 89, 90, 91, 92, 93, 94, 95, 96, 97, 98, 99, 100, 101, 102, 103, 104, 105, 106, 107, 108, 109, 110, 111, 112, 113, 114, 115, 116, 117, 118, 119, 120, 121, 122, 123, 124, 125, 126, 127, 128, 129, 130, 131, 132] (by decide +kernel) (by decide +kernel)
set_option maxRecDepth 20000 in
theorem gX9_read_X9_next : GoodIn wsX9_read (wsV RX9 183 RX9 yX9_next wsX9_next) := goodIn_app (goodIn_of _ (by decide +kernel)) ggX9_read_X9_next
set_option maxRecDepth 20000 in
theorem ggX9_read_X9_isWord : GoodIn wsX9_read wsX9_isWord := goodIn_r _ [31, 6, 7, 4, 13, 32, 33, 34, 11, 35, 20, 21, 22, 23, 3, 24, 1, 89, 90, 91, 92, 93, 94, 95, 96, 97, 98, 99, 100, 101, 102, 103, 104, 105, 106, 107, 108, 109, 110, 111, 112, 113, 114, 115, 116, 117, 118, 119, 120, 121, 122, 123, 124, 125, 126, 127, 128, 129, 130, 131, 132] (by decide +kernel) (by decide +kernel)
set_option maxRecDepth 20000 in
theorem gX9_read_X9_isWord : GoodIn wsX9_read (wsV RX9 186 RX9 yX9_isWord wsX9_isWord) := goodIn_app (goodIn_of _ (by decide +kernel)) ggX9_read_X9_isWord
set_option maxRecDepth 20000 in
theorem ggX9_read_X9_part : GoodIn wsX9_read wsX9_part := goodIn_r _ [39, 6, 40, 41, 42, 11, 43, 13, 44, 8, 9, 10, 12, 4, 7, 3, 14, 15, 16, 17, 18, 19, 20, 21, 22, 23, 24, 1, 25, 26, 27, 45, 46, 47, 48, 49, 50, 51, 28, 29, 30, 31, 32, 33, 34, 35, 52, 53, 54, 55, 56, 57, 58, 59, 60, 61, 5, 62, 63, 64, 65, 66, 67, 68, 69, 70, 71, 72, 73, 74, 75, 76, 77, 78, 79, 80, 81, 82, 83, 84, 85, 86, 87, 88, 89, 90, 91, 92, 93, 94, 95, 96, 97, 98, 99, 100, 101, 102, 103, 104, 105, 106, 107, 108, 109, 110, 111, 112, 113, 114, 115, 116, 117, 118, 119, 120, 121, 122, 123, 124, 125, 126, 127, 128, 129, 130, 131, 132] (by decide +kernel) (by decide +kernel)
set_option maxRecDepth 20000 in
theorem gX9_read_X9_part : GoodIn wsX9_read (wsV RX9 241 RX9 yX9_part wsX9_part) := goodIn_app (goodIn_of _ (by decide +kernel)) ggX9_read_X9_part
set_option maxRecDepth 20000 in
theorem ggX9_read_X9_fail : GoodIn wsX9_read wsX9_fail := goodIn_r _ [43, 6, 13, 44, 89, 90, 91, 92, 93, 94, 95, 96, 97, 98, 99, 100, 101, 102, 103, 104, 105, 106, 107, 108, 109, 110, 111, 112, 113, 114, 115, 116, 117, 118, 119, 120, 121, 122, 123, 124, 125, 126, 127, 128, 129, 130, 131, 132] (by decide +kernel) (by decide +kernel)
set_option maxRecDepth 20000 in
theorem gX9_read_X9_fail : GoodIn wsX9_read (wsV RX9 180 RX9 yX9_fail wsX9_fail) := goodIn_app (goodIn_of _ (by decide +kernel)) ggX9_read_X9_fail
theorem dX9_read_0 : decode cX9_read 0 = .ok (.aload_n 0, 1) := by decide +kernel
theorem dX9_read_1 : decode cX9_read 1 = .ok (.sipush 160, 3) := by decide +kernel
theorem dX9_read_4 : decode cX9_read 4 = .ok (.iload_n 1, 1) := by decide +kernel
theorem dX9_read_5 : decode cX9_read 5 = .ok (.imul, 1) := by decide +kernel
theorem dX9_read_6 : decode cX9_read 6 = .ok (.putfield 140, 3) := by decide +kernel
theorem dX9_read_9 : decode cX9_read 9 = .ok (.aload_n 0, 1) := by decide +kernel
theorem dX9_read_10 : decode cX9_read 10 = .ok (.aload_n 0, 1) := by decide +kernel
theorem dX9_read_11 : decode cX9_read 11 = .ok (.getfield 17, 3) := by decide +kernel
theorem dX9_read_14 : decode cX9_read 14 = .ok (.iload_n 1, 1) := by decide +kernel
theorem dX9_read_15 : decode cX9_read 15 = .ok (.iaload, 1) := by decide +kernel
theorem dX9_read_16 : decode cX9_read 16 = .ok (.putfield 137, 3) := by decide +kernel
theorem dX9_read_19 : decode cX9_read 19 = .ok (.aload_n 0, 1) := by decide +kernel
theorem dX9_read_20 : decode cX9_read 20 = .ok (.iconst 0, 1) := by decide +kernel
theorem dX9_read_21 : decode cX9_read 21 = .ok (.putfield 143, 3) := by decide +kernel
theorem dX9_read_24 : decode cX9_read 24 = .ok (.aload_n 0, 1) := by decide +kernel
theorem dX9_read_25 : decode cX9_read 25 = .ok (.iconst 0, 1) := by decide +kernel
theorem dX9_read_26 : decode cX9_read 26 = .ok (.putfield 177, 3) := by decide +kernel
theorem dX9_read_29 : decode cX9_read 29 = .ok (.aload_n 0, 1) := by decide +kernel
theorem dX9_read_30 : decode cX9_read 30 = .ok (.iconst 0, 1) := by decide +kernel
theorem dX9_read_31 : decode cX9_read 31 = .ok (.putfield 167, 3) := by decide +kernel
theorem dX9_read_34 : decode cX9_read 34 = .ok (.aload_n 0, 1) := by decide +kernel
theorem dX9_read_35 : decode cX9_read 35 = .ok (.invokevirtual 183, 3) := by decide +kernel
theorem dX9_read_38 : decode cX9_read 38 = .ok (.aload_n 0, 1) := by decide +kernel
theorem dX9_read_39 : decode cX9_read 39 = .ok (.aload_n 0, 1) := by decide +kernel
theorem dX9_read_40 : decode cX9_read 40 = .ok (.bipush 121, 2) := by decide +kernel
theorem dX9_read_42 : decode cX9_read 42 = .ok (.bipush 105, 2) := by decide +kernel
theorem dX9_read_44 : decode cX9_read 44 = .ok (.bipush 101, 2) := by decide +kernel
theorem dX9_read_46 : decode cX9_read 46 = .ok (.bipush 108, 2) := by decide +kernel
theorem dX9_read_48 : decode cX9_read 48 = .ok (.bipush 100, 2) := by decide +kernel
theorem dX9_read_50 : decode cX9_read 50 = .ok (.bipush 115, 2) := by decide +kernel
theorem dX9_read_52 : decode cX9_read 52 = .ok (.iconst 0, 1) := by decide +kernel
theorem dX9_read_53 : decode cX9_read 53 = .ok (.iconst 0, 1) := by decide +kernel
theorem dX9_read_54 : decode cX9_read 54 = .ok (.invokevirtual 186, 3) := by decide +kernel
theorem dX9_read_57 : decode cX9_read 57 = .ok (.invokevirtual 241, 3) := by decide +kernel
theorem dX9_read_60 : decode cX9_read 60 = .ok (.istore_n 3, 1) := by decide +kernel
theorem dX9_read_61 : decode cX9_read 61 = .ok (.aload_n 0, 1) := by decide +kernel
theorem dX9_read_62 : decode cX9_read 62 = .ok (.getfield 167, 3) := by decide +kernel
theorem dX9_read_65 : decode cX9_read 65 = .ok (.ifCond .eq 7, 3) := by decide +kernel
theorem dX9_read_68 : decode cX9_read 68 = .ok (.iconst 0, 1) := by decide +kernel
theorem dX9_read_69 : decode cX9_read 69 = .ok (.goto 24, 3) := by decide +kernel
theorem dX9_read_72 : decode cX9_read 72 = .ok (.aload_n 0, 1) := by decide +kernel
theorem dX9_read_73 : decode cX9_read 73 = .ok (.aload_n 0, 1) := by decide +kernel
theorem dX9_read_74 : decode cX9_read 74 = .ok (.bipush 115, 2) := by decide +kernel
theorem dX9_read_76 : decode cX9_read 76 = .ok (.bipush 117, 2) := by decide +kernel
theorem dX9_read_78 : decode cX9_read 78 = .ok (.bipush 105, 2) := by decide +kernel
theorem dX9_read_80 : decode cX9_read 80 = .ok (.bipush 116, 2) := by decide +kernel
theorem dX9_read_82 : decode cX9_read 82 = .ok (.bipush 115, 2) := by decide +kernel
theorem dX9_read_84 : decode cX9_read 84 = .ok (.iconst 0, 1) := by decide +kernel
theorem dX9_read_85 : decode cX9_read 85 = .ok (.iconst 0, 1) := by decide +kernel
theorem dX9_read_86 : decode cX9_read 86 = .ok (.iconst 0, 1) := by decide +kernel
theorem dX9_read_87 : decode cX9_read 87 = .ok (.invokevirtual 186, 3) := by decide +kernel
theorem dX9_read_90 : decode cX9_read 90 = .ok (.invokevirtual 241, 3) := by decide +kernel
theorem dX9_read_93 : decode cX9_read 93 = .ok (.istore 4, 2) := by decide +kernel
theorem dX9_read_95 : decode cX9_read 95 = .ok (.aload_n 0, 1) := by decide +kernel
theorem dX9_read_96 : decode cX9_read 96 = .ok (.getfield 167, 3) := by decide +kernel
theorem dX9_read_99 : decode cX9_read 99 = .ok (.ifCond .eq 7, 3) := by decide +kernel
theorem dX9_read_102 : decode cX9_read 102 = .ok (.iconst 0, 1) := by decide +kernel
theorem dX9_read_103 : decode cX9_read 103 = .ok (.goto 24, 3) := by decide +kernel
theorem dX9_read_106 : decode cX9_read 106 = .ok (.aload_n 0, 1) := by decide +kernel
theorem dX9_read_107 : decode cX9_read 107 = .ok (.aload_n 0, 1) := by decide +kernel
theorem dX9_read_108 : decode cX9_read 108 = .ok (.bipush 101, 2) := by decide +kernel
theorem dX9_read_110 : decode cX9_read 110 = .ok (.bipush 97, 2) := by decide +kernel
theorem dX9_read_112 : decode cX9_read 112 = .ok (.bipush 115, 2) := by decide +kernel
theorem dX9_read_114 : decode cX9_read 114 = .ok (.bipush 101, 2) := by decide +kernel
theorem dX9_read_116 : decode cX9_read 116 = .ok (.bipush 115, 2) := by decide +kernel
theorem dX9_read_118 : decode cX9_read 118 = .ok (.iconst 0, 1) := by decide +kernel
theorem dX9_read_119 : decode cX9_read 119 = .ok (.iconst 0, 1) := by decide +kernel
theorem dX9_read_120 : decode cX9_read 120 = .ok (.iconst 0, 1) := by decide +kernel
theorem dX9_read_121 : decode cX9_read 121 = .ok (.invokevirtual 186, 3) := by decide +kernel
theorem dX9_read_124 : decode cX9_read 124 = .ok (.invokevirtual 241, 3) := by decide +kernel
theorem dX9_read_127 : decode cX9_read 127 = .ok (.istore 5, 2) := by decide +kernel
theorem dX9_read_129 : decode cX9_read 129 = .ok (.aload_n 0, 1) := by decide +kernel
theorem dX9_read_130 : decode cX9_read 130 = .ok (.getfield 167, 3) := by decide +kernel
theorem dX9_read_133 : decode cX9_read 133 = .ok (.ifCond .ne 14, 3) := by decide +kernel
theorem dX9_read_136 : decode cX9_read 136 = .ok (.aload_n 0, 1) := by decide +kernel
theorem dX9_read_137 : decode cX9_read 137 = .ok (.getfield 152, 3) := by decide +kernel
theorem dX9_read_140 : decode cX9_read 140 = .ok (.ifCond .eq 7, 3) := by decide +kernel
theorem dX9_read_143 : decode cX9_read 143 = .ok (.aload_n 0, 1) := by decide +kernel
theorem dX9_read_144 : decode cX9_read 144 = .ok (.invokevirtual 180, 3) := by decide +kernel
theorem dX9_read_147 : decode cX9_read 147 = .ok (.iload_n 2, 1) := by decide +kernel
theorem dX9_read_148 : decode cX9_read 148 = .ok (.ifCond .ne 7, 3) := by decide +kernel
theorem dX9_read_151 : decode cX9_read 151 = .ok (.iload_n 3, 1) := by decide +kernel
theorem dX9_read_152 : decode cX9_read 152 = .ok (.goto 15, 3) := by decide +kernel
theorem dX9_read_155 : decode cX9_read 155 = .ok (.iload_n 2, 1) := by decide +kernel
theorem dX9_read_156 : decode cX9_read 156 = .ok (.iconst 1, 1) := by decide +kernel
theorem dX9_read_157 : decode cX9_read 157 = .ok (.if_icmp .ne 8, 3) := by decide +kernel
theorem dX9_read_160 : decode cX9_read 160 = .ok (.iload 4, 2) := by decide +kernel
theorem dX9_read_162 : decode cX9_read 162 = .ok (.goto 5, 3) := by decide +kernel
theorem dX9_read_165 : decode cX9_read 165 = .ok (.iload 5, 2) := by decide +kernel
theorem dX9_read_167 : decode cX9_read 167 = .ok (.ireturn, 1) := by decide +kernel
set_option maxRecDepth 20000 in
theorem ggX9_text_X9_read : GoodIn wsX9_text wsX9_read := goodIn_r _ [12, 13, 5, 14, 15, 16, 6, 17, 18, 19, 20, 11, 21, 22, 23, 24, 25, 26, 27, 28, 29, 30, 31, 32, 3, 33, 34, 35, 36, 37, 38, 39, 40, 41, 42, 43, 44, 45, 46, 47, 48, 49, 50, 51, 7, 52, 53, 54, 55, 56, 57, 58, 59, 60, 61, 62, 63, 64, 65, 66, 67, 68, 69, 70, 71, 72, 73, 74, 75, 76, 77, 78, 79, 80, 81, 82, 83, 84, 85, 86, 87, 88, 89, 90, 91, 92, 93, 94, 95, 96, 97, 98, 99, 100, 101, 102, 103, 104, 105, 106, 107, 108, 109, 110, 111, 112, 113, 114, 115, 116, 117, 118, 119, 120, 121, 122, 123, 124, 125, 126, 127, 128, 129, 130, 131, 132, 133, 134, 135, 136, 137, 138, 139] (by decide +kernel) (by decide +kernel)
set_option maxRecDepth 20000 in
theorem gX9_text_X9_read : GoodIn wsX9_text (wsV RX9 245 RX9 yX9_read wsX9_read) := goodIn_app (goodIn_of _ (by decide +kernel)) ggX9_text_X9_read
theorem dX9_text_0 : decode cX9_text 0 = .ok (.aload_n 0, 1) := by decide +kernel
theorem dX9_text_1 : decode cX9_text 1 = .ok (.getfield 74, 3) := by decide +kernel
theorem dX9_text_4 : decode cX9_text 4 = .ok (.bipush 6, 2) := by decide +kernel
theorem dX9_text_6 : decode cX9_text 6 = .ok (.if_icmp .ne 6, 3) := by decide +kernel
theorem dX9_text_9 : decode cX9_text 9 = .ok (.bipush (-4), 2) := by decide +kernel
theorem dX9_text_11 : decode cX9_text 11 = .ok (.ireturn, 1) := by decide +kernel
theorem dX9_text_12 : decode cX9_text 12 = .ok (.iconst 0, 1) := by decide +kernel
theorem dX9_text_13 : decode cX9_text 13 = .ok (.istore_n 1, 1) := by decide +kernel
theorem dX9_text_14 : decode cX9_text 14 = .ok (.iload_n 1, 1) := by decide +kernel
theorem dX9_text_15 : decode cX9_text 15 = .ok (.aload_n 0, 1) := by decide +kernel
theorem dX9_text_16 : decode cX9_text 16 = .ok (.getfield 134, 3) := by decide +kernel
theorem dX9_text_19 : decode cX9_text 19 = .ok (.if_icmp .ge 30, 3) := by decide +kernel
theorem dX9_text_22 : decode cX9_text 22 = .ok (.aload_n 0, 1) := by decide +kernel
theorem dX9_text_23 : decode cX9_text 23 = .ok (.getfield 13, 3) := by decide +kernel
theorem dX9_text_26 : decode cX9_text 26 = .ok (.sipush 160, 3) := by decide +kernel
theorem dX9_text_29 : decode cX9_text 29 = .ok (.aload_n 0, 1) := by decide +kernel
theorem dX9_text_30 : decode cX9_text 30 = .ok (.getfield 74, 3) := by decide +kernel
theorem dX9_text_33 : decode cX9_text 33 = .ok (.imul, 1) := by decide +kernel
theorem dX9_text_34 : decode cX9_text 34 = .ok (.iload_n 1, 1) := by decide +kernel
theorem dX9_text_35 : decode cX9_text 35 = .ok (.iadd, 1) := by decide +kernel
theorem dX9_text_36 : decode cX9_text 36 = .ok (.aload_n 0, 1) := by decide +kernel
theorem dX9_text_37 : decode cX9_text 37 = .ok (.getfield 20, 3) := by decide +kernel
theorem dX9_text_40 : decode cX9_text 40 = .ok (.iload_n 1, 1) := by decide +kernel
theorem dX9_text_41 : decode cX9_text 41 = .ok (.iaload, 1) := by decide +kernel
theorem dX9_text_42 : decode cX9_text 42 = .ok (.iastore, 1) := by decide +kernel
theorem dX9_text_43 : decode cX9_text 43 = .ok (.iinc 1 1, 3) := by decide +kernel
theorem dX9_text_46 : decode cX9_text 46 = .ok (.goto (-32), 3) := by decide +kernel
theorem dX9_text_49 : decode cX9_text 49 = .ok (.aload_n 0, 1) := by decide +kernel
theorem dX9_text_50 : decode cX9_text 50 = .ok (.getfield 17, 3) := by decide +kernel
theorem dX9_text_53 : decode cX9_text 53 = .ok (.aload_n 0, 1) := by decide +kernel
theorem dX9_text_54 : decode cX9_text 54 = .ok (.getfield 74, 3) := by decide +kernel
theorem dX9_text_57 : decode cX9_text 57 = .ok (.aload_n 0, 1) := by decide +kernel
theorem dX9_text_58 : decode cX9_text 58 = .ok (.getfield 134, 3) := by decide +kernel
theorem dX9_text_61 : decode cX9_text 61 = .ok (.iastore, 1) := by decide +kernel
theorem dX9_text_62 : decode cX9_text 62 = .ok (.aload_n 0, 1) := by decide +kernel
theorem dX9_text_63 : decode cX9_text 63 = .ok (.iconst 0, 1) := by decide +kernel
theorem dX9_text_64 : decode cX9_text 64 = .ok (.putfield 134, 3) := by decide +kernel
theorem dX9_text_67 : decode cX9_text 67 = .ok (.aload_n 0, 1) := by decide +kernel
theorem dX9_text_68 : decode cX9_text 68 = .ok (.aload_n 0, 1) := by decide +kernel
theorem dX9_text_69 : decode cX9_text 69 = .ok (.getfield 74, 3) := by decide +kernel
theorem dX9_text_72 : decode cX9_text 72 = .ok (.iconst 0, 1) := by decide +kernel
theorem dX9_text_73 : decode cX9_text 73 = .ok (.invokevirtual 245, 3) := by decide +kernel
theorem dX9_text_76 : decode cX9_text 76 = .ok (.istore_n 1, 1) := by decide +kernel
theorem dX9_text_77 : decode cX9_text 77 = .ok (.aload_n 0, 1) := by decide +kernel
theorem dX9_text_78 : decode cX9_text 78 = .ok (.getfield 167, 3) := by decide +kernel
theorem dX9_text_81 : decode cX9_text 81 = .ok (.ifCond .eq 11, 3) := by decide +kernel
theorem dX9_text_84 : decode cX9_text 84 = .ok (.bipush (-100), 2) := by decide +kernel
theorem dX9_text_86 : decode cX9_text 86 = .ok (.aload_n 0, 1) := by decide +kernel
theorem dX9_text_87 : decode cX9_text 87 = .ok (.getfield 171, 3) := by decide +kernel
theorem dX9_text_90 : decode cX9_text 90 = .ok (.isub, 1) := by decide +kernel
theorem dX9_text_91 : decode cX9_text 91 = .ok (.ireturn, 1) := by decide +kernel
theorem dX9_text_92 : decode cX9_text 92 = .ok (.aload_n 0, 1) := by decide +kernel
theorem dX9_text_93 : decode cX9_text 93 = .ok (.dup, 1) := by decide +kernel
theorem dX9_text_94 : decode cX9_text 94 = .ok (.getfield 74, 3) := by decide +kernel
theorem dX9_text_97 : decode cX9_text 97 = .ok (.iconst 1, 1) := by decide +kernel
theorem dX9_text_98 : decode cX9_text 98 = .ok (.iadd, 1) := by decide +kernel
theorem dX9_text_99 : decode cX9_text 99 = .ok (.putfield 74, 3) := by decide +kernel
theorem dX9_text_102 : decode cX9_text 102 = .ok (.aload_n 0, 1) := by decide +kernel
theorem dX9_text_103 : decode cX9_text 103 = .ok (.getfield 74, 3) := by decide +kernel
theorem dX9_text_106 : decode cX9_text 106 = .ok (.iconst 1, 1) := by decide +kernel
theorem dX9_text_107 : decode cX9_text 107 = .ok (.isub, 1) := by decide +kernel
theorem dX9_text_108 : decode cX9_text 108 = .ok (.ireturn, 1) := by decide +kernel
set_option maxRecDepth 20000 in
theorem ggX9_force_X9_in : GoodIn wsX9_force wsX9_in := goodIn_r _ [6] (by decide +kernel) (by decide +kernel)
set_option maxRecDepth 20000 in
theorem gX9_force_X9_in : GoodIn wsX9_force (va_wsS RX9 80 yX9_in wsX9_in) := goodIn_app (goodIn_of _ (by decide +kernel)) ggX9_force_X9_in
theorem dX9_force_0 : decode cX9_force 0 = .ok (.iload_n 1, 1) := by decide +kernel
theorem dX9_force_1 : decode cX9_force 1 = .ok (.i2l, 1) := by decide +kernel
theorem dX9_force_2 : decode cX9_force 2 = .ok (.lconst 0, 1) := by decide +kernel
theorem dX9_force_3 : decode cX9_force 3 = .ok (.aload_n 0, 1) := by decide +kernel
theorem dX9_force_4 : decode cX9_force 4 = .ok (.getfield 74, 3) := by decide +kernel
theorem dX9_force_7 : decode cX9_force 7 = .ok (.iconst 1, 1) := by decide +kernel
theorem dX9_force_8 : decode cX9_force 8 = .ok (.isub, 1) := by decide +kernel
theorem dX9_force_9 : decode cX9_force 9 = .ok (.i2l, 1) := by decide +kernel
theorem dX9_force_10 : decode cX9_force 10 = .ok (.invokestatic 80, 3) := by decide +kernel
theorem dX9_force_13 : decode cX9_force 13 = .ok (.ifCond .ne 6, 3) := by decide +kernel
theorem dX9_force_16 : decode cX9_force 16 = .ok (.bipush (-2), 2) := by decide +kernel
theorem dX9_force_18 : decode cX9_force 18 = .ok (.ireturn, 1) := by decide +kernel
theorem dX9_force_19 : decode cX9_force 19 = .ok (.aload_n 0, 1) := by decide +kernel
theorem dX9_force_20 : decode cX9_force 20 = .ok (.getfield 117, 3) := by decide +kernel
theorem dX9_force_23 : decode cX9_force 23 = .ok (.istore_n 2, 1) := by decide +kernel
theorem dX9_force_24 : decode cX9_force 24 = .ok (.aload_n 0, 1) := by decide +kernel
theorem dX9_force_25 : decode cX9_force 25 = .ok (.iload_n 1, 1) := by decide +kernel
theorem dX9_force_26 : decode cX9_force 26 = .ok (.putfield 117, 3) := by decide +kernel
theorem dX9_force_29 : decode cX9_force 29 = .ok (.iload_n 2, 1) := by decide +kernel
theorem dX9_force_30 : decode cX9_force 30 = .ok (.ireturn, 1) := by decide +kernel
set_option maxRecDepth 20000 in
theorem ggX9_says_X9_keptRead : GoodIn wsX9_says wsX9_keptRead := goodIn_r _ [14, 15, 16, 17, 2, 18, 3, 19, 5, 20, 6, 7, 21, 9, 22, 23, 24, 25, 26, 27, 13, 28, 29, 30, 31, 32, 33, 34, 35, 36, 37, 38, 39, 40, 41, 42, 43, 44, 45, 46, 47, 48, 49, 50, 51, 52, 53, 54, 55, 56, 57, 58, 59, 60, 61, 62, 63, 64, 65, 66, 67, 68, 69, 70, 71, 72, 73, 74, 75, 76, 77, 78, 79, 80, 81, 82, 83, 84, 85, 86, 87, 88, 89, 90, 91, 92, 93, 94, 95, 96, 97, 98, 99, 100, 101, 102, 103, 104, 105, 106, 107, 108, 109, 113, 114, 115, 116, 117, 118, 119, 120, 121, 122, 123, 124, 125, 126, 127, 128, 129, 130, 131, 132, 133, 134, 135, 136, 137, 138, 139, 140, 141, 142, 143, 144, 145, 146, 147, 148, 149, 150, 151, 152, 153, 154, 155, 156] (by decide +kernel) (by decide +kernel)
set_option maxRecDepth 20000 in
theorem gX9_says_X9_keptRead : GoodIn wsX9_says (wsV RX9 248 RX9 yX9_keptRead wsX9_keptRead) := goodIn_app (goodIn_of _ (by decide +kernel)) ggX9_says_X9_keptRead
set_option maxRecDepth 20000 in
theorem ggX9_says_X9_within : GoodIn wsX9_says wsX9_within := goodIn_r _ [112] (by decide +kernel) (by decide +kernel)
set_option maxRecDepth 20000 in
theorem gX9_says_X9_within : GoodIn wsX9_says (va_wsS RX9 251 yX9_within wsX9_within) := goodIn_app (goodIn_of _ (by decide +kernel)) ggX9_says_X9_within
theorem dX9_says_0 : decode cX9_says 0 = .ok (.aload_n 0, 1) := by decide +kernel
theorem dX9_says_1 : decode cX9_says 1 = .ok (.aload_n 0, 1) := by decide +kernel
theorem dX9_says_2 : decode cX9_says 2 = .ok (.getfield 26, 3) := by decide +kernel
theorem dX9_says_5 : decode cX9_says 5 = .ok (.iconst 3, 1) := by decide +kernel
theorem dX9_says_6 : decode cX9_says 6 = .ok (.iload_n 2, 1) := by decide +kernel
theorem dX9_says_7 : decode cX9_says 7 = .ok (.imul, 1) := by decide +kernel
theorem dX9_says_8 : decode cX9_says 8 = .ok (.iconst 1, 1) := by decide +kernel
theorem dX9_says_9 : decode cX9_says 9 = .ok (.iadd, 1) := by decide +kernel
theorem dX9_says_10 : decode cX9_says 10 = .ok (.iaload, 1) := by decide +kernel
theorem dX9_says_11 : decode cX9_says 11 = .ok (.putfield 190, 3) := by decide +kernel
theorem dX9_says_14 : decode cX9_says 14 = .ok (.aload_n 0, 1) := by decide +kernel
theorem dX9_says_15 : decode cX9_says 15 = .ok (.aload_n 0, 1) := by decide +kernel
theorem dX9_says_16 : decode cX9_says 16 = .ok (.getfield 26, 3) := by decide +kernel
theorem dX9_says_19 : decode cX9_says 19 = .ok (.iconst 3, 1) := by decide +kernel
theorem dX9_says_20 : decode cX9_says 20 = .ok (.iload_n 2, 1) := by decide +kernel
theorem dX9_says_21 : decode cX9_says 21 = .ok (.imul, 1) := by decide +kernel
theorem dX9_says_22 : decode cX9_says 22 = .ok (.iaload, 1) := by decide +kernel
theorem dX9_says_23 : decode cX9_says 23 = .ok (.putfield 193, 3) := by decide +kernel
theorem dX9_says_26 : decode cX9_says 26 = .ok (.aload_n 0, 1) := by decide +kernel
theorem dX9_says_27 : decode cX9_says 27 = .ok (.aload_n 0, 1) := by decide +kernel
theorem dX9_says_28 : decode cX9_says 28 = .ok (.getfield 111, 3) := by decide +kernel
theorem dX9_says_31 : decode cX9_says 31 = .ok (.putfield 196, 3) := by decide +kernel
theorem dX9_says_34 : decode cX9_says 34 = .ok (.aload_n 0, 1) := by decide +kernel
theorem dX9_says_35 : decode cX9_says 35 = .ok (.aload_n 0, 1) := by decide +kernel
theorem dX9_says_36 : decode cX9_says 36 = .ok (.getfield 26, 3) := by decide +kernel
theorem dX9_says_39 : decode cX9_says 39 = .ok (.iconst 3, 1) := by decide +kernel
theorem dX9_says_40 : decode cX9_says 40 = .ok (.iload_n 2, 1) := by decide +kernel
