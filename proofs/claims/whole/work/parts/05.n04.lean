theorem dX6_value_138 : decode cX6_value 138 = .ok (.iconst 1, 1) := by decide +kernel
theorem dX6_value_139 : decode cX6_value 139 = .ok (.if_icmp .lt 59, 3) := by decide +kernel
theorem dX6_value_142 : decode cX6_value 142 = .ok (.aload 5, 2) := by decide +kernel
theorem dX6_value_144 : decode cX6_value 144 = .ok (.iload 6, 2) := by decide +kernel
theorem dX6_value_146 : decode cX6_value 146 = .ok (.iconst 1, 1) := by decide +kernel
theorem dX6_value_147 : decode cX6_value 147 = .ok (.isub, 1) := by decide +kernel
theorem dX6_value_148 : decode cX6_value 148 = .ok (.iload 8, 2) := by decide +kernel
theorem dX6_value_150 : decode cX6_value 150 = .ok (.aload 5, 2) := by decide +kernel
theorem dX6_value_152 : decode cX6_value 152 = .ok (.iload 6, 2) := by decide +kernel
theorem dX6_value_154 : decode cX6_value 154 = .ok (.iconst 1, 1) := by decide +kernel
theorem dX6_value_155 : decode cX6_value 155 = .ok (.isub, 1) := by decide +kernel
theorem dX6_value_156 : decode cX6_value 156 = .ok (.iaload, 1) := by decide +kernel
theorem dX6_value_157 : decode cX6_value 157 = .ok (.invokestatic 47, 3) := by decide +kernel
theorem dX6_value_160 : decode cX6_value 160 = .ok (.iastore, 1) := by decide +kernel
theorem dX6_value_161 : decode cX6_value 161 = .ok (.goto 37, 3) := by decide +kernel
theorem dX6_value_164 : decode cX6_value 164 = .ok (.iload 6, 2) := by decide +kernel
theorem dX6_value_166 : decode cX6_value 166 = .ok (.iconst 2, 1) := by decide +kernel
theorem dX6_value_167 : decode cX6_value 167 = .ok (.if_icmp .lt 31, 3) := by decide +kernel
theorem dX6_value_170 : decode cX6_value 170 = .ok (.iinc 6 (-1), 3) := by decide +kernel
theorem dX6_value_173 : decode cX6_value 173 = .ok (.aload 5, 2) := by decide +kernel
theorem dX6_value_175 : decode cX6_value 175 = .ok (.iload 6, 2) := by decide +kernel
theorem dX6_value_177 : decode cX6_value 177 = .ok (.iconst 1, 1) := by decide +kernel
theorem dX6_value_178 : decode cX6_value 178 = .ok (.isub, 1) := by decide +kernel
theorem dX6_value_179 : decode cX6_value 179 = .ok (.iload 8, 2) := by decide +kernel
theorem dX6_value_181 : decode cX6_value 181 = .ok (.ineg, 1) := by decide +kernel
theorem dX6_value_182 : decode cX6_value 182 = .ok (.aload 5, 2) := by decide +kernel
theorem dX6_value_184 : decode cX6_value 184 = .ok (.iload 6, 2) := by decide +kernel
theorem dX6_value_186 : decode cX6_value 186 = .ok (.iconst 1, 1) := by decide +kernel
theorem dX6_value_187 : decode cX6_value 187 = .ok (.isub, 1) := by decide +kernel
theorem dX6_value_188 : decode cX6_value 188 = .ok (.iaload, 1) := by decide +kernel
theorem dX6_value_189 : decode cX6_value 189 = .ok (.aload 5, 2) := by decide +kernel
theorem dX6_value_191 : decode cX6_value 191 = .ok (.iload 6, 2) := by decide +kernel
theorem dX6_value_193 : decode cX6_value 193 = .ok (.iaload, 1) := by decide +kernel
theorem dX6_value_194 : decode cX6_value 194 = .ok (.invokestatic 51, 3) := by decide +kernel
theorem dX6_value_197 : decode cX6_value 197 = .ok (.iastore, 1) := by decide +kernel
theorem dX6_value_198 : decode cX6_value 198 = .ok (.iinc 7 1, 3) := by decide +kernel
theorem dX6_value_201 : decode cX6_value 201 = .ok (.goto (-153), 3) := by decide +kernel
theorem dX6_value_204 : decode cX6_value 204 = .ok (.iload 6, 2) := by decide +kernel
theorem dX6_value_206 : decode cX6_value 206 = .ok (.iconst 1, 1) := by decide +kernel
theorem dX6_value_207 : decode cX6_value 207 = .ok (.if_icmp .ne 10, 3) := by decide +kernel
theorem dX6_value_210 : decode cX6_value 210 = .ok (.aload 5, 2) := by decide +kernel
theorem dX6_value_212 : decode cX6_value 212 = .ok (.iconst 0, 1) := by decide +kernel
theorem dX6_value_213 : decode cX6_value 213 = .ok (.iaload, 1) := by decide +kernel
theorem dX6_value_214 : decode cX6_value 214 = .ok (.goto 4, 3) := by decide +kernel
theorem dX6_value_217 : decode cX6_value 217 = .ok (.iconst 0, 1) := by decide +kernel
theorem dX6_value_218 : decode cX6_value 218 = .ok (.ireturn, 1) := by decide +kernel
theorem dX6_named_0 : decode cX6_named 0 = .ok (.iload_n 0, 1) := by decide +kernel
theorem dX6_named_1 : decode cX6_named 1 = .ok (.tableswitch 63 262 266 #[35, 42, 49, 54, 61], 35) := by decide +kernel
theorem dX6_named_36 : decode cX6_named 36 = .ok (.aload_n 1, 1) := by decide +kernel
theorem dX6_named_37 : decode cX6_named 37 = .ok (.getfield 55, 3) := by decide +kernel
theorem dX6_named_40 : decode cX6_named 40 = .ok (.iload_n 2, 1) := by decide +kernel
theorem dX6_named_41 : decode cX6_named 41 = .ok (.iaload, 1) := by decide +kernel
theorem dX6_named_42 : decode cX6_named 42 = .ok (.ireturn, 1) := by decide +kernel
theorem dX6_named_43 : decode cX6_named 43 = .ok (.aload_n 1, 1) := by decide +kernel
theorem dX6_named_44 : decode cX6_named 44 = .ok (.getfield 58, 3) := by decide +kernel
theorem dX6_named_47 : decode cX6_named 47 = .ok (.iload_n 2, 1) := by decide +kernel
theorem dX6_named_48 : decode cX6_named 48 = .ok (.iaload, 1) := by decide +kernel
theorem dX6_named_49 : decode cX6_named 49 = .ok (.ireturn, 1) := by decide +kernel
theorem dX6_named_50 : decode cX6_named 50 = .ok (.aload_n 1, 1) := by decide +kernel
theorem dX6_named_51 : decode cX6_named 51 = .ok (.getfield 61, 3) := by decide +kernel
theorem dX6_named_54 : decode cX6_named 54 = .ok (.ireturn, 1) := by decide +kernel
theorem dX6_named_55 : decode cX6_named 55 = .ok (.aload_n 1, 1) := by decide +kernel
theorem dX6_named_56 : decode cX6_named 56 = .ok (.getfield 64, 3) := by decide +kernel
theorem dX6_named_59 : decode cX6_named 59 = .ok (.iload_n 2, 1) := by decide +kernel
theorem dX6_named_60 : decode cX6_named 60 = .ok (.iaload, 1) := by decide +kernel
theorem dX6_named_61 : decode cX6_named 61 = .ok (.ireturn, 1) := by decide +kernel
theorem dX6_named_62 : decode cX6_named 62 = .ok (.iload_n 3, 1) := by decide +kernel
theorem dX6_named_63 : decode cX6_named 63 = .ok (.ireturn, 1) := by decide +kernel
theorem dX6_named_64 : decode cX6_named 64 = .ok (.aload_n 1, 1) := by decide +kernel
theorem dX6_named_65 : decode cX6_named 65 = .ok (.getfield 67, 3) := by decide +kernel
theorem dX6_named_68 : decode cX6_named 68 = .ok (.ireturn, 1) := by decide +kernel
theorem dX6_ofOne_0 : decode cX6_ofOne 0 = .ok (.iload_n 0, 1) := by decide +kernel
theorem dX6_ofOne_1 : decode cX6_ofOne 1 = .ok (.sipush (-271), 3) := by decide +kernel
theorem dX6_ofOne_4 : decode cX6_ofOne 4 = .ok (.if_icmp .ne 8, 3) := by decide +kernel
theorem dX6_ofOne_7 : decode cX6_ofOne 7 = .ok (.iload_n 1, 1) := by decide +kernel
theorem dX6_ofOne_8 : decode cX6_ofOne 8 = .ok (.ineg, 1) := by decide +kernel
theorem dX6_ofOne_9 : decode cX6_ofOne 9 = .ok (.goto 12, 3) := by decide +kernel
theorem dX6_ofOne_12 : decode cX6_ofOne 12 = .ok (.iload_n 1, 1) := by decide +kernel
theorem dX6_ofOne_13 : decode cX6_ofOne 13 = .ok (.ifCond .ne 7, 3) := by decide +kernel
theorem dX6_ofOne_16 : decode cX6_ofOne 16 = .ok (.iconst 1, 1) := by decide +kernel
theorem dX6_ofOne_17 : decode cX6_ofOne 17 = .ok (.goto 4, 3) := by decide +kernel
theorem dX6_ofOne_20 : decode cX6_ofOne 20 = .ok (.iconst 0, 1) := by decide +kernel
theorem dX6_ofOne_21 : decode cX6_ofOne 21 = .ok (.ireturn, 1) := by decide +kernel
theorem dX6_ofTwo_0 : decode cX6_ofTwo 0 = .ok (.iload_n 0, 1) := by decide +kernel
theorem dX6_ofTwo_1 : decode cX6_ofTwo 1 = .ok (.lookupswitch 107 #[(42, 67), (43, 59), (45, 63), (60, 71), (61, 82), (260, 93)], 59) := by decide +kernel
theorem dX6_ofTwo_60 : decode cX6_ofTwo 60 = .ok (.iload_n 1, 1) := by decide +kernel
theorem dX6_ofTwo_61 : decode cX6_ofTwo 61 = .ok (.iload_n 2, 1) := by decide +kernel
theorem dX6_ofTwo_62 : decode cX6_ofTwo 62 = .ok (.iadd, 1) := by decide +kernel
theorem dX6_ofTwo_63 : decode cX6_ofTwo 63 = .ok (.ireturn, 1) := by decide +kernel
theorem dX6_ofTwo_64 : decode cX6_ofTwo 64 = .ok (.iload_n 1, 1) := by decide +kernel
theorem dX6_ofTwo_65 : decode cX6_ofTwo 65 = .ok (.iload_n 2, 1) := by decide +kernel
theorem dX6_ofTwo_66 : decode cX6_ofTwo 66 = .ok (.isub, 1) := by decide +kernel
theorem dX6_ofTwo_67 : decode cX6_ofTwo 67 = .ok (.ireturn, 1) := by decide +kernel
theorem dX6_ofTwo_68 : decode cX6_ofTwo 68 = .ok (.iload_n 1, 1) := by decide +kernel
theorem dX6_ofTwo_69 : decode cX6_ofTwo 69 = .ok (.iload_n 2, 1) := by decide +kernel
theorem dX6_ofTwo_70 : decode cX6_ofTwo 70 = .ok (.imul, 1) := by decide +kernel
theorem dX6_ofTwo_71 : decode cX6_ofTwo 71 = .ok (.ireturn, 1) := by decide +kernel
theorem dX6_ofTwo_72 : decode cX6_ofTwo 72 = .ok (.iload_n 1, 1) := by decide +kernel
theorem dX6_ofTwo_73 : decode cX6_ofTwo 73 = .ok (.iload_n 2, 1) := by decide +kernel
theorem dX6_ofTwo_74 : decode cX6_ofTwo 74 = .ok (.if_icmp .ge 7, 3) := by decide +kernel
theorem dX6_ofTwo_77 : decode cX6_ofTwo 77 = .ok (.iconst 1, 1) := by decide +kernel
theorem dX6_ofTwo_78 : decode cX6_ofTwo 78 = .ok (.goto 4, 3) := by decide +kernel
theorem dX6_ofTwo_81 : decode cX6_ofTwo 81 = .ok (.iconst 0, 1) := by decide +kernel
theorem dX6_ofTwo_82 : decode cX6_ofTwo 82 = .ok (.ireturn, 1) := by decide +kernel
theorem dX6_ofTwo_83 : decode cX6_ofTwo 83 = .ok (.iload_n 1, 1) := by decide +kernel
theorem dX6_ofTwo_84 : decode cX6_ofTwo 84 = .ok (.iload_n 2, 1) := by decide +kernel
theorem dX6_ofTwo_85 : decode cX6_ofTwo 85 = .ok (.if_icmp .ne 7, 3) := by decide +kernel
theorem dX6_ofTwo_88 : decode cX6_ofTwo 88 = .ok (.iconst 1, 1) := by decide +kernel
theorem dX6_ofTwo_89 : decode cX6_ofTwo 89 = .ok (.goto 4, 3) := by decide +kernel
theorem dX6_ofTwo_92 : decode cX6_ofTwo 92 = .ok (.iconst 0, 1) := by decide +kernel
theorem dX6_ofTwo_93 : decode cX6_ofTwo 93 = .ok (.ireturn, 1) := by decide +kernel
theorem dX6_ofTwo_94 : decode cX6_ofTwo 94 = .ok (.iload_n 1, 1) := by decide +kernel
theorem dX6_ofTwo_95 : decode cX6_ofTwo 95 = .ok (.ifCond .eq 11, 3) := by decide +kernel
theorem dX6_ofTwo_98 : decode cX6_ofTwo 98 = .ok (.iload_n 2, 1) := by decide +kernel
theorem dX6_ofTwo_99 : decode cX6_ofTwo 99 = .ok (.ifCond .eq 7, 3) := by decide +kernel
theorem dX6_ofTwo_102 : decode cX6_ofTwo 102 = .ok (.iconst 1, 1) := by decide +kernel
theorem dX6_ofTwo_103 : decode cX6_ofTwo 103 = .ok (.goto 4, 3) := by decide +kernel
theorem dX6_ofTwo_106 : decode cX6_ofTwo 106 = .ok (.iconst 0, 1) := by decide +kernel
theorem dX6_ofTwo_107 : decode cX6_ofTwo 107 = .ok (.ireturn, 1) := by decide +kernel
theorem dX6_ofTwo_108 : decode cX6_ofTwo 108 = .ok (.iload_n 1, 1) := by decide +kernel
theorem dX6_ofTwo_109 : decode cX6_ofTwo 109 = .ok (.ifCond .ne 7, 3) := by decide +kernel
theorem dX6_ofTwo_112 : decode cX6_ofTwo 112 = .ok (.iload_n 2, 1) := by decide +kernel
theorem dX6_ofTwo_113 : decode cX6_ofTwo 113 = .ok (.ifCond .eq 7, 3) := by decide +kernel
theorem dX6_ofTwo_116 : decode cX6_ofTwo 116 = .ok (.iconst 1, 1) := by decide +kernel
theorem dX6_ofTwo_117 : decode cX6_ofTwo 117 = .ok (.goto 4, 3) := by decide +kernel
theorem dX6_ofTwo_120 : decode cX6_ofTwo 120 = .ok (.iconst 0, 1) := by decide +kernel
theorem dX6_ofTwo_121 : decode cX6_ofTwo 121 = .ok (.ireturn, 1) := by decide +kernel
theorem dX7_spelling_0 : decode cX7_spelling 0 = .ok (.iload_n 0, 1) := by decide +kernel
theorem dX7_spelling_1 : decode cX7_spelling 1 = .ok (.tableswitch 99 256 267 #[63, 66, 69, 72, 75, 78, 81, 84, 87, 90, 93, 96], 63) := by decide +kernel
theorem dX7_spelling_64 : decode cX7_spelling 64 = .ok (.ldc 7, 2) := by decide +kernel
theorem dX7_spelling_66 : decode cX7_spelling 66 = .ok (.areturn, 1) := by decide +kernel
theorem dX7_spelling_67 : decode cX7_spelling 67 = .ok (.ldc 9, 2) := by decide +kernel
theorem dX7_spelling_69 : decode cX7_spelling 69 = .ok (.areturn, 1) := by decide +kernel
theorem dX7_spelling_70 : decode cX7_spelling 70 = .ok (.ldc 11, 2) := by decide +kernel
theorem dX7_spelling_72 : decode cX7_spelling 72 = .ok (.areturn, 1) := by decide +kernel
theorem dX7_spelling_73 : decode cX7_spelling 73 = .ok (.ldc 13, 2) := by decide +kernel
theorem dX7_spelling_75 : decode cX7_spelling 75 = .ok (.areturn, 1) := by decide +kernel
theorem dX7_spelling_76 : decode cX7_spelling 76 = .ok (.ldc 15, 2) := by decide +kernel
theorem dX7_spelling_78 : decode cX7_spelling 78 = .ok (.areturn, 1) := by decide +kernel
theorem dX7_spelling_79 : decode cX7_spelling 79 = .ok (.ldc 17, 2) := by decide +kernel
theorem dX7_spelling_81 : decode cX7_spelling 81 = .ok (.areturn, 1) := by decide +kernel
theorem dX7_spelling_82 : decode cX7_spelling 82 = .ok (.ldc 19, 2) := by decide +kernel
theorem dX7_spelling_84 : decode cX7_spelling 84 = .ok (.areturn, 1) := by decide +kernel
theorem dX7_spelling_85 : decode cX7_spelling 85 = .ok (.ldc 21, 2) := by decide +kernel
theorem dX7_spelling_87 : decode cX7_spelling 87 = .ok (.areturn, 1) := by decide +kernel
theorem dX7_spelling_88 : decode cX7_spelling 88 = .ok (.ldc 23, 2) := by decide +kernel
theorem dX7_spelling_90 : decode cX7_spelling 90 = .ok (.areturn, 1) := by decide +kernel
theorem dX7_spelling_91 : decode cX7_spelling 91 = .ok (.ldc 25, 2) := by decide +kernel
theorem dX7_spelling_93 : decode cX7_spelling 93 = .ok (.areturn, 1) := by decide +kernel
theorem dX7_spelling_94 : decode cX7_spelling 94 = .ok (.ldc 27, 2) := by decide +kernel
theorem dX7_spelling_96 : decode cX7_spelling 96 = .ok (.areturn, 1) := by decide +kernel
theorem dX7_spelling_97 : decode cX7_spelling 97 = .ok (.ldc 29, 2) := by decide +kernel
theorem dX7_spelling_99 : decode cX7_spelling 99 = .ok (.areturn, 1) := by decide +kernel
theorem dX7_spelling_100 : decode cX7_spelling 100 = .ok (.ldc 31, 2) := by decide +kernel
theorem dX7_spelling_102 : decode cX7_spelling 102 = .ok (.areturn, 1) := by decide +kernel
theorem dX7_isName_0 : decode cX7_isName 0 = .ok (.iload_n 0, 1) := by decide +kernel
theorem dX7_isName_1 : decode cX7_isName 1 = .ok (.sipush 262, 3) := by decide +kernel
theorem dX7_isName_4 : decode cX7_isName 4 = .ok (.if_icmp .lt 14, 3) := by decide +kernel
theorem dX7_isName_7 : decode cX7_isName 7 = .ok (.iload_n 0, 1) := by decide +kernel
theorem dX7_isName_8 : decode cX7_isName 8 = .ok (.sipush 267, 3) := by decide +kernel
theorem dX7_isName_11 : decode cX7_isName 11 = .ok (.if_icmp .gt 7, 3) := by decide +kernel
theorem dX7_isName_14 : decode cX7_isName 14 = .ok (.iconst 1, 1) := by decide +kernel
theorem dX7_isName_15 : decode cX7_isName 15 = .ok (.goto 4, 3) := by decide +kernel
theorem dX7_isName_18 : decode cX7_isName 18 = .ok (.iconst 0, 1) := by decide +kernel
theorem dX7_isName_19 : decode cX7_isName 19 = .ok (.ireturn, 1) := by decide +kernel
set_option maxRecDepth 20000 in
theorem ggX8_init_X1_init : GoodIn wsX8_init wsX1_init := goodIn_r _ [32, 33, 2, 3, 34, 35, 36, 37, 38, 39, 40, 41, 96, 97, 98, 99, 100, 101, 102, 103, 104, 105, 106] (by decide +kernel) (by decide +kernel)
set_option maxRecDepth 20000 in
theorem gX8_init_X1_init : GoodIn wsX8_init (wsX1_init) := ggX8_init_X1_init
set_option maxRecDepth 20000 in
theorem ggX8_init_X4_init : GoodIn wsX8_init wsX4_init := goodIn_r _ [43, 44, 2, 3, 34, 45, 46, 47, 48, 49, 50, 51, 52, 53, 54, 116, 117, 118, 119, 120, 121, 122, 134, 135, 136] (by decide +kernel) (by decide +kernel)
set_option maxRecDepth 20000 in
theorem gX8_init_X4_init_n24 : GoodIn wsX8_init (wsX4_init) := ggX8_init_X4_init
set_option maxRecDepth 20000 in
theorem ggX8_init_X2_init : GoodIn wsX8_init wsX2_init := goodIn_r _ [57, 58, 2, 3, 59, 60, 61, 34, 62, 47, 48, 50, 51, 52, 53, 54, 63, 64, 65, 66, 67, 68, 69, 70, 71, 72, 73, 74, 75, 76, 77, 78, 79, 123, 124, 125, 134, 135, 136] (by decide +kernel) (by decide +kernel)
set_option maxRecDepth 20000 in
theorem gX8_init_X2_init : GoodIn wsX8_init (wsX2_init) := ggX8_init_X2_init
set_option maxRecDepth 20000 in
theorem ggX8_init_X3_init : GoodIn wsX8_init wsX3_init := goodIn_r _ [81, 82, 2, 3, 83, 34, 84, 126] (by decide +kernel) (by decide +kernel)
set_option maxRecDepth 20000 in
theorem gX8_init_X3_init_n38 : GoodIn wsX8_init (wsX3_init) := ggX8_init_X3_init
set_option maxRecDepth 20000 in
theorem ggX8_init_X0_init : GoodIn wsX8_init wsX0_init := goodIn_r _ [86, 87, 2, 3, 34, 88, 89, 90, 127, 128, 129, 130] (by decide +kernel) (by decide +kernel)
set_option maxRecDepth 20000 in
theorem gX8_init_X0_init_n45 : GoodIn wsX8_init (wsX0_init) := ggX8_init_X0_init
set_option maxRecDepth 20000 in
theorem ggX8_init_X5_init : GoodIn wsX8_init wsX5_init := goodIn_r _ [92, 93, 2, 3, 94, 34, 95, 131, 132, 133] (by decide +kernel) (by decide +kernel)
set_option maxRecDepth 20000 in
theorem gX8_init_X5_init_n56 : GoodIn wsX8_init (wsX5_init) := ggX8_init_X5_init
theorem dX8_init_0 : decode cX8_init 0 = .ok (.aload_n 0, 1) := by decide +kernel
theorem dX8_init_1 : decode cX8_init 1 = .ok (.invokespecial 1, 3) := by decide +kernel
theorem dX8_init_4 : decode cX8_init 4 = .ok (.aload_n 0, 1) := by decide +kernel
theorem dX8_init_5 : decode cX8_init 5 = .ok (.new 7, 3) := by decide +kernel
theorem dX8_init_8 : decode cX8_init 8 = .ok (.dup, 1) := by decide +kernel
theorem dX8_init_9 : decode cX8_init 9 = .ok (.invokespecial 9, 3) := by decide +kernel
theorem dX8_init_12 : decode cX8_init 12 = .ok (.putfield 10, 3) := by decide +kernel
theorem dX8_init_15 : decode cX8_init 15 = .ok (.aload_n 0, 1) := by decide +kernel
theorem dX8_init_16 : decode cX8_init 16 = .ok (.new 7, 3) := by decide +kernel
theorem dX8_init_19 : decode cX8_init 19 = .ok (.dup, 1) := by decide +kernel
theorem dX8_init_20 : decode cX8_init 20 = .ok (.invokespecial 9, 3) := by decide +kernel
theorem dX8_init_23 : decode cX8_init 23 = .ok (.putfield 16, 3) := by decide +kernel
theorem dX8_init_26 : decode cX8_init 26 = .ok (.aload_n 0, 1) := by decide +kernel
theorem dX8_init_27 : decode cX8_init 27 = .ok (.new 7, 3) := by decide +kernel
theorem dX8_init_30 : decode cX8_init 30 = .ok (.dup, 1) := by decide +kernel
theorem dX8_init_31 : decode cX8_init 31 = .ok (.invokespecial 9, 3) := by decide +kernel
theorem dX8_init_34 : decode cX8_init 34 = .ok (.putfield 19, 3) := by decide +kernel
theorem dX8_init_37 : decode cX8_init 37 = .ok (.aload_n 0, 1) := by decide +kernel
theorem dX8_init_38 : decode cX8_init 38 = .ok (.new 22, 3) := by decide +kernel
theorem dX8_init_41 : decode cX8_init 41 = .ok (.dup, 1) := by decide +kernel
theorem dX8_init_42 : decode cX8_init 42 = .ok (.invokespecial 24, 3) := by decide +kernel
theorem dX8_init_45 : decode cX8_init 45 = .ok (.putfield 25, 3) := by decide +kernel
theorem dX8_init_48 : decode cX8_init 48 = .ok (.aload_n 0, 1) := by decide +kernel
theorem dX8_init_49 : decode cX8_init 49 = .ok (.new 29, 3) := by decide +kernel
theorem dX8_init_52 : decode cX8_init 52 = .ok (.dup, 1) := by decide +kernel
theorem dX8_init_53 : decode cX8_init 53 = .ok (.invokespecial 31, 3) := by decide +kernel
theorem dX8_init_56 : decode cX8_init 56 = .ok (.putfield 32, 3) := by decide +kernel
theorem dX8_init_59 : decode cX8_init 59 = .ok (.aload_n 0, 1) := by decide +kernel
theorem dX8_init_60 : decode cX8_init 60 = .ok (.new 36, 3) := by decide +kernel
theorem dX8_init_63 : decode cX8_init 63 = .ok (.dup, 1) := by decide +kernel
theorem dX8_init_64 : decode cX8_init 64 = .ok (.invokespecial 38, 3) := by decide +kernel
theorem dX8_init_67 : decode cX8_init 67 = .ok (.putfield 39, 3) := by decide +kernel
theorem dX8_init_70 : decode cX8_init 70 = .ok (.aload_n 0, 1) := by decide +kernel
theorem dX8_init_71 : decode cX8_init 71 = .ok (.new 43, 3) := by decide +kernel
theorem dX8_init_74 : decode cX8_init 74 = .ok (.dup, 1) := by decide +kernel
theorem dX8_init_75 : decode cX8_init 75 = .ok (.invokespecial 45, 3) := by decide +kernel
theorem dX8_init_78 : decode cX8_init 78 = .ok (.putfield 46, 3) := by decide +kernel
theorem dX8_init_81 : decode cX8_init 81 = .ok (.aload_n 0, 1) := by decide +kernel
theorem dX8_init_82 : decode cX8_init 82 = .ok (.iconst 4, 1) := by decide +kernel
theorem dX8_init_83 : decode cX8_init 83 = .ok (.anewarray 50, 3) := by decide +kernel
theorem dX8_init_86 : decode cX8_init 86 = .ok (.putfield 52, 3) := by decide +kernel
theorem dX8_init_89 : decode cX8_init 89 = .ok (.iconst 0, 1) := by decide +kernel
theorem dX8_init_90 : decode cX8_init 90 = .ok (.istore_n 1, 1) := by decide +kernel
theorem dX8_init_91 : decode cX8_init 91 = .ok (.iload_n 1, 1) := by decide +kernel
theorem dX8_init_92 : decode cX8_init 92 = .ok (.iconst 4, 1) := by decide +kernel
theorem dX8_init_93 : decode cX8_init 93 = .ok (.if_icmp .ge 22, 3) := by decide +kernel
theorem dX8_init_96 : decode cX8_init 96 = .ok (.aload_n 0, 1) := by decide +kernel
theorem dX8_init_97 : decode cX8_init 97 = .ok (.getfield 52, 3) := by decide +kernel
theorem dX8_init_100 : decode cX8_init 100 = .ok (.iload_n 1, 1) := by decide +kernel
theorem dX8_init_101 : decode cX8_init 101 = .ok (.new 50, 3) := by decide +kernel
theorem dX8_init_104 : decode cX8_init 104 = .ok (.dup, 1) := by decide +kernel
theorem dX8_init_105 : decode cX8_init 105 = .ok (.invokespecial 56, 3) := by decide +kernel
theorem dX8_init_108 : decode cX8_init 108 = .ok (.aastore, 1) := by decide +kernel
theorem dX8_init_109 : decode cX8_init 109 = .ok (.iinc 1 1, 3) := by decide +kernel
theorem dX8_init_112 : decode cX8_init 112 = .ok (.goto (-21), 3) := by decide +kernel
theorem dX8_init_115 : decode cX8_init 115 = .ok (.return_, 1) := by decide +kernel
set_option maxRecDepth 20000 in
theorem ggX8_set_X1_hasPlace : GoodIn wsX8_set wsX1_hasPlace := goodIn_r _ [6, 7, 8, 9, 5, 10, 11, 12, 13, 14, 46, 47, 48, 49, 50, 51, 52, 53, 54, 55, 56] (by decide +kernel) (by decide +kernel)
set_option maxRecDepth 20000 in
theorem gX8_set_X1_hasPlace : GoodIn wsX8_set (wsV RX8 57 RX1 yX1_hasPlace wsX1_hasPlace) := goodIn_app (goodIn_of _ (by decide +kernel)) ggX8_set_X1_hasPlace
set_option maxRecDepth 20000 in
theorem ggX8_set_X8_mostOf : GoodIn wsX8_set wsX8_mostOf := goodIn_r _ [17] (by decide +kernel) (by decide +kernel)
set_option maxRecDepth 20000 in
theorem gX8_set_X8_mostOf : GoodIn wsX8_set (va_wsS RX8 61 yX8_mostOf wsX8_mostOf) := goodIn_app (goodIn_of _ (by decide +kernel)) ggX8_set_X8_mostOf
set_option maxRecDepth 20000 in
theorem ggX8_set_X1_read : GoodIn wsX8_set wsX1_read := goodIn_r _ [21, 22, 23, 24, 25, 26, 27, 28, 29, 30, 31, 32, 3, 4, 5, 6, 7, 8, 9, 10, 11, 12, 13, 14, 46, 47, 48, 49, 50, 51, 52, 53, 54, 55, 56] (by decide +kernel) (by decide +kernel)
set_option maxRecDepth 20000 in
theorem gX8_set_X1_read : GoodIn wsX8_set (wsV RX8 65 RX1 yX1_read wsX1_read) := goodIn_app (goodIn_of _ (by decide +kernel)) ggX8_set_X1_read
set_option maxRecDepth 20000 in
theorem ggX8_set_X1_write : GoodIn wsX8_set wsX1_write := goodIn_r _ [36, 22, 23, 24, 25, 26, 27, 28, 29, 30, 31, 32, 3, 4, 5, 6, 7, 8, 9, 10, 11, 12, 13, 14, 46, 47, 48, 49, 50, 51, 52, 53, 54, 55, 56] (by decide +kernel) (by decide +kernel)
set_option maxRecDepth 20000 in
theorem gX8_set_X1_write : GoodIn wsX8_set (wsV RX8 69 RX1 yX1_write wsX1_write) := goodIn_app (goodIn_of _ (by decide +kernel)) ggX8_set_X1_write
theorem dX8_set_0 : decode cX8_set 0 = .ok (.iload_n 1, 1) := by decide +kernel
theorem dX8_set_1 : decode cX8_set 1 = .ok (.bipush 6, 2) := by decide +kernel
theorem dX8_set_3 : decode cX8_set 3 = .ok (.if_icmp .gt 27, 3) := by decide +kernel
theorem dX8_set_6 : decode cX8_set 6 = .ok (.aload_n 0, 1) := by decide +kernel
theorem dX8_set_7 : decode cX8_set 7 = .ok (.getfield 10, 3) := by decide +kernel
theorem dX8_set_10 : decode cX8_set 10 = .ok (.iload_n 1, 1) := by decide +kernel
theorem dX8_set_11 : decode cX8_set 11 = .ok (.iload_n 2, 1) := by decide +kernel
theorem dX8_set_12 : decode cX8_set 12 = .ok (.invokevirtual 57, 3) := by decide +kernel
theorem dX8_set_15 : decode cX8_set 15 = .ok (.ifCond .eq 15, 3) := by decide +kernel
theorem dX8_set_18 : decode cX8_set 18 = .ok (.iload_n 3, 1) := by decide +kernel
theorem dX8_set_19 : decode cX8_set 19 = .ok (.ifCond .lt 11, 3) := by decide +kernel
theorem dX8_set_22 : decode cX8_set 22 = .ok (.iload_n 3, 1) := by decide +kernel
theorem dX8_set_23 : decode cX8_set 23 = .ok (.iload_n 1, 1) := by decide +kernel
theorem dX8_set_24 : decode cX8_set 24 = .ok (.invokestatic 61, 3) := by decide +kernel
theorem dX8_set_27 : decode cX8_set 27 = .ok (.if_icmp .le 6, 3) := by decide +kernel
theorem dX8_set_30 : decode cX8_set 30 = .ok (.bipush (-2), 2) := by decide +kernel
theorem dX8_set_32 : decode cX8_set 32 = .ok (.ireturn, 1) := by decide +kernel
theorem dX8_set_33 : decode cX8_set 33 = .ok (.aload_n 0, 1) := by decide +kernel
theorem dX8_set_34 : decode cX8_set 34 = .ok (.getfield 10, 3) := by decide +kernel
theorem dX8_set_37 : decode cX8_set 37 = .ok (.iload_n 1, 1) := by decide +kernel
theorem dX8_set_38 : decode cX8_set 38 = .ok (.iload_n 2, 1) := by decide +kernel
theorem dX8_set_39 : decode cX8_set 39 = .ok (.invokevirtual 65, 3) := by decide +kernel
theorem dX8_set_42 : decode cX8_set 42 = .ok (.istore 4, 2) := by decide +kernel
theorem dX8_set_44 : decode cX8_set 44 = .ok (.aload_n 0, 1) := by decide +kernel
theorem dX8_set_45 : decode cX8_set 45 = .ok (.getfield 10, 3) := by decide +kernel
theorem dX8_set_48 : decode cX8_set 48 = .ok (.iload_n 1, 1) := by decide +kernel
theorem dX8_set_49 : decode cX8_set 49 = .ok (.iload_n 2, 1) := by decide +kernel
theorem dX8_set_50 : decode cX8_set 50 = .ok (.iload_n 3, 1) := by decide +kernel
theorem dX8_set_51 : decode cX8_set 51 = .ok (.invokevirtual 69, 3) := by decide +kernel
theorem dX8_set_54 : decode cX8_set 54 = .ok (.iload 4, 2) := by decide +kernel
theorem dX8_set_56 : decode cX8_set 56 = .ok (.ireturn, 1) := by decide +kernel
set_option maxRecDepth 20000 in
theorem ggX8_wakes_X1_admit : GoodIn wsX8_wakes wsX1_admit := goodIn_r _ [6, 7, 8, 9, 10, 11, 21, 22, 23, 24, 25, 26, 27, 28, 29, 30, 31] (by decide +kernel) (by decide +kernel)
set_option maxRecDepth 20000 in
theorem gX8_wakes_X1_admit : GoodIn wsX8_wakes (wsV RX8 73 RX1 yX1_admit wsX1_admit) := goodIn_app (goodIn_of _ (by decide +kernel)) ggX8_wakes_X1_admit
theorem dX8_wakes_0 : decode cX8_wakes 0 = .ok (.aload_n 0, 1) := by decide +kernel
theorem dX8_wakes_1 : decode cX8_wakes 1 = .ok (.getfield 10, 3) := by decide +kernel
theorem dX8_wakes_4 : decode cX8_wakes 4 = .ok (.iload_n 1, 1) := by decide +kernel
theorem dX8_wakes_5 : decode cX8_wakes 5 = .ok (.iload_n 2, 1) := by decide +kernel
theorem dX8_wakes_6 : decode cX8_wakes 6 = .ok (.iload_n 3, 1) := by decide +kernel
theorem dX8_wakes_7 : decode cX8_wakes 7 = .ok (.invokevirtual 73, 3) := by decide +kernel
theorem dX8_wakes_10 : decode cX8_wakes 10 = .ok (.ireturn, 1) := by decide +kernel
set_option maxRecDepth 20000 in
theorem ggX8_told_X1_lodges : GoodIn wsX8_told wsX1_lodges := goodIn_r _ [7, 8, 114, 115, 116, 117, 118, 119, 120, 121, 122, 123, 124] (by decide +kernel) (by decide +kernel)
set_option maxRecDepth 20000 in
theorem gX8_told_X1_lodges : GoodIn wsX8_told (wsV RX8 77 RX1 yX1_lodges wsX1_lodges) := goodIn_app (goodIn_of _ (by decide +kernel)) ggX8_told_X1_lodges
set_option maxRecDepth 20000 in
theorem ggX8_told_X2_yieldOf : GoodIn wsX8_told wsX2_yieldOf := goodIn_r _ [13, 14, 15, 16, 4, 5, 6, 7, 8, 17, 18, 19, 12, 20, 21, 22, 23, 24, 25, 26, 27, 28, 29, 30, 31, 32, 33, 34, 35, 36, 37, 38, 39, 40, 41, 42, 43, 44, 45, 46, 47, 48, 49, 50, 51, 52, 53, 54, 55, 56, 57, 58, 59, 60, 61, 62, 63, 64, 65, 66, 67, 68, 69, 70, 71, 72, 73, 114, 115, 116, 117, 118, 119, 120, 121, 122, 123, 124, 125, 126, 127, 128, 129, 130] (by decide +kernel) (by decide +kernel)
set_option maxRecDepth 20000 in
theorem gX8_told_X2_yieldOf : GoodIn wsX8_told (wsV RX8 81 RX2 yX2_yieldOf wsX2_yieldOf) := goodIn_app (goodIn_of _ (by decide +kernel)) ggX8_told_X2_yieldOf
set_option maxRecDepth 20000 in
theorem ggX8_told_X2_suitBits : GoodIn wsX8_told wsX2_suitBits := goodIn_r _ [77, 78, 79, 80, 12, 81, 82, 15, 69, 70, 16, 4, 5, 6, 7, 8, 83, 55, 84, 17, 18, 19, 20, 21, 22, 23, 24, 25, 26, 27, 28, 29, 30, 31, 32, 33, 34, 35, 36, 37, 38, 39, 40, 41, 42, 43, 44, 45, 46, 47, 48, 49, 50, 51, 52, 53, 114, 115, 116, 117, 118, 119, 120, 121, 122, 123, 124, 125, 126, 127, 128, 129, 130] (by decide +kernel) (by decide +kernel)
set_option maxRecDepth 20000 in
theorem gX8_told_X2_suitBits : GoodIn wsX8_told (wsV RX8 85 RX2 yX2_suitBits wsX2_suitBits) := goodIn_app (goodIn_of _ (by decide +kernel)) ggX8_told_X2_suitBits
set_option maxRecDepth 20000 in
theorem ggX8_told_X1_hasPlace : GoodIn wsX8_told wsX1_hasPlace := goodIn_r _ [88, 89, 4, 5, 6, 7, 8, 83, 55, 84, 114, 115, 116, 117, 118, 119, 120, 121, 122, 123, 124] (by decide +kernel) (by decide +kernel)
set_option maxRecDepth 20000 in
theorem gX8_told_X1_hasPlace : GoodIn wsX8_told (wsV RX8 57 RX1 yX1_hasPlace wsX1_hasPlace) := goodIn_app (goodIn_of _ (by decide +kernel)) ggX8_told_X1_hasPlace
set_option maxRecDepth 20000 in
theorem ggX8_told_X1_read : GoodIn wsX8_told wsX1_read := goodIn_r _ [93, 94, 95, 96, 97, 98, 99, 100, 101, 102, 103, 104, 86, 87, 6, 88, 89, 4, 5, 7, 8, 83, 55, 84, 114, 115, 116, 117, 118, 119, 120, 121, 122, 123, 124] (by decide +kernel) (by decide +kernel)
set_option maxRecDepth 20000 in
theorem gX8_told_X1_read : GoodIn wsX8_told (wsV RX8 65 RX1 yX1_read wsX1_read) := goodIn_app (goodIn_of _ (by decide +kernel)) ggX8_told_X1_read
theorem dX8_told_0 : decode cX8_told 0 = .ok (.iload_n 2, 1) := by decide +kernel
theorem dX8_told_1 : decode cX8_told 1 = .ok (.bipush 8, 2) := by decide +kernel
theorem dX8_told_3 : decode cX8_told 3 = .ok (.if_icmp .ne 32, 3) := by decide +kernel
theorem dX8_told_6 : decode cX8_told 6 = .ok (.aload_n 0, 1) := by decide +kernel
theorem dX8_told_7 : decode cX8_told 7 = .ok (.getfield 10, 3) := by decide +kernel
theorem dX8_told_10 : decode cX8_told 10 = .ok (.iload_n 1, 1) := by decide +kernel
theorem dX8_told_11 : decode cX8_told 11 = .ok (.invokevirtual 77, 3) := by decide +kernel
theorem dX8_told_14 : decode cX8_told 14 = .ok (.ifCond .eq 18, 3) := by decide +kernel
theorem dX8_told_17 : decode cX8_told 17 = .ok (.aload_n 0, 1) := by decide +kernel
theorem dX8_told_18 : decode cX8_told 18 = .ok (.getfield 32, 3) := by decide +kernel
theorem dX8_told_21 : decode cX8_told 21 = .ok (.aload_n 0, 1) := by decide +kernel
theorem dX8_told_22 : decode cX8_told 22 = .ok (.getfield 10, 3) := by decide +kernel
theorem dX8_told_25 : decode cX8_told 25 = .ok (.iload_n 1, 1) := by decide +kernel
theorem dX8_told_26 : decode cX8_told 26 = .ok (.invokevirtual 81, 3) := by decide +kernel
theorem dX8_told_29 : decode cX8_told 29 = .ok (.goto 5, 3) := by decide +kernel
theorem dX8_told_32 : decode cX8_told 32 = .ok (.bipush (-2), 2) := by decide +kernel
theorem dX8_told_34 : decode cX8_told 34 = .ok (.ireturn, 1) := by decide +kernel
theorem dX8_told_35 : decode cX8_told 35 = .ok (.iload_n 2, 1) := by decide +kernel
theorem dX8_told_36 : decode cX8_told 36 = .ok (.bipush 9, 2) := by decide +kernel
theorem dX8_told_38 : decode cX8_told 38 = .ok (.if_icmp .ne 32, 3) := by decide +kernel
theorem dX8_told_41 : decode cX8_told 41 = .ok (.aload_n 0, 1) := by decide +kernel
theorem dX8_told_42 : decode cX8_told 42 = .ok (.getfield 10, 3) := by decide +kernel
theorem dX8_told_45 : decode cX8_told 45 = .ok (.iload_n 1, 1) := by decide +kernel
theorem dX8_told_46 : decode cX8_told 46 = .ok (.invokevirtual 77, 3) := by decide +kernel
theorem dX8_told_49 : decode cX8_told 49 = .ok (.ifCond .eq 18, 3) := by decide +kernel
theorem dX8_told_52 : decode cX8_told 52 = .ok (.aload_n 0, 1) := by decide +kernel
theorem dX8_told_53 : decode cX8_told 53 = .ok (.getfield 32, 3) := by decide +kernel
theorem dX8_told_56 : decode cX8_told 56 = .ok (.aload_n 0, 1) := by decide +kernel
theorem dX8_told_57 : decode cX8_told 57 = .ok (.getfield 10, 3) := by decide +kernel
theorem dX8_told_60 : decode cX8_told 60 = .ok (.iload_n 1, 1) := by decide +kernel
theorem dX8_told_61 : decode cX8_told 61 = .ok (.invokevirtual 85, 3) := by decide +kernel
theorem dX8_told_64 : decode cX8_told 64 = .ok (.goto 5, 3) := by decide +kernel
theorem dX8_told_67 : decode cX8_told 67 = .ok (.bipush (-2), 2) := by decide +kernel
theorem dX8_told_69 : decode cX8_told 69 = .ok (.ireturn, 1) := by decide +kernel
theorem dX8_told_70 : decode cX8_told 70 = .ok (.iload_n 2, 1) := by decide +kernel
theorem dX8_told_71 : decode cX8_told 71 = .ok (.bipush 10, 2) := by decide +kernel
theorem dX8_told_73 : decode cX8_told 73 = .ok (.if_icmp .gt 27, 3) := by decide +kernel
theorem dX8_told_76 : decode cX8_told 76 = .ok (.aload_n 0, 1) := by decide +kernel
theorem dX8_told_77 : decode cX8_told 77 = .ok (.getfield 10, 3) := by decide +kernel
theorem dX8_told_80 : decode cX8_told 80 = .ok (.iload_n 2, 1) := by decide +kernel
theorem dX8_told_81 : decode cX8_told 81 = .ok (.iload_n 1, 1) := by decide +kernel
theorem dX8_told_82 : decode cX8_told 82 = .ok (.invokevirtual 57, 3) := by decide +kernel
theorem dX8_told_85 : decode cX8_told 85 = .ok (.ifCond .eq 15, 3) := by decide +kernel
theorem dX8_told_88 : decode cX8_told 88 = .ok (.aload_n 0, 1) := by decide +kernel
theorem dX8_told_89 : decode cX8_told 89 = .ok (.getfield 10, 3) := by decide +kernel
theorem dX8_told_92 : decode cX8_told 92 = .ok (.iload_n 2, 1) := by decide +kernel
theorem dX8_told_93 : decode cX8_told 93 = .ok (.iload_n 1, 1) := by decide +kernel
theorem dX8_told_94 : decode cX8_told 94 = .ok (.invokevirtual 65, 3) := by decide +kernel
theorem dX8_told_97 : decode cX8_told 97 = .ok (.goto 5, 3) := by decide +kernel
theorem dX8_told_100 : decode cX8_told 100 = .ok (.bipush (-2), 2) := by decide +kernel
theorem dX8_told_102 : decode cX8_told 102 = .ok (.ireturn, 1) := by decide +kernel
set_option maxRecDepth 20000 in
theorem ggX8_eased_X1_lodges : GoodIn wsX8_eased wsX1_lodges := goodIn_r _ [7, 8, 77, 78, 79, 80, 81, 82, 83, 84, 85, 86, 87] (by decide +kernel) (by decide +kernel)
set_option maxRecDepth 20000 in
theorem gX8_eased_X1_lodges : GoodIn wsX8_eased (wsV RX8 77 RX1 yX1_lodges wsX1_lodges) := goodIn_app (goodIn_of _ (by decide +kernel)) ggX8_eased_X1_lodges
set_option maxRecDepth 20000 in
theorem ggX8_eased_X2_easeOf : GoodIn wsX8_eased wsX2_easeOf := goodIn_r _ [13, 14, 15, 16, 17, 18, 19, 20, 4, 5, 6, 7, 8, 21, 22, 23, 12, 24, 25, 26, 27, 28, 29, 30, 31, 32, 33, 34, 35, 36, 37, 38, 39, 40, 41, 42, 43, 44, 45, 46, 47, 48, 49, 50, 51, 52, 53, 54, 55, 56, 57, 58, 59, 60, 61, 62, 63, 64, 65, 66, 67, 88, 89, 90, 77, 78, 79, 80, 81, 82, 83, 84, 85, 86, 87, 91, 92, 93] (by decide +kernel) (by decide +kernel)
set_option maxRecDepth 20000 in
theorem gX8_eased_X2_easeOf : GoodIn wsX8_eased (wsV RX8 88 RX2 yX2_easeOf wsX2_easeOf) := goodIn_app (goodIn_of _ (by decide +kernel)) ggX8_eased_X2_easeOf
theorem dX8_eased_0 : decode cX8_eased 0 = .ok (.aload_n 0, 1) := by decide +kernel
theorem dX8_eased_1 : decode cX8_eased 1 = .ok (.getfield 10, 3) := by decide +kernel
theorem dX8_eased_4 : decode cX8_eased 4 = .ok (.iload_n 1, 1) := by decide +kernel
theorem dX8_eased_5 : decode cX8_eased 5 = .ok (.invokevirtual 77, 3) := by decide +kernel
theorem dX8_eased_8 : decode cX8_eased 8 = .ok (.ifCond .eq 18, 3) := by decide +kernel
theorem dX8_eased_11 : decode cX8_eased 11 = .ok (.aload_n 0, 1) := by decide +kernel
theorem dX8_eased_12 : decode cX8_eased 12 = .ok (.getfield 32, 3) := by decide +kernel
theorem dX8_eased_15 : decode cX8_eased 15 = .ok (.aload_n 0, 1) := by decide +kernel
theorem dX8_eased_16 : decode cX8_eased 16 = .ok (.getfield 10, 3) := by decide +kernel
theorem dX8_eased_19 : decode cX8_eased 19 = .ok (.iload_n 1, 1) := by decide +kernel
theorem dX8_eased_20 : decode cX8_eased 20 = .ok (.invokevirtual 88, 3) := by decide +kernel
theorem dX8_eased_23 : decode cX8_eased 23 = .ok (.goto 6, 3) := by decide +kernel
theorem dX8_eased_26 : decode cX8_eased 26 = .ok (.sipush (-1000), 3) := by decide +kernel
theorem dX8_eased_29 : decode cX8_eased 29 = .ok (.ireturn, 1) := by decide +kernel
set_option maxRecDepth 20000 in
theorem ggX8_feed_X4_take : GoodIn wsX8_feed wsX4_take := goodIn_r _ [7, 8, 9, 19, 20, 21, 22, 23, 24, 25] (by decide +kernel) (by decide +kernel)
set_option maxRecDepth 20000 in
theorem gX8_feed_X4_take : GoodIn wsX8_feed (wsV RX8 91 RX4 yX4_take wsX4_take) := goodIn_app (goodIn_of _ (by decide +kernel)) ggX8_feed_X4_take
theorem dX8_feed_0 : decode cX8_feed 0 = .ok (.iload_n 1, 1) := by decide +kernel
theorem dX8_feed_1 : decode cX8_feed 1 = .ok (.ifCond .lt 10, 3) := by decide +kernel
theorem dX8_feed_4 : decode cX8_feed 4 = .ok (.iload_n 1, 1) := by decide +kernel
theorem dX8_feed_5 : decode cX8_feed 5 = .ok (.sipush 255, 3) := by decide +kernel
theorem dX8_feed_8 : decode cX8_feed 8 = .ok (.if_icmp .le 6, 3) := by decide +kernel
theorem dX8_feed_11 : decode cX8_feed 11 = .ok (.bipush (-2), 2) := by decide +kernel
theorem dX8_feed_13 : decode cX8_feed 13 = .ok (.ireturn, 1) := by decide +kernel
theorem dX8_feed_14 : decode cX8_feed 14 = .ok (.aload_n 0, 1) := by decide +kernel
theorem dX8_feed_15 : decode cX8_feed 15 = .ok (.getfield 25, 3) := by decide +kernel
theorem dX8_feed_18 : decode cX8_feed 18 = .ok (.iload_n 1, 1) := by decide +kernel
theorem dX8_feed_19 : decode cX8_feed 19 = .ok (.invokevirtual 91, 3) := by decide +kernel
theorem dX8_feed_22 : decode cX8_feed 22 = .ok (.ifCond .eq 13, 3) := by decide +kernel
theorem dX8_feed_25 : decode cX8_feed 25 = .ok (.aload_n 0, 1) := by decide +kernel
theorem dX8_feed_26 : decode cX8_feed 26 = .ok (.getfield 25, 3) := by decide +kernel
theorem dX8_feed_29 : decode cX8_feed 29 = .ok (.getfield 94, 3) := by decide +kernel
theorem dX8_feed_32 : decode cX8_feed 32 = .ok (.goto 5, 3) := by decide +kernel
theorem dX8_feed_35 : decode cX8_feed 35 = .ok (.bipush (-4), 2) := by decide +kernel
theorem dX8_feed_37 : decode cX8_feed 37 = .ok (.ireturn, 1) := by decide +kernel
set_option maxRecDepth 20000 in
theorem ggX8_text_X2_isFull : GoodIn wsX8_text wsX2_isFull := goodIn_r _ [7, 8, 231, 232, 233] (by decide +kernel) (by decide +kernel)
set_option maxRecDepth 20000 in
theorem gX8_text_X2_isFull : GoodIn wsX8_text (wsV RX8 98 RX2 yX2_isFull wsX2_isFull) := goodIn_app (goodIn_of _ (by decide +kernel)) ggX8_text_X2_isFull
set_option maxRecDepth 20000 in
theorem ggX8_text_X2_nextText : GoodIn wsX8_text wsX2_nextText := goodIn_r _ [12, 13, 8, 14, 15, 16, 17, 231, 232, 233] (by decide +kernel) (by decide +kernel)
set_option maxRecDepth 20000 in
theorem gX8_text_X2_nextText : GoodIn wsX8_text (wsV RX8 102 RX2 yX2_nextText wsX2_nextText) := goodIn_app (goodIn_of _ (by decide +kernel)) ggX8_text_X2_nextText
set_option maxRecDepth 20000 in
theorem ggX8_text_X4_read : GoodIn wsX8_text wsX4_read := goodIn_r _ [22, 23, 24, 25, 26, 27, 28, 29, 30, 31, 32, 33, 34, 35, 36, 21, 37, 38, 39, 40, 41, 42, 43, 44, 45, 46, 47, 48, 49, 50, 51, 52, 53, 54, 55, 56, 57, 58, 59, 60, 61, 62, 63, 64, 65, 66, 67, 68, 69, 70, 71, 72, 73, 74, 75, 76, 77, 78, 79, 80, 81, 82, 83, 84, 85, 86, 87, 88, 89, 90, 91, 92, 93, 94, 95, 96, 97, 98, 99, 100, 101, 102, 103, 104, 105, 106, 107, 108, 109, 110, 111, 112, 113, 114, 115, 116, 117, 118, 119, 120, 121, 122, 123, 124, 16, 125, 126, 15, 17, 127, 128, 129, 130, 131, 132, 133, 134, 135, 136, 137, 138, 139, 140, 141, 142, 143, 144, 145, 146, 147, 148, 149, 150, 151, 152, 153, 154, 155, 156, 157, 158, 159, 160, 161, 162, 163, 164, 165, 166, 167, 168, 169, 170, 171, 172, 173, 174, 175, 176, 177, 178, 179, 180, 181, 182, 183, 184, 185, 186, 187, 188, 189, 190, 191, 192, 193, 194, 195, 196, 197, 198, 199, 200, 201, 202, 203, 204, 205, 206, 207, 208, 209, 210, 211, 212, 213, 214, 215, 216, 217, 234, 235, 236, 237, 238, 239, 240, 241, 242, 243] (by decide +kernel) (by decide +kernel)
set_option maxRecDepth 20000 in
theorem gX8_text_X4_read : GoodIn wsX8_text (wsV RX8 106 RX4 yX4_read wsX4_read) := goodIn_app (goodIn_of _ (by decide +kernel)) ggX8_text_X4_read
set_option maxRecDepth 20000 in
theorem ggX8_text_X2_keepNext : GoodIn wsX8_text wsX2_keepNext := goodIn_r _ [221, 8, 14, 15, 16, 17, 231, 232, 233] (by decide +kernel) (by decide +kernel)
set_option maxRecDepth 20000 in
theorem gX8_text_X2_keepNext : GoodIn wsX8_text (wsV RX8 109 RX2 yX2_keepNext wsX2_keepNext) := goodIn_app (goodIn_of _ (by decide +kernel)) ggX8_text_X2_keepNext
theorem dX8_text_0 : decode cX8_text 0 = .ok (.aload_n 0, 1) := by decide +kernel
theorem dX8_text_1 : decode cX8_text 1 = .ok (.getfield 32, 3) := by decide +kernel
theorem dX8_text_4 : decode cX8_text 4 = .ok (.invokevirtual 98, 3) := by decide +kernel
theorem dX8_text_7 : decode cX8_text 7 = .ok (.ifCond .eq 6, 3) := by decide +kernel
theorem dX8_text_10 : decode cX8_text 10 = .ok (.bipush (-4), 2) := by decide +kernel
theorem dX8_text_12 : decode cX8_text 12 = .ok (.ireturn, 1) := by decide +kernel
theorem dX8_text_13 : decode cX8_text 13 = .ok (.aload_n 0, 1) := by decide +kernel
theorem dX8_text_14 : decode cX8_text 14 = .ok (.getfield 25, 3) := by decide +kernel
theorem dX8_text_17 : decode cX8_text 17 = .ok (.aload_n 0, 1) := by decide +kernel
theorem dX8_text_18 : decode cX8_text 18 = .ok (.getfield 32, 3) := by decide +kernel
theorem dX8_text_21 : decode cX8_text 21 = .ok (.invokevirtual 102, 3) := by decide +kernel
theorem dX8_text_24 : decode cX8_text 24 = .ok (.invokevirtual 106, 3) := by decide +kernel
theorem dX8_text_27 : decode cX8_text 27 = .ok (.istore_n 1, 1) := by decide +kernel
theorem dX8_text_28 : decode cX8_text 28 = .ok (.iload_n 1, 1) := by decide +kernel
theorem dX8_text_29 : decode cX8_text 29 = .ok (.iconst (-1), 1) := by decide +kernel
theorem dX8_text_30 : decode cX8_text 30 = .ok (.if_icmp .ne 13, 3) := by decide +kernel
theorem dX8_text_33 : decode cX8_text 33 = .ok (.aload_n 0, 1) := by decide +kernel
theorem dX8_text_34 : decode cX8_text 34 = .ok (.getfield 32, 3) := by decide +kernel
theorem dX8_text_37 : decode cX8_text 37 = .ok (.invokevirtual 109, 3) := by decide +kernel
theorem dX8_text_40 : decode cX8_text 40 = .ok (.goto 7, 3) := by decide +kernel
theorem dX8_text_43 : decode cX8_text 43 = .ok (.bipush (-100), 2) := by decide +kernel
theorem dX8_text_45 : decode cX8_text 45 = .ok (.iload_n 1, 1) := by decide +kernel
theorem dX8_text_46 : decode cX8_text 46 = .ok (.isub, 1) := by decide +kernel
theorem dX8_text_47 : decode cX8_text 47 = .ok (.ireturn, 1) := by decide +kernel
set_option maxRecDepth 20000 in
theorem ggX8_force_X2_hasText : GoodIn wsX8_force wsX2_hasText := goodIn_r _ [8, 9, 30, 31, 32] (by decide +kernel) (by decide +kernel)
set_option maxRecDepth 20000 in
theorem gX8_force_X2_hasText : GoodIn wsX8_force (wsV RX8 113 RX2 yX2_hasText wsX2_hasText) := goodIn_app (goodIn_of _ (by decide +kernel)) ggX8_force_X2_hasText
theorem dX8_force_0 : decode cX8_force 0 = .ok (.aload_n 0, 1) := by decide +kernel
theorem dX8_force_1 : decode cX8_force 1 = .ok (.getfield 32, 3) := by decide +kernel
theorem dX8_force_4 : decode cX8_force 4 = .ok (.iload_n 1, 1) := by decide +kernel
theorem dX8_force_5 : decode cX8_force 5 = .ok (.invokevirtual 113, 3) := by decide +kernel
theorem dX8_force_8 : decode cX8_force 8 = .ok (.ifCond .ne 6, 3) := by decide +kernel
theorem dX8_force_11 : decode cX8_force 11 = .ok (.bipush (-2), 2) := by decide +kernel
theorem dX8_force_13 : decode cX8_force 13 = .ok (.ireturn, 1) := by decide +kernel
theorem dX8_force_14 : decode cX8_force 14 = .ok (.aload_n 0, 1) := by decide +kernel
theorem dX8_force_15 : decode cX8_force 15 = .ok (.getfield 10, 3) := by decide +kernel
theorem dX8_force_18 : decode cX8_force 18 = .ok (.getfield 116, 3) := by decide +kernel
theorem dX8_force_21 : decode cX8_force 21 = .ok (.istore_n 2, 1) := by decide +kernel
theorem dX8_force_22 : decode cX8_force 22 = .ok (.aload_n 0, 1) := by decide +kernel
theorem dX8_force_23 : decode cX8_force 23 = .ok (.getfield 10, 3) := by decide +kernel
theorem dX8_force_26 : decode cX8_force 26 = .ok (.iload_n 1, 1) := by decide +kernel
theorem dX8_force_27 : decode cX8_force 27 = .ok (.putfield 116, 3) := by decide +kernel
theorem dX8_force_30 : decode cX8_force 30 = .ok (.iload_n 2, 1) := by decide +kernel
theorem dX8_force_31 : decode cX8_force 31 = .ok (.ireturn, 1) := by decide +kernel
set_option maxRecDepth 20000 in
theorem ggX8_night_X3_pass : GoodIn wsX8_night wsX3_pass := goodIn_r _ [9, 10, 11, 12, 13, 14, 8, 15, 16, 17, 18, 19, 20, 21, 22, 23, 24, 25, 26, 27, 28, 29, 30, 31, 32, 33, 34, 35, 36, 37, 38, 39, 40, 41, 42, 43, 44, 45, 46, 47, 48, 49, 50, 51, 52, 53, 54, 55, 56, 57, 58, 59, 60, 61, 62, 63, 64, 65, 66, 67, 68, 69, 70, 71, 72, 73, 74, 75, 76, 77, 78, 79, 80, 81, 82, 83, 84, 85, 86, 87, 88, 89, 90, 91, 92, 93, 94, 95, 96, 97, 98, 99, 100, 101, 102, 103, 104, 105, 106, 107, 108, 118, 119, 120, 121, 122, 123, 124, 125, 126, 127, 128, 129, 130, 131, 132, 133, 134, 135] (by decide +kernel) (by decide +kernel)
set_option maxRecDepth 20000 in
theorem gX8_night_X3_pass : GoodIn wsX8_night (wsV RX8 122 RX3 yX3_pass wsX3_pass) := goodIn_app (goodIn_of _ (by decide +kernel)) ggX8_night_X3_pass
theorem dX8_night_0 : decode cX8_night 0 = .ok (.aload_n 0, 1) := by decide +kernel
theorem dX8_night_1 : decode cX8_night 1 = .ok (.getfield 10, 3) := by decide +kernel
theorem dX8_night_4 : decode cX8_night 4 = .ok (.getfield 119, 3) := by decide +kernel
theorem dX8_night_7 : decode cX8_night 7 = .ok (.sipush 999, 3) := by decide +kernel
theorem dX8_night_10 : decode cX8_night 10 = .ok (.if_icmp .lt 8, 3) := by decide +kernel
theorem dX8_night_13 : decode cX8_night 13 = .ok (.bipush (-3), 2) := by decide +kernel
theorem dX8_night_15 : decode cX8_night 15 = .ok (.goto 18, 3) := by decide +kernel
theorem dX8_night_18 : decode cX8_night 18 = .ok (.aload_n 0, 1) := by decide +kernel
theorem dX8_night_19 : decode cX8_night 19 = .ok (.getfield 39, 3) := by decide +kernel
theorem dX8_night_22 : decode cX8_night 22 = .ok (.aload_n 0, 1) := by decide +kernel
theorem dX8_night_23 : decode cX8_night 23 = .ok (.getfield 32, 3) := by decide +kernel
theorem dX8_night_26 : decode cX8_night 26 = .ok (.aload_n 0, 1) := by decide +kernel
theorem dX8_night_27 : decode cX8_night 27 = .ok (.getfield 10, 3) := by decide +kernel
theorem dX8_night_30 : decode cX8_night 30 = .ok (.invokevirtual 122, 3) := by decide +kernel
theorem dX8_night_33 : decode cX8_night 33 = .ok (.ireturn, 1) := by decide +kernel
set_option maxRecDepth 20000 in
theorem ggX8_news_X1_lodges : GoodIn wsX8_news wsX1_lodges := goodIn_r _ [7, 8, 35, 36, 37, 38, 39, 40, 41, 42, 43, 44, 45] (by decide +kernel) (by decide +kernel)
set_option maxRecDepth 20000 in
theorem gX8_news_X1_lodges : GoodIn wsX8_news (wsV RX8 77 RX1 yX1_lodges wsX1_lodges) := goodIn_app (goodIn_of _ (by decide +kernel)) ggX8_news_X1_lodges
set_option maxRecDepth 20000 in
theorem ggX8_news_X1_bringNews : GoodIn wsX8_news wsX1_bringNews := goodIn_r _ [12, 13, 14, 15, 4, 5, 6, 7, 8, 16, 17, 18, 19, 20, 21, 22, 23, 24, 25, 35, 36, 37, 38, 39, 40, 41, 42, 43, 44, 45] (by decide +kernel) (by decide +kernel)
set_option maxRecDepth 20000 in
theorem gX8_news_X1_bringNews : GoodIn wsX8_news (wsV RX8 130 RX1 yX1_bringNews wsX1_bringNews) := goodIn_app (goodIn_of _ (by decide +kernel)) ggX8_news_X1_bringNews
theorem dX8_news_0 : decode cX8_news 0 = .ok (.aload_n 0, 1) := by decide +kernel
theorem dX8_news_1 : decode cX8_news 1 = .ok (.getfield 10, 3) := by decide +kernel
theorem dX8_news_4 : decode cX8_news 4 = .ok (.iload_n 1, 1) := by decide +kernel
theorem dX8_news_5 : decode cX8_news 5 = .ok (.invokevirtual 77, 3) := by decide +kernel
theorem dX8_news_8 : decode cX8_news 8 = .ok (.ifCond .ne 6, 3) := by decide +kernel
theorem dX8_news_11 : decode cX8_news 11 = .ok (.bipush (-2), 2) := by decide +kernel
theorem dX8_news_13 : decode cX8_news 13 = .ok (.ireturn, 1) := by decide +kernel
theorem dX8_news_14 : decode cX8_news 14 = .ok (.aload_n 0, 1) := by decide +kernel
theorem dX8_news_15 : decode cX8_news 15 = .ok (.getfield 10, 3) := by decide +kernel
theorem dX8_news_18 : decode cX8_news 18 = .ok (.getfield 126, 3) := by decide +kernel
theorem dX8_news_21 : decode cX8_news 21 = .ok (.iload_n 1, 1) := by decide +kernel
theorem dX8_news_22 : decode cX8_news 22 = .ok (.iaload, 1) := by decide +kernel
theorem dX8_news_23 : decode cX8_news 23 = .ok (.istore_n 2, 1) := by decide +kernel
theorem dX8_news_24 : decode cX8_news 24 = .ok (.aload_n 0, 1) := by decide +kernel
theorem dX8_news_25 : decode cX8_news 25 = .ok (.getfield 10, 3) := by decide +kernel
theorem dX8_news_28 : decode cX8_news 28 = .ok (.iload_n 1, 1) := by decide +kernel
theorem dX8_news_29 : decode cX8_news 29 = .ok (.invokevirtual 130, 3) := by decide +kernel
theorem dX8_news_32 : decode cX8_news 32 = .ok (.iload_n 2, 1) := by decide +kernel
theorem dX8_news_33 : decode cX8_news 33 = .ok (.ireturn, 1) := by decide +kernel
set_option maxRecDepth 20000 in
theorem ggX8_run_X1_lodges : GoodIn wsX8_run wsX1_lodges := goodIn_r _ [11, 12, 140, 141, 142, 143, 144, 145, 146, 147, 148, 149, 150] (by decide +kernel) (by decide +kernel)
set_option maxRecDepth 20000 in
theorem gX8_run_X1_lodges : GoodIn wsX8_run (wsV RX8 77 RX1 yX1_lodges wsX1_lodges) := goodIn_app (goodIn_of _ (by decide +kernel)) ggX8_run_X1_lodges
set_option maxRecDepth 20000 in
theorem ggX8_run_X8_isCup : GoodIn wsX8_run wsX8_isCup := goodIn_r _ [16] (by decide +kernel) (by decide +kernel)
set_option maxRecDepth 20000 in
theorem gX8_run_X8_isCup : GoodIn wsX8_run (va_wsS RX8 134 yX8_isCup wsX8_isCup) := goodIn_app (goodIn_of _ (by decide +kernel)) ggX8_run_X8_isCup
set_option maxRecDepth 20000 in
theorem ggX8_run_X1_takeFrom : GoodIn wsX8_run wsX1_takeFrom := goodIn_r _ [20, 21, 22, 23, 12, 24, 25, 26, 27, 28, 29, 30, 31, 32, 33, 34, 140, 141, 142, 143, 144, 145, 146, 147, 148, 149, 150] (by decide +kernel) (by decide +kernel)
set_option maxRecDepth 20000 in
theorem gX8_run_X1_takeFrom : GoodIn wsX8_run (wsV RX8 137 RX1 yX1_takeFrom wsX1_takeFrom) := goodIn_app (goodIn_of _ (by decide +kernel)) ggX8_run_X1_takeFrom
set_option maxRecDepth 20000 in
theorem ggX8_run_X3_pass : GoodIn wsX8_run wsX3_pass := goodIn_r _ [39, 40, 41, 42, 43, 44, 38, 45, 46, 47, 48, 49, 50, 51, 52, 53, 54, 55, 56, 57, 58, 59, 60, 61, 62, 63, 64, 8, 9, 10, 11, 12, 65, 66, 67, 68, 69, 70, 71, 72, 73, 74, 75, 76, 77, 78, 79, 80, 81, 82, 83, 84, 85, 86, 87, 88, 89, 90, 91, 92, 93, 94, 95, 96, 97, 98, 99, 100, 101, 102, 15, 103, 104, 105, 106, 107, 108, 109, 110, 111, 112, 113, 114, 115, 116, 117, 118, 119, 120, 121, 122, 14, 16, 123, 124, 125, 126, 127, 128, 129, 130, 140, 141, 142, 143, 144, 145, 146, 147, 148, 149, 150, 151, 152, 153, 154, 155, 156, 157] (by decide +kernel) (by decide +kernel)
set_option maxRecDepth 20000 in
theorem gX8_run_X3_pass : GoodIn wsX8_run (wsV RX8 122 RX3 yX3_pass wsX3_pass) := goodIn_app (goodIn_of _ (by decide +kernel)) ggX8_run_X3_pass
theorem dX8_run_0 : decode cX8_run 0 = .ok (.aload_n 0, 1) := by decide +kernel
theorem dX8_run_1 : decode cX8_run 1 = .ok (.getfield 10, 3) := by decide +kernel
theorem dX8_run_4 : decode cX8_run 4 = .ok (.iload_n 1, 1) := by decide +kernel
theorem dX8_run_5 : decode cX8_run 5 = .ok (.invokevirtual 77, 3) := by decide +kernel
theorem dX8_run_8 : decode cX8_run 8 = .ok (.ifCond .eq 31, 3) := by decide +kernel
theorem dX8_run_11 : decode cX8_run 11 = .ok (.iload_n 2, 1) := by decide +kernel
theorem dX8_run_12 : decode cX8_run 12 = .ok (.invokestatic 134, 3) := by decide +kernel
theorem dX8_run_15 : decode cX8_run 15 = .ok (.ifCond .eq 24, 3) := by decide +kernel
theorem dX8_run_18 : decode cX8_run 18 = .ok (.iload_n 3, 1) := by decide +kernel
theorem dX8_run_19 : decode cX8_run 19 = .ok (.ifCond .lt 20, 3) := by decide +kernel
theorem dX8_run_22 : decode cX8_run 22 = .ok (.iload_n 3, 1) := by decide +kernel
theorem dX8_run_23 : decode cX8_run 23 = .ok (.bipush 40, 2) := by decide +kernel
theorem dX8_run_25 : decode cX8_run 25 = .ok (.if_icmp .gt 14, 3) := by decide +kernel
theorem dX8_run_28 : decode cX8_run 28 = .ok (.iload 4, 2) := by decide +kernel
theorem dX8_run_30 : decode cX8_run 30 = .ok (.ifCond .lt 9, 3) := by decide +kernel
theorem dX8_run_33 : decode cX8_run 33 = .ok (.iload 4, 2) := by decide +kernel
theorem dX8_run_35 : decode cX8_run 35 = .ok (.iconst 2, 1) := by decide +kernel
theorem dX8_run_36 : decode cX8_run 36 = .ok (.if_icmp .le 6, 3) := by decide +kernel
theorem dX8_run_39 : decode cX8_run 39 = .ok (.bipush (-2), 2) := by decide +kernel
theorem dX8_run_41 : decode cX8_run 41 = .ok (.ireturn, 1) := by decide +kernel
theorem dX8_run_42 : decode cX8_run 42 = .ok (.aload_n 0, 1) := by decide +kernel
theorem dX8_run_43 : decode cX8_run 43 = .ok (.getfield 16, 3) := by decide +kernel
theorem dX8_run_46 : decode cX8_run 46 = .ok (.aload_n 0, 1) := by decide +kernel
theorem dX8_run_47 : decode cX8_run 47 = .ok (.getfield 10, 3) := by decide +kernel
theorem dX8_run_50 : decode cX8_run 50 = .ok (.invokevirtual 137, 3) := by decide +kernel
theorem dX8_run_53 : decode cX8_run 53 = .ok (.iconst 0, 1) := by decide +kernel
theorem dX8_run_54 : decode cX8_run 54 = .ok (.istore 5, 2) := by decide +kernel
theorem dX8_run_56 : decode cX8_run 56 = .ok (.iconst 0, 1) := by decide +kernel
theorem dX8_run_57 : decode cX8_run 57 = .ok (.istore 6, 2) := by decide +kernel
theorem dX8_run_59 : decode cX8_run 59 = .ok (.iload 6, 2) := by decide +kernel
theorem dX8_run_61 : decode cX8_run 61 = .ok (.iload_n 3, 1) := by decide +kernel
theorem dX8_run_62 : decode cX8_run 62 = .ok (.if_icmp .ge 29, 3) := by decide +kernel
theorem dX8_run_65 : decode cX8_run 65 = .ok (.iload 5, 2) := by decide +kernel
theorem dX8_run_67 : decode cX8_run 67 = .ok (.aload_n 0, 1) := by decide +kernel
theorem dX8_run_68 : decode cX8_run 68 = .ok (.getfield 39, 3) := by decide +kernel
theorem dX8_run_71 : decode cX8_run 71 = .ok (.aload_n 0, 1) := by decide +kernel
theorem dX8_run_72 : decode cX8_run 72 = .ok (.getfield 32, 3) := by decide +kernel
theorem dX8_run_75 : decode cX8_run 75 = .ok (.aload_n 0, 1) := by decide +kernel
theorem dX8_run_76 : decode cX8_run 76 = .ok (.getfield 16, 3) := by decide +kernel
theorem dX8_run_79 : decode cX8_run 79 = .ok (.invokevirtual 122, 3) := by decide +kernel
theorem dX8_run_82 : decode cX8_run 82 = .ok (.iadd, 1) := by decide +kernel
theorem dX8_run_83 : decode cX8_run 83 = .ok (.istore 5, 2) := by decide +kernel
theorem dX8_run_85 : decode cX8_run 85 = .ok (.iinc 6 1, 3) := by decide +kernel
theorem dX8_run_88 : decode cX8_run 88 = .ok (.goto (-29), 3) := by decide +kernel
theorem dX8_run_91 : decode cX8_run 91 = .ok (.iload 4, 2) := by decide +kernel
theorem dX8_run_93 : decode cX8_run 93 = .ok (.ifCond .ne 13, 3) := by decide +kernel
theorem dX8_run_96 : decode cX8_run 96 = .ok (.aload_n 0, 1) := by decide +kernel
theorem dX8_run_97 : decode cX8_run 97 = .ok (.getfield 16, 3) := by decide +kernel
theorem dX8_run_100 : decode cX8_run 100 = .ok (.getfield 126, 3) := by decide +kernel
theorem dX8_run_103 : decode cX8_run 103 = .ok (.iload_n 1, 1) := by decide +kernel
theorem dX8_run_104 : decode cX8_run 104 = .ok (.iaload, 1) := by decide +kernel
theorem dX8_run_105 : decode cX8_run 105 = .ok (.ireturn, 1) := by decide +kernel
theorem dX8_run_106 : decode cX8_run 106 = .ok (.iload 4, 2) := by decide +kernel
theorem dX8_run_108 : decode cX8_run 108 = .ok (.iconst 1, 1) := by decide +kernel
theorem dX8_run_109 : decode cX8_run 109 = .ok (.if_icmp .ne 8, 3) := by decide +kernel
theorem dX8_run_112 : decode cX8_run 112 = .ok (.iload 5, 2) := by decide +kernel
theorem dX8_run_114 : decode cX8_run 114 = .ok (.goto 12, 3) := by decide +kernel
theorem dX8_run_117 : decode cX8_run 117 = .ok (.aload_n 0, 1) := by decide +kernel
theorem dX8_run_118 : decode cX8_run 118 = .ok (.getfield 16, 3) := by decide +kernel
