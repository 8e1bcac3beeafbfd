theorem dX9_passes_94 : decode cX9_passes 94 = .ok (.isub, 1) := by decide +kernel
theorem dX9_passes_95 : decode cX9_passes 95 = .ok (.iconst 0, 1) := by decide +kernel
theorem dX9_passes_96 : decode cX9_passes 96 = .ok (.iload_n 3, 1) := by decide +kernel
theorem dX9_passes_97 : decode cX9_passes 97 = .ok (.invokestatic 251, 3) := by decide +kernel
theorem dX9_passes_100 : decode cX9_passes 100 = .ok (.goto 4, 3) := by decide +kernel
theorem dX9_passes_103 : decode cX9_passes 103 = .ok (.iconst 0, 1) := by decide +kernel
theorem dX9_passes_104 : decode cX9_passes 104 = .ok (.istore 5, 2) := by decide +kernel
theorem dX9_passes_106 : decode cX9_passes 106 = .ok (.aload_n 0, 1) := by decide +kernel
theorem dX9_passes_107 : decode cX9_passes 107 = .ok (.getfield 39, 3) := by decide +kernel
theorem dX9_passes_110 : decode cX9_passes 110 = .ok (.bipush 6, 2) := by decide +kernel
theorem dX9_passes_112 : decode cX9_passes 112 = .ok (.iload_n 2, 1) := by decide +kernel
theorem dX9_passes_113 : decode cX9_passes 113 = .ok (.imul, 1) := by decide +kernel
theorem dX9_passes_114 : decode cX9_passes 114 = .ok (.iload 4, 2) := by decide +kernel
theorem dX9_passes_116 : decode cX9_passes 116 = .ok (.iadd, 1) := by decide +kernel
theorem dX9_passes_117 : decode cX9_passes 117 = .ok (.iload 5, 2) := by decide +kernel
theorem dX9_passes_119 : decode cX9_passes 119 = .ok (.iastore, 1) := by decide +kernel
theorem dX9_passes_120 : decode cX9_passes 120 = .ok (.aload_n 0, 1) := by decide +kernel
theorem dX9_passes_121 : decode cX9_passes 121 = .ok (.getfield 29, 3) := by decide +kernel
theorem dX9_passes_124 : decode cX9_passes 124 = .ok (.iconst 3, 1) := by decide +kernel
theorem dX9_passes_125 : decode cX9_passes 125 = .ok (.iload 4, 2) := by decide +kernel
theorem dX9_passes_127 : decode cX9_passes 127 = .ok (.imul, 1) := by decide +kernel
theorem dX9_passes_128 : decode cX9_passes 128 = .ok (.iconst 2, 1) := by decide +kernel
theorem dX9_passes_129 : decode cX9_passes 129 = .ok (.iadd, 1) := by decide +kernel
theorem dX9_passes_130 : decode cX9_passes 130 = .ok (.dup2, 1) := by decide +kernel
theorem dX9_passes_131 : decode cX9_passes 131 = .ok (.iaload, 1) := by decide +kernel
theorem dX9_passes_132 : decode cX9_passes 132 = .ok (.iload 5, 2) := by decide +kernel
theorem dX9_passes_134 : decode cX9_passes 134 = .ok (.iadd, 1) := by decide +kernel
theorem dX9_passes_135 : decode cX9_passes 135 = .ok (.iastore, 1) := by decide +kernel
theorem dX9_passes_136 : decode cX9_passes 136 = .ok (.iload_n 3, 1) := by decide +kernel
theorem dX9_passes_137 : decode cX9_passes 137 = .ok (.iload 5, 2) := by decide +kernel
theorem dX9_passes_139 : decode cX9_passes 139 = .ok (.isub, 1) := by decide +kernel
theorem dX9_passes_140 : decode cX9_passes 140 = .ok (.istore_n 3, 1) := by decide +kernel
theorem dX9_passes_141 : decode cX9_passes 141 = .ok (.iload_n 1, 1) := by decide +kernel
theorem dX9_passes_142 : decode cX9_passes 142 = .ok (.iload 5, 2) := by decide +kernel
theorem dX9_passes_144 : decode cX9_passes 144 = .ok (.iadd, 1) := by decide +kernel
theorem dX9_passes_145 : decode cX9_passes 145 = .ok (.istore_n 1, 1) := by decide +kernel
theorem dX9_passes_146 : decode cX9_passes 146 = .ok (.iinc 4 1, 3) := by decide +kernel
theorem dX9_passes_149 : decode cX9_passes 149 = .ok (.goto (-92), 3) := by decide +kernel
theorem dX9_passes_152 : decode cX9_passes 152 = .ok (.iinc 2 1, 3) := by decide +kernel
theorem dX9_passes_155 : decode cX9_passes 155 = .ok (.goto (-126), 3) := by decide +kernel
theorem dX9_passes_158 : decode cX9_passes 158 = .ok (.iconst 0, 1) := by decide +kernel
theorem dX9_passes_159 : decode cX9_passes 159 = .ok (.istore_n 2, 1) := by decide +kernel
theorem dX9_passes_160 : decode cX9_passes 160 = .ok (.iload_n 2, 1) := by decide +kernel
theorem dX9_passes_161 : decode cX9_passes 161 = .ok (.aload_n 0, 1) := by decide +kernel
theorem dX9_passes_162 : decode cX9_passes 162 = .ok (.getfield 77, 3) := by decide +kernel
theorem dX9_passes_165 : decode cX9_passes 165 = .ok (.if_icmp .ge 42, 3) := by decide +kernel
theorem dX9_passes_168 : decode cX9_passes 168 = .ok (.aload_n 0, 1) := by decide +kernel
theorem dX9_passes_169 : decode cX9_passes 169 = .ok (.getfield 26, 3) := by decide +kernel
theorem dX9_passes_172 : decode cX9_passes 172 = .ok (.iconst 3, 1) := by decide +kernel
theorem dX9_passes_173 : decode cX9_passes 173 = .ok (.iload_n 2, 1) := by decide +kernel
theorem dX9_passes_174 : decode cX9_passes 174 = .ok (.imul, 1) := by decide +kernel
theorem dX9_passes_175 : decode cX9_passes 175 = .ok (.iconst 1, 1) := by decide +kernel
theorem dX9_passes_176 : decode cX9_passes 176 = .ok (.iadd, 1) := by decide +kernel
theorem dX9_passes_177 : decode cX9_passes 177 = .ok (.aload_n 0, 1) := by decide +kernel
theorem dX9_passes_178 : decode cX9_passes 178 = .ok (.getfield 26, 3) := by decide +kernel
theorem dX9_passes_181 : decode cX9_passes 181 = .ok (.iconst 3, 1) := by decide +kernel
theorem dX9_passes_182 : decode cX9_passes 182 = .ok (.iload_n 2, 1) := by decide +kernel
theorem dX9_passes_183 : decode cX9_passes 183 = .ok (.imul, 1) := by decide +kernel
theorem dX9_passes_184 : decode cX9_passes 184 = .ok (.iconst 1, 1) := by decide +kernel
theorem dX9_passes_185 : decode cX9_passes 185 = .ok (.iadd, 1) := by decide +kernel
theorem dX9_passes_186 : decode cX9_passes 186 = .ok (.iaload, 1) := by decide +kernel
theorem dX9_passes_187 : decode cX9_passes 187 = .ok (.aload_n 0, 1) := by decide +kernel
theorem dX9_passes_188 : decode cX9_passes 188 = .ok (.getfield 42, 3) := by decide +kernel
theorem dX9_passes_191 : decode cX9_passes 191 = .ok (.iload_n 2, 1) := by decide +kernel
theorem dX9_passes_192 : decode cX9_passes 192 = .ok (.iaload, 1) := by decide +kernel
theorem dX9_passes_193 : decode cX9_passes 193 = .ok (.isub, 1) := by decide +kernel
theorem dX9_passes_194 : decode cX9_passes 194 = .ok (.iconst 0, 1) := by decide +kernel
theorem dX9_passes_195 : decode cX9_passes 195 = .ok (.bipush 99, 2) := by decide +kernel
theorem dX9_passes_197 : decode cX9_passes 197 = .ok (.invokestatic 251, 3) := by decide +kernel
theorem dX9_passes_200 : decode cX9_passes 200 = .ok (.iastore, 1) := by decide +kernel
theorem dX9_passes_201 : decode cX9_passes 201 = .ok (.iinc 2 1, 3) := by decide +kernel
theorem dX9_passes_204 : decode cX9_passes 204 = .ok (.goto (-44), 3) := by decide +kernel
theorem dX9_passes_207 : decode cX9_passes 207 = .ok (.aload_n 0, 1) := by decide +kernel
theorem dX9_passes_208 : decode cX9_passes 208 = .ok (.dup, 1) := by decide +kernel
theorem dX9_passes_209 : decode cX9_passes 209 = .ok (.getfield 111, 3) := by decide +kernel
theorem dX9_passes_212 : decode cX9_passes 212 = .ok (.iconst 1, 1) := by decide +kernel
theorem dX9_passes_213 : decode cX9_passes 213 = .ok (.iadd, 1) := by decide +kernel
theorem dX9_passes_214 : decode cX9_passes 214 = .ok (.putfield 111, 3) := by decide +kernel
theorem dX9_passes_217 : decode cX9_passes 217 = .ok (.iload_n 1, 1) := by decide +kernel
theorem dX9_passes_218 : decode cX9_passes 218 = .ok (.ireturn, 1) := by decide +kernel
theorem dX9_night_0 : decode cX9_night 0 = .ok (.aload_n 0, 1) := by decide +kernel
theorem dX9_night_1 : decode cX9_night 1 = .ok (.getfield 111, 3) := by decide +kernel
theorem dX9_night_4 : decode cX9_night 4 = .ok (.sipush 999, 3) := by decide +kernel
theorem dX9_night_7 : decode cX9_night 7 = .ok (.if_icmp .ne 8, 3) := by decide +kernel
theorem dX9_night_10 : decode cX9_night 10 = .ok (.bipush (-3), 2) := by decide +kernel
theorem dX9_night_12 : decode cX9_night 12 = .ok (.goto 7, 3) := by decide +kernel
theorem dX9_night_15 : decode cX9_night 15 = .ok (.aload_n 0, 1) := by decide +kernel
theorem dX9_night_16 : decode cX9_night 16 = .ok (.invokevirtual 278, 3) := by decide +kernel
theorem dX9_night_19 : decode cX9_night 19 = .ok (.ireturn, 1) := by decide +kernel
theorem dX9_tells1_0 : decode cX9_tells1 0 = .ok (.aload_n 0, 1) := by decide +kernel
theorem dX9_tells1_1 : decode cX9_tells1 1 = .ok (.getfield 26, 3) := by decide +kernel
theorem dX9_tells1_4 : decode cX9_tells1 4 = .ok (.iconst 3, 1) := by decide +kernel
theorem dX9_tells1_5 : decode cX9_tells1 5 = .ok (.iload_n 1, 1) := by decide +kernel
theorem dX9_tells1_6 : decode cX9_tells1 6 = .ok (.imul, 1) := by decide +kernel
theorem dX9_tells1_7 : decode cX9_tells1 7 = .ok (.iconst 1, 1) := by decide +kernel
theorem dX9_tells1_8 : decode cX9_tells1 8 = .ok (.iadd, 1) := by decide +kernel
theorem dX9_tells1_9 : decode cX9_tells1 9 = .ok (.iaload, 1) := by decide +kernel
theorem dX9_tells1_10 : decode cX9_tells1 10 = .ok (.istore_n 2, 1) := by decide +kernel
theorem dX9_tells1_11 : decode cX9_tells1 11 = .ok (.aload_n 0, 1) := by decide +kernel
theorem dX9_tells1_12 : decode cX9_tells1 12 = .ok (.getfield 26, 3) := by decide +kernel
theorem dX9_tells1_15 : decode cX9_tells1 15 = .ok (.iconst 3, 1) := by decide +kernel
theorem dX9_tells1_16 : decode cX9_tells1 16 = .ok (.iload_n 1, 1) := by decide +kernel
theorem dX9_tells1_17 : decode cX9_tells1 17 = .ok (.imul, 1) := by decide +kernel
theorem dX9_tells1_18 : decode cX9_tells1 18 = .ok (.iconst 2, 1) := by decide +kernel
theorem dX9_tells1_19 : decode cX9_tells1 19 = .ok (.iadd, 1) := by decide +kernel
theorem dX9_tells1_20 : decode cX9_tells1 20 = .ok (.aload_n 0, 1) := by decide +kernel
theorem dX9_tells1_21 : decode cX9_tells1 21 = .ok (.getfield 26, 3) := by decide +kernel
theorem dX9_tells1_24 : decode cX9_tells1 24 = .ok (.iconst 3, 1) := by decide +kernel
theorem dX9_tells1_25 : decode cX9_tells1 25 = .ok (.iload_n 1, 1) := by decide +kernel
theorem dX9_tells1_26 : decode cX9_tells1 26 = .ok (.imul, 1) := by decide +kernel
theorem dX9_tells1_27 : decode cX9_tells1 27 = .ok (.iconst 2, 1) := by decide +kernel
theorem dX9_tells1_28 : decode cX9_tells1 28 = .ok (.iadd, 1) := by decide +kernel
theorem dX9_tells1_29 : decode cX9_tells1 29 = .ok (.iaload, 1) := by decide +kernel
theorem dX9_tells1_30 : decode cX9_tells1 30 = .ok (.iconst 1, 1) := by decide +kernel
theorem dX9_tells1_31 : decode cX9_tells1 31 = .ok (.iadd, 1) := by decide +kernel
theorem dX9_tells1_32 : decode cX9_tells1 32 = .ok (.iconst 0, 1) := by decide +kernel
theorem dX9_tells1_33 : decode cX9_tells1 33 = .ok (.bipush 99, 2) := by decide +kernel
theorem dX9_tells1_35 : decode cX9_tells1 35 = .ok (.invokestatic 251, 3) := by decide +kernel
theorem dX9_tells1_38 : decode cX9_tells1 38 = .ok (.iastore, 1) := by decide +kernel
theorem dX9_tells1_39 : decode cX9_tells1 39 = .ok (.aload_n 0, 1) := by decide +kernel
theorem dX9_tells1_40 : decode cX9_tells1 40 = .ok (.getfield 26, 3) := by decide +kernel
theorem dX9_tells1_43 : decode cX9_tells1 43 = .ok (.iconst 3, 1) := by decide +kernel
theorem dX9_tells1_44 : decode cX9_tells1 44 = .ok (.iload_n 1, 1) := by decide +kernel
theorem dX9_tells1_45 : decode cX9_tells1 45 = .ok (.imul, 1) := by decide +kernel
theorem dX9_tells1_46 : decode cX9_tells1 46 = .ok (.iconst 1, 1) := by decide +kernel
theorem dX9_tells1_47 : decode cX9_tells1 47 = .ok (.iadd, 1) := by decide +kernel
theorem dX9_tells1_48 : decode cX9_tells1 48 = .ok (.iconst 0, 1) := by decide +kernel
theorem dX9_tells1_49 : decode cX9_tells1 49 = .ok (.iastore, 1) := by decide +kernel
theorem dX9_tells1_50 : decode cX9_tells1 50 = .ok (.iload_n 2, 1) := by decide +kernel
theorem dX9_tells1_51 : decode cX9_tells1 51 = .ok (.ireturn, 1) := by decide +kernel
theorem dX9_news_0 : decode cX9_news 0 = .ok (.aload_n 0, 1) := by decide +kernel
theorem dX9_news_1 : decode cX9_news 1 = .ok (.iload_n 1, 1) := by decide +kernel
theorem dX9_news_2 : decode cX9_news 2 = .ok (.invokevirtual 90, 3) := by decide +kernel
theorem dX9_news_5 : decode cX9_news 5 = .ok (.ifCond .eq 11, 3) := by decide +kernel
theorem dX9_news_8 : decode cX9_news 8 = .ok (.aload_n 0, 1) := by decide +kernel
theorem dX9_news_9 : decode cX9_news 9 = .ok (.iload_n 1, 1) := by decide +kernel
theorem dX9_news_10 : decode cX9_news 10 = .ok (.invokevirtual 281, 3) := by decide +kernel
theorem dX9_news_13 : decode cX9_news 13 = .ok (.goto 5, 3) := by decide +kernel
theorem dX9_news_16 : decode cX9_news 16 = .ok (.bipush (-2), 2) := by decide +kernel
theorem dX9_news_18 : decode cX9_news 18 = .ok (.ireturn, 1) := by decide +kernel
theorem dX9_laysAside_0 : decode cX9_laysAside 0 = .ok (.iconst 0, 1) := by decide +kernel
theorem dX9_laysAside_1 : decode cX9_laysAside 1 = .ok (.istore_n 1, 1) := by decide +kernel
theorem dX9_laysAside_2 : decode cX9_laysAside 2 = .ok (.iload_n 1, 1) := by decide +kernel
theorem dX9_laysAside_3 : decode cX9_laysAside 3 = .ok (.bipush 15, 2) := by decide +kernel
theorem dX9_laysAside_5 : decode cX9_laysAside 5 = .ok (.if_icmp .ge 21, 3) := by decide +kernel
theorem dX9_laysAside_8 : decode cX9_laysAside 8 = .ok (.aload_n 0, 1) := by decide +kernel
theorem dX9_laysAside_9 : decode cX9_laysAside 9 = .ok (.getfield 45, 3) := by decide +kernel
theorem dX9_laysAside_12 : decode cX9_laysAside 12 = .ok (.iload_n 1, 1) := by decide +kernel
theorem dX9_laysAside_13 : decode cX9_laysAside 13 = .ok (.aload_n 0, 1) := by decide +kernel
theorem dX9_laysAside_14 : decode cX9_laysAside 14 = .ok (.getfield 26, 3) := by decide +kernel
theorem dX9_laysAside_17 : decode cX9_laysAside 17 = .ok (.iload_n 1, 1) := by decide +kernel
theorem dX9_laysAside_18 : decode cX9_laysAside 18 = .ok (.iaload, 1) := by decide +kernel
theorem dX9_laysAside_19 : decode cX9_laysAside 19 = .ok (.iastore, 1) := by decide +kernel
theorem dX9_laysAside_20 : decode cX9_laysAside 20 = .ok (.iinc 1 1, 3) := by decide +kernel
theorem dX9_laysAside_23 : decode cX9_laysAside 23 = .ok (.goto (-21), 3) := by decide +kernel
theorem dX9_laysAside_26 : decode cX9_laysAside 26 = .ok (.iconst 0, 1) := by decide +kernel
theorem dX9_laysAside_27 : decode cX9_laysAside 27 = .ok (.istore_n 1, 1) := by decide +kernel
theorem dX9_laysAside_28 : decode cX9_laysAside 28 = .ok (.iload_n 1, 1) := by decide +kernel
theorem dX9_laysAside_29 : decode cX9_laysAside 29 = .ok (.bipush 18, 2) := by decide +kernel
theorem dX9_laysAside_31 : decode cX9_laysAside 31 = .ok (.if_icmp .ge 24, 3) := by decide +kernel
theorem dX9_laysAside_34 : decode cX9_laysAside 34 = .ok (.aload_n 0, 1) := by decide +kernel
theorem dX9_laysAside_35 : decode cX9_laysAside 35 = .ok (.getfield 45, 3) := by decide +kernel
theorem dX9_laysAside_38 : decode cX9_laysAside 38 = .ok (.bipush 15, 2) := by decide +kernel
theorem dX9_laysAside_40 : decode cX9_laysAside 40 = .ok (.iload_n 1, 1) := by decide +kernel
theorem dX9_laysAside_41 : decode cX9_laysAside 41 = .ok (.iadd, 1) := by decide +kernel
theorem dX9_laysAside_42 : decode cX9_laysAside 42 = .ok (.aload_n 0, 1) := by decide +kernel
theorem dX9_laysAside_43 : decode cX9_laysAside 43 = .ok (.getfield 29, 3) := by decide +kernel
theorem dX9_laysAside_46 : decode cX9_laysAside 46 = .ok (.iload_n 1, 1) := by decide +kernel
theorem dX9_laysAside_47 : decode cX9_laysAside 47 = .ok (.iaload, 1) := by decide +kernel
theorem dX9_laysAside_48 : decode cX9_laysAside 48 = .ok (.iastore, 1) := by decide +kernel
theorem dX9_laysAside_49 : decode cX9_laysAside 49 = .ok (.iinc 1 1, 3) := by decide +kernel
theorem dX9_laysAside_52 : decode cX9_laysAside 52 = .ok (.goto (-24), 3) := by decide +kernel
theorem dX9_laysAside_55 : decode cX9_laysAside 55 = .ok (.aload_n 0, 1) := by decide +kernel
theorem dX9_laysAside_56 : decode cX9_laysAside 56 = .ok (.getfield 45, 3) := by decide +kernel
theorem dX9_laysAside_59 : decode cX9_laysAside 59 = .ok (.bipush 33, 2) := by decide +kernel
theorem dX9_laysAside_61 : decode cX9_laysAside 61 = .ok (.aload_n 0, 1) := by decide +kernel
theorem dX9_laysAside_62 : decode cX9_laysAside 62 = .ok (.getfield 111, 3) := by decide +kernel
theorem dX9_laysAside_65 : decode cX9_laysAside 65 = .ok (.iastore, 1) := by decide +kernel
theorem dX9_laysAside_66 : decode cX9_laysAside 66 = .ok (.return_, 1) := by decide +kernel
theorem dX9_laysBack_0 : decode cX9_laysBack 0 = .ok (.iconst 0, 1) := by decide +kernel
theorem dX9_laysBack_1 : decode cX9_laysBack 1 = .ok (.istore_n 1, 1) := by decide +kernel
theorem dX9_laysBack_2 : decode cX9_laysBack 2 = .ok (.iload_n 1, 1) := by decide +kernel
theorem dX9_laysBack_3 : decode cX9_laysBack 3 = .ok (.bipush 15, 2) := by decide +kernel
theorem dX9_laysBack_5 : decode cX9_laysBack 5 = .ok (.if_icmp .ge 21, 3) := by decide +kernel
theorem dX9_laysBack_8 : decode cX9_laysBack 8 = .ok (.aload_n 0, 1) := by decide +kernel
theorem dX9_laysBack_9 : decode cX9_laysBack 9 = .ok (.getfield 26, 3) := by decide +kernel
theorem dX9_laysBack_12 : decode cX9_laysBack 12 = .ok (.iload_n 1, 1) := by decide +kernel
theorem dX9_laysBack_13 : decode cX9_laysBack 13 = .ok (.aload_n 0, 1) := by decide +kernel
theorem dX9_laysBack_14 : decode cX9_laysBack 14 = .ok (.getfield 45, 3) := by decide +kernel
theorem dX9_laysBack_17 : decode cX9_laysBack 17 = .ok (.iload_n 1, 1) := by decide +kernel
theorem dX9_laysBack_18 : decode cX9_laysBack 18 = .ok (.iaload, 1) := by decide +kernel
theorem dX9_laysBack_19 : decode cX9_laysBack 19 = .ok (.iastore, 1) := by decide +kernel
theorem dX9_laysBack_20 : decode cX9_laysBack 20 = .ok (.iinc 1 1, 3) := by decide +kernel
theorem dX9_laysBack_23 : decode cX9_laysBack 23 = .ok (.goto (-21), 3) := by decide +kernel
theorem dX9_laysBack_26 : decode cX9_laysBack 26 = .ok (.iconst 0, 1) := by decide +kernel
theorem dX9_laysBack_27 : decode cX9_laysBack 27 = .ok (.istore_n 1, 1) := by decide +kernel
theorem dX9_laysBack_28 : decode cX9_laysBack 28 = .ok (.iload_n 1, 1) := by decide +kernel
theorem dX9_laysBack_29 : decode cX9_laysBack 29 = .ok (.bipush 18, 2) := by decide +kernel
theorem dX9_laysBack_31 : decode cX9_laysBack 31 = .ok (.if_icmp .ge 24, 3) := by decide +kernel
theorem dX9_laysBack_34 : decode cX9_laysBack 34 = .ok (.aload_n 0, 1) := by decide +kernel
theorem dX9_laysBack_35 : decode cX9_laysBack 35 = .ok (.getfield 29, 3) := by decide +kernel
theorem dX9_laysBack_38 : decode cX9_laysBack 38 = .ok (.iload_n 1, 1) := by decide +kernel
theorem dX9_laysBack_39 : decode cX9_laysBack 39 = .ok (.aload_n 0, 1) := by decide +kernel
theorem dX9_laysBack_40 : decode cX9_laysBack 40 = .ok (.getfield 45, 3) := by decide +kernel
theorem dX9_laysBack_43 : decode cX9_laysBack 43 = .ok (.bipush 15, 2) := by decide +kernel
theorem dX9_laysBack_45 : decode cX9_laysBack 45 = .ok (.iload_n 1, 1) := by decide +kernel
theorem dX9_laysBack_46 : decode cX9_laysBack 46 = .ok (.iadd, 1) := by decide +kernel
theorem dX9_laysBack_47 : decode cX9_laysBack 47 = .ok (.iaload, 1) := by decide +kernel
theorem dX9_laysBack_48 : decode cX9_laysBack 48 = .ok (.iastore, 1) := by decide +kernel
theorem dX9_laysBack_49 : decode cX9_laysBack 49 = .ok (.iinc 1 1, 3) := by decide +kernel
theorem dX9_laysBack_52 : decode cX9_laysBack 52 = .ok (.goto (-24), 3) := by decide +kernel
theorem dX9_laysBack_55 : decode cX9_laysBack 55 = .ok (.aload_n 0, 1) := by decide +kernel
theorem dX9_laysBack_56 : decode cX9_laysBack 56 = .ok (.aload_n 0, 1) := by decide +kernel
theorem dX9_laysBack_57 : decode cX9_laysBack 57 = .ok (.getfield 45, 3) := by decide +kernel
theorem dX9_laysBack_60 : decode cX9_laysBack 60 = .ok (.bipush 33, 2) := by decide +kernel
theorem dX9_laysBack_62 : decode cX9_laysBack 62 = .ok (.iaload, 1) := by decide +kernel
theorem dX9_laysBack_63 : decode cX9_laysBack 63 = .ok (.putfield 111, 3) := by decide +kernel
theorem dX9_laysBack_66 : decode cX9_laysBack 66 = .ok (.return_, 1) := by decide +kernel
theorem dX9_run_0 : decode cX9_run 0 = .ok (.aload_n 0, 1) := by decide +kernel
theorem dX9_run_1 : decode cX9_run 1 = .ok (.iload_n 1, 1) := by decide +kernel
theorem dX9_run_2 : decode cX9_run 2 = .ok (.invokevirtual 90, 3) := by decide +kernel
theorem dX9_run_5 : decode cX9_run 5 = .ok (.ifCond .eq 35, 3) := by decide +kernel
theorem dX9_run_8 : decode cX9_run 8 = .ok (.iload_n 2, 1) := by decide +kernel
theorem dX9_run_9 : decode cX9_run 9 = .ok (.invokestatic 86, 3) := by decide +kernel
theorem dX9_run_12 : decode cX9_run 12 = .ok (.ifCond .eq 28, 3) := by decide +kernel
theorem dX9_run_15 : decode cX9_run 15 = .ok (.iload_n 3, 1) := by decide +kernel
theorem dX9_run_16 : decode cX9_run 16 = .ok (.i2l, 1) := by decide +kernel
theorem dX9_run_17 : decode cX9_run 17 = .ok (.lconst 0, 1) := by decide +kernel
theorem dX9_run_18 : decode cX9_run 18 = .ok (.ldc2_w 284, 3) := by decide +kernel
theorem dX9_run_21 : decode cX9_run 21 = .ok (.invokestatic 80, 3) := by decide +kernel
theorem dX9_run_24 : decode cX9_run 24 = .ok (.ifCond .eq 16, 3) := by decide +kernel
theorem dX9_run_27 : decode cX9_run 27 = .ok (.iload 4, 2) := by decide +kernel
theorem dX9_run_29 : decode cX9_run 29 = .ok (.i2l, 1) := by decide +kernel
theorem dX9_run_30 : decode cX9_run 30 = .ok (.lconst 0, 1) := by decide +kernel
theorem dX9_run_31 : decode cX9_run 31 = .ok (.ldc2_w 286, 3) := by decide +kernel
theorem dX9_run_34 : decode cX9_run 34 = .ok (.invokestatic 80, 3) := by decide +kernel
theorem dX9_run_37 : decode cX9_run 37 = .ok (.ifCond .ne 6, 3) := by decide +kernel
theorem dX9_run_40 : decode cX9_run 40 = .ok (.bipush (-2), 2) := by decide +kernel
theorem dX9_run_42 : decode cX9_run 42 = .ok (.ireturn, 1) := by decide +kernel
theorem dX9_run_43 : decode cX9_run 43 = .ok (.aload_n 0, 1) := by decide +kernel
theorem dX9_run_44 : decode cX9_run 44 = .ok (.invokevirtual 288, 3) := by decide +kernel
theorem dX9_run_47 : decode cX9_run 47 = .ok (.iconst 0, 1) := by decide +kernel
theorem dX9_run_48 : decode cX9_run 48 = .ok (.istore 5, 2) := by decide +kernel
theorem dX9_run_50 : decode cX9_run 50 = .ok (.iconst 0, 1) := by decide +kernel
theorem dX9_run_51 : decode cX9_run 51 = .ok (.istore 6, 2) := by decide +kernel
theorem dX9_run_53 : decode cX9_run 53 = .ok (.iload 6, 2) := by decide +kernel
theorem dX9_run_55 : decode cX9_run 55 = .ok (.iload_n 3, 1) := by decide +kernel
theorem dX9_run_56 : decode cX9_run 56 = .ok (.if_icmp .ge 18, 3) := by decide +kernel
theorem dX9_run_59 : decode cX9_run 59 = .ok (.iload 5, 2) := by decide +kernel
theorem dX9_run_61 : decode cX9_run 61 = .ok (.aload_n 0, 1) := by decide +kernel
theorem dX9_run_62 : decode cX9_run 62 = .ok (.invokevirtual 278, 3) := by decide +kernel
theorem dX9_run_65 : decode cX9_run 65 = .ok (.iadd, 1) := by decide +kernel
theorem dX9_run_66 : decode cX9_run 66 = .ok (.istore 5, 2) := by decide +kernel
theorem dX9_run_68 : decode cX9_run 68 = .ok (.iinc 6 1, 3) := by decide +kernel
theorem dX9_run_71 : decode cX9_run 71 = .ok (.goto (-18), 3) := by decide +kernel
theorem dX9_run_74 : decode cX9_run 74 = .ok (.iload 4, 2) := by decide +kernel
theorem dX9_run_76 : decode cX9_run 76 = .ok (.ifCond .ne 16, 3) := by decide +kernel
theorem dX9_run_79 : decode cX9_run 79 = .ok (.aload_n 0, 1) := by decide +kernel
theorem dX9_run_80 : decode cX9_run 80 = .ok (.getfield 26, 3) := by decide +kernel
theorem dX9_run_83 : decode cX9_run 83 = .ok (.iconst 3, 1) := by decide +kernel
theorem dX9_run_84 : decode cX9_run 84 = .ok (.iload_n 1, 1) := by decide +kernel
theorem dX9_run_85 : decode cX9_run 85 = .ok (.imul, 1) := by decide +kernel
theorem dX9_run_86 : decode cX9_run 86 = .ok (.iconst 1, 1) := by decide +kernel
theorem dX9_run_87 : decode cX9_run 87 = .ok (.iadd, 1) := by decide +kernel
theorem dX9_run_88 : decode cX9_run 88 = .ok (.iaload, 1) := by decide +kernel
theorem dX9_run_89 : decode cX9_run 89 = .ok (.goto 24, 3) := by decide +kernel
theorem dX9_run_92 : decode cX9_run 92 = .ok (.iload 4, 2) := by decide +kernel
theorem dX9_run_94 : decode cX9_run 94 = .ok (.iconst 1, 1) := by decide +kernel
theorem dX9_run_95 : decode cX9_run 95 = .ok (.if_icmp .ne 8, 3) := by decide +kernel
theorem dX9_run_98 : decode cX9_run 98 = .ok (.iload 5, 2) := by decide +kernel
theorem dX9_run_100 : decode cX9_run 100 = .ok (.goto 13, 3) := by decide +kernel
theorem dX9_run_103 : decode cX9_run 103 = .ok (.aload_n 0, 1) := by decide +kernel
theorem dX9_run_104 : decode cX9_run 104 = .ok (.getfield 29, 3) := by decide +kernel
theorem dX9_run_107 : decode cX9_run 107 = .ok (.iconst 3, 1) := by decide +kernel
theorem dX9_run_108 : decode cX9_run 108 = .ok (.iload_n 2, 1) := by decide +kernel
theorem dX9_run_109 : decode cX9_run 109 = .ok (.imul, 1) := by decide +kernel
theorem dX9_run_110 : decode cX9_run 110 = .ok (.iconst 2, 1) := by decide +kernel
theorem dX9_run_111 : decode cX9_run 111 = .ok (.iadd, 1) := by decide +kernel
theorem dX9_run_112 : decode cX9_run 112 = .ok (.iaload, 1) := by decide +kernel
theorem dX9_run_113 : decode cX9_run 113 = .ok (.istore 6, 2) := by decide +kernel
theorem dX9_run_115 : decode cX9_run 115 = .ok (.aload_n 0, 1) := by decide +kernel
theorem dX9_run_116 : decode cX9_run 116 = .ok (.invokevirtual 291, 3) := by decide +kernel
theorem dX9_run_119 : decode cX9_run 119 = .ok (.iload 6, 2) := by decide +kernel
theorem dX9_run_121 : decode cX9_run 121 = .ok (.ireturn, 1) := by decide +kernel
theorem dX9_sleeps_0 : decode cX9_sleeps 0 = .ok (.aload_n 0, 1) := by decide +kernel
theorem dX9_sleeps_1 : decode cX9_sleeps 1 = .ok (.iload_n 1, 1) := by decide +kernel
theorem dX9_sleeps_2 : decode cX9_sleeps 2 = .ok (.invokevirtual 90, 3) := by decide +kernel
theorem dX9_sleeps_5 : decode cX9_sleeps 5 = .ok (.ifCond .ne 6, 3) := by decide +kernel
theorem dX9_sleeps_8 : decode cX9_sleeps 8 = .ok (.bipush (-2), 2) := by decide +kernel
theorem dX9_sleeps_10 : decode cX9_sleeps 10 = .ok (.ireturn, 1) := by decide +kernel
theorem dX9_sleeps_11 : decode cX9_sleeps 11 = .ok (.aload_n 0, 1) := by decide +kernel
theorem dX9_sleeps_12 : decode cX9_sleeps 12 = .ok (.invokevirtual 288, 3) := by decide +kernel
theorem dX9_sleeps_15 : decode cX9_sleeps 15 = .ok (.iconst 0, 1) := by decide +kernel
theorem dX9_sleeps_16 : decode cX9_sleeps 16 = .ok (.istore_n 2, 1) := by decide +kernel
theorem dX9_sleeps_17 : decode cX9_sleeps 17 = .ok (.iload_n 2, 1) := by decide +kernel
theorem dX9_sleeps_18 : decode cX9_sleeps 18 = .ok (.bipush 60, 2) := by decide +kernel
theorem dX9_sleeps_20 : decode cX9_sleeps 20 = .ok (.if_icmp .gt 27, 3) := by decide +kernel
theorem dX9_sleeps_23 : decode cX9_sleeps 23 = .ok (.aload_n 0, 1) := by decide +kernel
theorem dX9_sleeps_24 : decode cX9_sleeps 24 = .ok (.getfield 26, 3) := by decide +kernel
theorem dX9_sleeps_27 : decode cX9_sleeps 27 = .ok (.iconst 3, 1) := by decide +kernel
theorem dX9_sleeps_28 : decode cX9_sleeps 28 = .ok (.iload_n 1, 1) := by decide +kernel
theorem dX9_sleeps_29 : decode cX9_sleeps 29 = .ok (.imul, 1) := by decide +kernel
theorem dX9_sleeps_30 : decode cX9_sleeps 30 = .ok (.iconst 1, 1) := by decide +kernel
theorem dX9_sleeps_31 : decode cX9_sleeps 31 = .ok (.iadd, 1) := by decide +kernel
theorem dX9_sleeps_32 : decode cX9_sleeps 32 = .ok (.iaload, 1) := by decide +kernel
theorem dX9_sleeps_33 : decode cX9_sleeps 33 = .ok (.ifCond .eq 14, 3) := by decide +kernel
theorem dX9_sleeps_36 : decode cX9_sleeps 36 = .ok (.aload_n 0, 1) := by decide +kernel
theorem dX9_sleeps_37 : decode cX9_sleeps 37 = .ok (.invokevirtual 278, 3) := by decide +kernel
theorem dX9_sleeps_40 : decode cX9_sleeps 40 = .ok (.pop, 1) := by decide +kernel
theorem dX9_sleeps_41 : decode cX9_sleeps 41 = .ok (.iinc 2 1, 3) := by decide +kernel
theorem dX9_sleeps_44 : decode cX9_sleeps 44 = .ok (.goto (-27), 3) := by decide +kernel
theorem dX9_sleeps_47 : decode cX9_sleeps 47 = .ok (.aload_n 0, 1) := by decide +kernel
theorem dX9_sleeps_48 : decode cX9_sleeps 48 = .ok (.invokevirtual 291, 3) := by decide +kernel
theorem dX9_sleeps_51 : decode cX9_sleeps 51 = .ok (.iload_n 2, 1) := by decide +kernel
theorem dX9_sleeps_52 : decode cX9_sleeps 52 = .ok (.bipush 60, 2) := by decide +kernel
theorem dX9_sleeps_54 : decode cX9_sleeps 54 = .ok (.if_icmp .le 7, 3) := by decide +kernel
theorem dX9_sleeps_57 : decode cX9_sleeps 57 = .ok (.iconst (-1), 1) := by decide +kernel
theorem dX9_sleeps_58 : decode cX9_sleeps 58 = .ok (.goto 4, 3) := by decide +kernel
theorem dX9_sleeps_61 : decode cX9_sleeps 61 = .ok (.iload_n 2, 1) := by decide +kernel
theorem dX9_sleeps_62 : decode cX9_sleeps 62 = .ok (.ireturn, 1) := by decide +kernel
theorem dX9_cutOf_0 : decode cX9_cutOf 0 = .ok (.iconst 0, 1) := by decide +kernel
theorem dX9_cutOf_1 : decode cX9_cutOf 1 = .ok (.istore 5, 2) := by decide +kernel
theorem dX9_cutOf_3 : decode cX9_cutOf 3 = .ok (.iconst 0, 1) := by decide +kernel
theorem dX9_cutOf_4 : decode cX9_cutOf 4 = .ok (.istore 6, 2) := by decide +kernel
theorem dX9_cutOf_6 : decode cX9_cutOf 6 = .ok (.iconst 0, 1) := by decide +kernel
theorem dX9_cutOf_7 : decode cX9_cutOf 7 = .ok (.istore 7, 2) := by decide +kernel
theorem dX9_cutOf_9 : decode cX9_cutOf 9 = .ok (.iload 7, 2) := by decide +kernel
theorem dX9_cutOf_11 : decode cX9_cutOf 11 = .ok (.aload_n 0, 1) := by decide +kernel
theorem dX9_cutOf_12 : decode cX9_cutOf 12 = .ok (.getfield 77, 3) := by decide +kernel
theorem dX9_cutOf_15 : decode cX9_cutOf 15 = .ok (.if_icmp .ge 54, 3) := by decide +kernel
theorem dX9_cutOf_18 : decode cX9_cutOf 18 = .ok (.iload_n 1, 1) := by decide +kernel
theorem dX9_cutOf_19 : decode cX9_cutOf 19 = .ok (.iload 7, 2) := by decide +kernel
theorem dX9_cutOf_21 : decode cX9_cutOf 21 = .ok (.ishr, 1) := by decide +kernel
theorem dX9_cutOf_22 : decode cX9_cutOf 22 = .ok (.iconst 1, 1) := by decide +kernel
theorem dX9_cutOf_23 : decode cX9_cutOf 23 = .ok (.iand, 1) := by decide +kernel
theorem dX9_cutOf_24 : decode cX9_cutOf 24 = .ok (.iconst 1, 1) := by decide +kernel
theorem dX9_cutOf_25 : decode cX9_cutOf 25 = .ok (.if_icmp .ne 17, 3) := by decide +kernel
theorem dX9_cutOf_28 : decode cX9_cutOf 28 = .ok (.iload 6, 2) := by decide +kernel
theorem dX9_cutOf_30 : decode cX9_cutOf 30 = .ok (.aload_n 0, 1) := by decide +kernel
theorem dX9_cutOf_31 : decode cX9_cutOf 31 = .ok (.iload 7, 2) := by decide +kernel
theorem dX9_cutOf_33 : decode cX9_cutOf 33 = .ok (.invokevirtual 129, 3) := by decide +kernel
theorem dX9_cutOf_36 : decode cX9_cutOf 36 = .ok (.ior, 1) := by decide +kernel
theorem dX9_cutOf_37 : decode cX9_cutOf 37 = .ok (.istore 6, 2) := by decide +kernel
theorem dX9_cutOf_39 : decode cX9_cutOf 39 = .ok (.goto 24, 3) := by decide +kernel
theorem dX9_cutOf_42 : decode cX9_cutOf 42 = .ok (.iload 5, 2) := by decide +kernel
theorem dX9_cutOf_44 : decode cX9_cutOf 44 = .ok (.iload 7, 2) := by decide +kernel
theorem dX9_cutOf_46 : decode cX9_cutOf 46 = .ok (.iload_n 2, 1) := by decide +kernel
theorem dX9_cutOf_47 : decode cX9_cutOf 47 = .ok (.if_icmp .ne 7, 3) := by decide +kernel
theorem dX9_cutOf_50 : decode cX9_cutOf 50 = .ok (.iconst 0, 1) := by decide +kernel
theorem dX9_cutOf_51 : decode cX9_cutOf 51 = .ok (.goto 9, 3) := by decide +kernel
theorem dX9_cutOf_54 : decode cX9_cutOf 54 = .ok (.aload_n 0, 1) := by decide +kernel
theorem dX9_cutOf_55 : decode cX9_cutOf 55 = .ok (.iload 7, 2) := by decide +kernel
theorem dX9_cutOf_57 : decode cX9_cutOf 57 = .ok (.invokevirtual 126, 3) := by decide +kernel
theorem dX9_cutOf_60 : decode cX9_cutOf 60 = .ok (.iadd, 1) := by decide +kernel
theorem dX9_cutOf_61 : decode cX9_cutOf 61 = .ok (.istore 5, 2) := by decide +kernel
theorem dX9_cutOf_63 : decode cX9_cutOf 63 = .ok (.iinc 7 1, 3) := by decide +kernel
theorem dX9_cutOf_66 : decode cX9_cutOf 66 = .ok (.goto (-57), 3) := by decide +kernel
theorem dX9_cutOf_69 : decode cX9_cutOf 69 = .ok (.iconst 0, 1) := by decide +kernel
theorem dX9_cutOf_70 : decode cX9_cutOf 70 = .ok (.istore 7, 2) := by decide +kernel
theorem dX9_cutOf_72 : decode cX9_cutOf 72 = .ok (.iload 7, 2) := by decide +kernel
theorem dX9_cutOf_74 : decode cX9_cutOf 74 = .ok (.bipush 6, 2) := by decide +kernel
theorem dX9_cutOf_76 : decode cX9_cutOf 76 = .ok (.if_icmp .ge 79, 3) := by decide +kernel
theorem dX9_cutOf_79 : decode cX9_cutOf 79 = .ok (.iload 7, 2) := by decide +kernel
theorem dX9_cutOf_81 : decode cX9_cutOf 81 = .ok (.iload_n 3, 1) := by decide +kernel
theorem dX9_cutOf_82 : decode cX9_cutOf 82 = .ok (.if_icmp .ne 7, 3) := by decide +kernel
theorem dX9_cutOf_85 : decode cX9_cutOf 85 = .ok (.iconst 0, 1) := by decide +kernel
theorem dX9_cutOf_86 : decode cX9_cutOf 86 = .ok (.goto 39, 3) := by decide +kernel
theorem dX9_cutOf_89 : decode cX9_cutOf 89 = .ok (.iload 7, 2) := by decide +kernel
theorem dX9_cutOf_91 : decode cX9_cutOf 91 = .ok (.iload 4, 2) := by decide +kernel
theorem dX9_cutOf_93 : decode cX9_cutOf 93 = .ok (.if_icmp .ne 23, 3) := by decide +kernel
theorem dX9_cutOf_96 : decode cX9_cutOf 96 = .ok (.aload_n 0, 1) := by decide +kernel
theorem dX9_cutOf_97 : decode cX9_cutOf 97 = .ok (.getfield 29, 3) := by decide +kernel
theorem dX9_cutOf_100 : decode cX9_cutOf 100 = .ok (.iconst 3, 1) := by decide +kernel
theorem dX9_cutOf_101 : decode cX9_cutOf 101 = .ok (.iload 7, 2) := by decide +kernel
theorem dX9_cutOf_103 : decode cX9_cutOf 103 = .ok (.imul, 1) := by decide +kernel
theorem dX9_cutOf_104 : decode cX9_cutOf 104 = .ok (.iaload, 1) := by decide +kernel
theorem dX9_cutOf_105 : decode cX9_cutOf 105 = .ok (.iconst 1, 1) := by decide +kernel
theorem dX9_cutOf_106 : decode cX9_cutOf 106 = .ok (.iadd, 1) := by decide +kernel
theorem dX9_cutOf_107 : decode cX9_cutOf 107 = .ok (.iconst 0, 1) := by decide +kernel
theorem dX9_cutOf_108 : decode cX9_cutOf 108 = .ok (.bipush 99, 2) := by decide +kernel
theorem dX9_cutOf_110 : decode cX9_cutOf 110 = .ok (.invokestatic 251, 3) := by decide +kernel
theorem dX9_cutOf_113 : decode cX9_cutOf 113 = .ok (.goto 12, 3) := by decide +kernel
theorem dX9_cutOf_116 : decode cX9_cutOf 116 = .ok (.aload_n 0, 1) := by decide +kernel
theorem dX9_cutOf_117 : decode cX9_cutOf 117 = .ok (.getfield 29, 3) := by decide +kernel
theorem dX9_cutOf_120 : decode cX9_cutOf 120 = .ok (.iconst 3, 1) := by decide +kernel
theorem dX9_cutOf_121 : decode cX9_cutOf 121 = .ok (.iload 7, 2) := by decide +kernel
theorem dX9_cutOf_123 : decode cX9_cutOf 123 = .ok (.imul, 1) := by decide +kernel
theorem dX9_cutOf_124 : decode cX9_cutOf 124 = .ok (.iaload, 1) := by decide +kernel
theorem dX9_cutOf_125 : decode cX9_cutOf 125 = .ok (.istore 8, 2) := by decide +kernel
theorem dX9_cutOf_127 : decode cX9_cutOf 127 = .ok (.iload 5, 2) := by decide +kernel
theorem dX9_cutOf_129 : decode cX9_cutOf 129 = .ok (.iload 6, 2) := by decide +kernel
theorem dX9_cutOf_131 : decode cX9_cutOf 131 = .ok (.iload 7, 2) := by decide +kernel
theorem dX9_cutOf_133 : decode cX9_cutOf 133 = .ok (.ishr, 1) := by decide +kernel
theorem dX9_cutOf_134 : decode cX9_cutOf 134 = .ok (.iconst 1, 1) := by decide +kernel
theorem dX9_cutOf_135 : decode cX9_cutOf 135 = .ok (.iand, 1) := by decide +kernel
theorem dX9_cutOf_136 : decode cX9_cutOf 136 = .ok (.iconst 1, 1) := by decide +kernel
theorem dX9_cutOf_137 : decode cX9_cutOf 137 = .ok (.if_icmp .ne 8, 3) := by decide +kernel
theorem dX9_cutOf_140 : decode cX9_cutOf 140 = .ok (.iload 8, 2) := by decide +kernel
theorem dX9_cutOf_142 : decode cX9_cutOf 142 = .ok (.goto 4, 3) := by decide +kernel
theorem dX9_cutOf_145 : decode cX9_cutOf 145 = .ok (.iconst 0, 1) := by decide +kernel
theorem dX9_cutOf_146 : decode cX9_cutOf 146 = .ok (.iadd, 1) := by decide +kernel
theorem dX9_cutOf_147 : decode cX9_cutOf 147 = .ok (.istore 5, 2) := by decide +kernel
theorem dX9_cutOf_149 : decode cX9_cutOf 149 = .ok (.iinc 7 1, 3) := by decide +kernel
theorem dX9_cutOf_152 : decode cX9_cutOf 152 = .ok (.goto (-80), 3) := by decide +kernel
theorem dX9_cutOf_155 : decode cX9_cutOf 155 = .ok (.iload 5, 2) := by decide +kernel
theorem dX9_cutOf_157 : decode cX9_cutOf 157 = .ok (.ireturn, 1) := by decide +kernel
theorem dX9_mostBut_0 : decode cX9_mostBut 0 = .ok (.ldc_w 294, 3) := by decide +kernel
theorem dX9_mostBut_3 : decode cX9_mostBut 3 = .ok (.istore 4, 2) := by decide +kernel
theorem dX9_mostBut_5 : decode cX9_mostBut 5 = .ok (.iconst 0, 1) := by decide +kernel
theorem dX9_mostBut_6 : decode cX9_mostBut 6 = .ok (.istore 5, 2) := by decide +kernel
theorem dX9_mostBut_8 : decode cX9_mostBut 8 = .ok (.iload 5, 2) := by decide +kernel
theorem dX9_mostBut_10 : decode cX9_mostBut 10 = .ok (.iconst 1, 1) := by decide +kernel
theorem dX9_mostBut_11 : decode cX9_mostBut 11 = .ok (.aload_n 0, 1) := by decide +kernel
theorem dX9_mostBut_12 : decode cX9_mostBut 12 = .ok (.getfield 77, 3) := by decide +kernel
theorem dX9_mostBut_15 : decode cX9_mostBut 15 = .ok (.ishl, 1) := by decide +kernel
theorem dX9_mostBut_16 : decode cX9_mostBut 16 = .ok (.if_icmp .ge 37, 3) := by decide +kernel
theorem dX9_mostBut_19 : decode cX9_mostBut 19 = .ok (.aload_n 0, 1) := by decide +kernel
theorem dX9_mostBut_20 : decode cX9_mostBut 20 = .ok (.iload 5, 2) := by decide +kernel
theorem dX9_mostBut_22 : decode cX9_mostBut 22 = .ok (.iload_n 1, 1) := by decide +kernel
theorem dX9_mostBut_23 : decode cX9_mostBut 23 = .ok (.iload_n 2, 1) := by decide +kernel
theorem dX9_mostBut_24 : decode cX9_mostBut 24 = .ok (.iload_n 3, 1) := by decide +kernel
theorem dX9_mostBut_25 : decode cX9_mostBut 25 = .ok (.invokevirtual 295, 3) := by decide +kernel
theorem dX9_mostBut_28 : decode cX9_mostBut 28 = .ok (.istore 6, 2) := by decide +kernel
theorem dX9_mostBut_30 : decode cX9_mostBut 30 = .ok (.iload 6, 2) := by decide +kernel
theorem dX9_mostBut_32 : decode cX9_mostBut 32 = .ok (.iload 4, 2) := by decide +kernel
theorem dX9_mostBut_34 : decode cX9_mostBut 34 = .ok (.if_icmp .ge 13, 3) := by decide +kernel
theorem dX9_mostBut_37 : decode cX9_mostBut 37 = .ok (.aload_n 0, 1) := by decide +kernel
theorem dX9_mostBut_38 : decode cX9_mostBut 38 = .ok (.iload 5, 2) := by decide +kernel
theorem dX9_mostBut_40 : decode cX9_mostBut 40 = .ok (.putfield 299, 3) := by decide +kernel
theorem dX9_mostBut_43 : decode cX9_mostBut 43 = .ok (.iload 6, 2) := by decide +kernel
theorem dX9_mostBut_45 : decode cX9_mostBut 45 = .ok (.istore 4, 2) := by decide +kernel
theorem dX9_mostBut_47 : decode cX9_mostBut 47 = .ok (.iinc 5 1, 3) := by decide +kernel
theorem dX9_mostBut_50 : decode cX9_mostBut 50 = .ok (.goto (-42), 3) := by decide +kernel
theorem dX9_mostBut_53 : decode cX9_mostBut 53 = .ok (.iload 4, 2) := by decide +kernel
theorem dX9_mostBut_55 : decode cX9_mostBut 55 = .ok (.ireturn, 1) := by decide +kernel
theorem dX9_mostNow_0 : decode cX9_mostNow 0 = .ok (.aload_n 0, 1) := by decide +kernel
theorem dX9_mostNow_1 : decode cX9_mostNow 1 = .ok (.iconst (-1), 1) := by decide +kernel
theorem dX9_mostNow_2 : decode cX9_mostNow 2 = .ok (.iconst (-1), 1) := by decide +kernel
theorem dX9_mostNow_3 : decode cX9_mostNow 3 = .ok (.iconst (-1), 1) := by decide +kernel
theorem dX9_mostNow_4 : decode cX9_mostNow 4 = .ok (.invokevirtual 302, 3) := by decide +kernel
theorem dX9_mostNow_7 : decode cX9_mostNow 7 = .ok (.ireturn, 1) := by decide +kernel
theorem dX9_pouredNow_0 : decode cX9_pouredNow 0 = .ok (.aload_n 0, 1) := by decide +kernel
theorem dX9_pouredNow_1 : decode cX9_pouredNow 1 = .ok (.invokevirtual 288, 3) := by decide +kernel
theorem dX9_pouredNow_4 : decode cX9_pouredNow 4 = .ok (.aload_n 0, 1) := by decide +kernel
theorem dX9_pouredNow_5 : decode cX9_pouredNow 5 = .ok (.invokevirtual 278, 3) := by decide +kernel
theorem dX9_pouredNow_8 : decode cX9_pouredNow 8 = .ok (.istore_n 2, 1) := by decide +kernel
theorem dX9_pouredNow_9 : decode cX9_pouredNow 9 = .ok (.iconst 0, 1) := by decide +kernel
theorem dX9_pouredNow_10 : decode cX9_pouredNow 10 = .ok (.istore_n 3, 1) := by decide +kernel
theorem dX9_pouredNow_11 : decode cX9_pouredNow 11 = .ok (.iconst 0, 1) := by decide +kernel
theorem dX9_pouredNow_12 : decode cX9_pouredNow 12 = .ok (.istore 4, 2) := by decide +kernel
theorem dX9_pouredNow_14 : decode cX9_pouredNow 14 = .ok (.iload 4, 2) := by decide +kernel
theorem dX9_pouredNow_16 : decode cX9_pouredNow 16 = .ok (.bipush 6, 2) := by decide +kernel
theorem dX9_pouredNow_18 : decode cX9_pouredNow 18 = .ok (.if_icmp .ge 43, 3) := by decide +kernel
theorem dX9_pouredNow_21 : decode cX9_pouredNow 21 = .ok (.iload_n 3, 1) := by decide +kernel
theorem dX9_pouredNow_22 : decode cX9_pouredNow 22 = .ok (.aload_n 0, 1) := by decide +kernel
theorem dX9_pouredNow_23 : decode cX9_pouredNow 23 = .ok (.getfield 29, 3) := by decide +kernel
theorem dX9_pouredNow_26 : decode cX9_pouredNow 26 = .ok (.iconst 3, 1) := by decide +kernel
theorem dX9_pouredNow_27 : decode cX9_pouredNow 27 = .ok (.iload 4, 2) := by decide +kernel
theorem dX9_pouredNow_29 : decode cX9_pouredNow 29 = .ok (.imul, 1) := by decide +kernel
theorem dX9_pouredNow_30 : decode cX9_pouredNow 30 = .ok (.iconst 2, 1) := by decide +kernel
theorem dX9_pouredNow_31 : decode cX9_pouredNow 31 = .ok (.iadd, 1) := by decide +kernel
theorem dX9_pouredNow_32 : decode cX9_pouredNow 32 = .ok (.iaload, 1) := by decide +kernel
theorem dX9_pouredNow_33 : decode cX9_pouredNow 33 = .ok (.aload_n 0, 1) := by decide +kernel
theorem dX9_pouredNow_34 : decode cX9_pouredNow 34 = .ok (.getfield 29, 3) := by decide +kernel
theorem dX9_pouredNow_37 : decode cX9_pouredNow 37 = .ok (.iconst 3, 1) := by decide +kernel
theorem dX9_pouredNow_38 : decode cX9_pouredNow 38 = .ok (.iload 4, 2) := by decide +kernel
theorem dX9_pouredNow_40 : decode cX9_pouredNow 40 = .ok (.imul, 1) := by decide +kernel
theorem dX9_pouredNow_41 : decode cX9_pouredNow 41 = .ok (.iaload, 1) := by decide +kernel
theorem dX9_pouredNow_42 : decode cX9_pouredNow 42 = .ok (.if_icmp .ne 7, 3) := by decide +kernel
theorem dX9_pouredNow_45 : decode cX9_pouredNow 45 = .ok (.iconst 1, 1) := by decide +kernel
theorem dX9_pouredNow_46 : decode cX9_pouredNow 46 = .ok (.goto 4, 3) := by decide +kernel
theorem dX9_pouredNow_49 : decode cX9_pouredNow 49 = .ok (.iconst 0, 1) := by decide +kernel
theorem dX9_pouredNow_50 : decode cX9_pouredNow 50 = .ok (.iload 4, 2) := by decide +kernel
theorem dX9_pouredNow_52 : decode cX9_pouredNow 52 = .ok (.ishl, 1) := by decide +kernel
theorem dX9_pouredNow_53 : decode cX9_pouredNow 53 = .ok (.ior, 1) := by decide +kernel
theorem dX9_pouredNow_54 : decode cX9_pouredNow 54 = .ok (.istore_n 3, 1) := by decide +kernel
theorem dX9_pouredNow_55 : decode cX9_pouredNow 55 = .ok (.iinc 4 1, 3) := by decide +kernel
theorem dX9_pouredNow_58 : decode cX9_pouredNow 58 = .ok (.goto (-44), 3) := by decide +kernel
theorem dX9_pouredNow_61 : decode cX9_pouredNow 61 = .ok (.aload_n 0, 1) := by decide +kernel
theorem dX9_pouredNow_62 : decode cX9_pouredNow 62 = .ok (.invokevirtual 291, 3) := by decide +kernel
theorem dX9_pouredNow_65 : decode cX9_pouredNow 65 = .ok (.iload_n 1, 1) := by decide +kernel
theorem dX9_pouredNow_66 : decode cX9_pouredNow 66 = .ok (.iconst 4, 1) := by decide +kernel
theorem dX9_pouredNow_67 : decode cX9_pouredNow 67 = .ok (.if_icmp .ne 7, 3) := by decide +kernel
theorem dX9_pouredNow_70 : decode cX9_pouredNow 70 = .ok (.iload_n 3, 1) := by decide +kernel
theorem dX9_pouredNow_71 : decode cX9_pouredNow 71 = .ok (.goto 4, 3) := by decide +kernel
theorem dX9_pouredNow_74 : decode cX9_pouredNow 74 = .ok (.iload_n 2, 1) := by decide +kernel
theorem dX9_pouredNow_75 : decode cX9_pouredNow 75 = .ok (.ireturn, 1) := by decide +kernel
theorem dX9_starved_0 : decode cX9_starved 0 = .ok (.bipush 63, 2) := by decide +kernel
theorem dX9_starved_2 : decode cX9_starved 2 = .ok (.istore_n 1, 1) := by decide +kernel
theorem dX9_starved_3 : decode cX9_starved 3 = .ok (.iconst 0, 1) := by decide +kernel
theorem dX9_starved_4 : decode cX9_starved 4 = .ok (.istore_n 2, 1) := by decide +kernel
theorem dX9_starved_5 : decode cX9_starved 5 = .ok (.iload_n 2, 1) := by decide +kernel
theorem dX9_starved_6 : decode cX9_starved 6 = .ok (.aload_n 0, 1) := by decide +kernel
theorem dX9_starved_7 : decode cX9_starved 7 = .ok (.getfield 77, 3) := by decide +kernel
theorem dX9_starved_10 : decode cX9_starved 10 = .ok (.if_icmp .ge 31, 3) := by decide +kernel
theorem dX9_starved_13 : decode cX9_starved 13 = .ok (.iload_n 1, 1) := by decide +kernel
theorem dX9_starved_14 : decode cX9_starved 14 = .ok (.aload_n 0, 1) := by decide +kernel
theorem dX9_starved_15 : decode cX9_starved 15 = .ok (.iload_n 2, 1) := by decide +kernel
theorem dX9_starved_16 : decode cX9_starved 16 = .ok (.invokevirtual 126, 3) := by decide +kernel
theorem dX9_starved_19 : decode cX9_starved 19 = .ok (.ifCond .le 13, 3) := by decide +kernel
theorem dX9_starved_22 : decode cX9_starved 22 = .ok (.aload_n 0, 1) := by decide +kernel
theorem dX9_starved_23 : decode cX9_starved 23 = .ok (.iload_n 2, 1) := by decide +kernel
theorem dX9_starved_24 : decode cX9_starved 24 = .ok (.invokevirtual 129, 3) := by decide +kernel
theorem dX9_starved_27 : decode cX9_starved 27 = .ok (.iconst (-1), 1) := by decide +kernel
theorem dX9_starved_28 : decode cX9_starved 28 = .ok (.ixor, 1) := by decide +kernel
theorem dX9_starved_29 : decode cX9_starved 29 = .ok (.goto 4, 3) := by decide +kernel
theorem dX9_starved_32 : decode cX9_starved 32 = .ok (.iload_n 1, 1) := by decide +kernel
theorem dX9_starved_33 : decode cX9_starved 33 = .ok (.iand, 1) := by decide +kernel
theorem dX9_starved_34 : decode cX9_starved 34 = .ok (.istore_n 1, 1) := by decide +kernel
theorem dX9_starved_35 : decode cX9_starved 35 = .ok (.iinc 2 1, 3) := by decide +kernel
theorem dX9_starved_38 : decode cX9_starved 38 = .ok (.goto (-33), 3) := by decide +kernel
theorem dX9_starved_41 : decode cX9_starved 41 = .ok (.iload_n 1, 1) := by decide +kernel
theorem dX9_starved_42 : decode cX9_starved 42 = .ok (.ireturn, 1) := by decide +kernel
theorem dX9_pour_0 : decode cX9_pour 0 = .ok (.iload_n 1, 1) := by decide +kernel
theorem dX9_pour_1 : decode cX9_pour 1 = .ok (.i2l, 1) := by decide +kernel
theorem dX9_pour_2 : decode cX9_pour 2 = .ok (.lconst 0, 1) := by decide +kernel
theorem dX9_pour_3 : decode cX9_pour 3 = .ok (.ldc2_w 84, 3) := by decide +kernel
theorem dX9_pour_6 : decode cX9_pour 6 = .ok (.invokestatic 80, 3) := by decide +kernel
theorem dX9_pour_9 : decode cX9_pour 9 = .ok (.ifCond .ne 6, 3) := by decide +kernel
theorem dX9_pour_12 : decode cX9_pour 12 = .ok (.bipush (-2), 2) := by decide +kernel
theorem dX9_pour_14 : decode cX9_pour 14 = .ok (.ireturn, 1) := by decide +kernel
theorem dX9_pour_15 : decode cX9_pour 15 = .ok (.aload_n 0, 1) := by decide +kernel
theorem dX9_pour_16 : decode cX9_pour 16 = .ok (.invokevirtual 305, 3) := by decide +kernel
theorem dX9_pour_19 : decode cX9_pour 19 = .ok (.istore_n 2, 1) := by decide +kernel
theorem dX9_pour_20 : decode cX9_pour 20 = .ok (.iload_n 1, 1) := by decide +kernel
theorem dX9_pour_21 : decode cX9_pour 21 = .ok (.iconst 3, 1) := by decide +kernel
theorem dX9_pour_22 : decode cX9_pour 22 = .ok (.if_icmp .ge 31, 3) := by decide +kernel
theorem dX9_pour_25 : decode cX9_pour 25 = .ok (.iload_n 1, 1) := by decide +kernel
theorem dX9_pour_26 : decode cX9_pour 26 = .ok (.ifCond .ne 7, 3) := by decide +kernel
theorem dX9_pour_29 : decode cX9_pour 29 = .ok (.iload_n 2, 1) := by decide +kernel
theorem dX9_pour_30 : decode cX9_pour 30 = .ok (.goto 22, 3) := by decide +kernel
theorem dX9_pour_33 : decode cX9_pour 33 = .ok (.iload_n 1, 1) := by decide +kernel
theorem dX9_pour_34 : decode cX9_pour 34 = .ok (.iconst 1, 1) := by decide +kernel
theorem dX9_pour_35 : decode cX9_pour 35 = .ok (.if_icmp .ne 10, 3) := by decide +kernel
theorem dX9_pour_38 : decode cX9_pour 38 = .ok (.aload_n 0, 1) := by decide +kernel
theorem dX9_pour_39 : decode cX9_pour 39 = .ok (.getfield 299, 3) := by decide +kernel
theorem dX9_pour_42 : decode cX9_pour 42 = .ok (.goto 10, 3) := by decide +kernel
theorem dX9_pour_45 : decode cX9_pour 45 = .ok (.iload_n 2, 1) := by decide +kernel
theorem dX9_pour_46 : decode cX9_pour 46 = .ok (.aload_n 0, 1) := by decide +kernel
theorem dX9_pour_47 : decode cX9_pour 47 = .ok (.iconst 3, 1) := by decide +kernel
theorem dX9_pour_48 : decode cX9_pour 48 = .ok (.invokevirtual 308, 3) := by decide +kernel
theorem dX9_pour_51 : decode cX9_pour 51 = .ok (.isub, 1) := by decide +kernel
theorem dX9_pour_52 : decode cX9_pour 52 = .ok (.ireturn, 1) := by decide +kernel
theorem dX9_pour_53 : decode cX9_pour 53 = .ok (.iload_n 1, 1) := by decide +kernel
theorem dX9_pour_54 : decode cX9_pour 54 = .ok (.iconst 5, 1) := by decide +kernel
theorem dX9_pour_55 : decode cX9_pour 55 = .ok (.if_icmp .ne 10, 3) := by decide +kernel
theorem dX9_pour_58 : decode cX9_pour 58 = .ok (.aload_n 0, 1) := by decide +kernel
theorem dX9_pour_59 : decode cX9_pour 59 = .ok (.invokevirtual 311, 3) := by decide +kernel
theorem dX9_pour_62 : decode cX9_pour 62 = .ok (.goto 8, 3) := by decide +kernel
theorem dX9_pour_65 : decode cX9_pour 65 = .ok (.aload_n 0, 1) := by decide +kernel
theorem dX9_pour_66 : decode cX9_pour 66 = .ok (.iload_n 1, 1) := by decide +kernel
theorem dX9_pour_67 : decode cX9_pour 67 = .ok (.invokevirtual 308, 3) := by decide +kernel
theorem dX9_pour_70 : decode cX9_pour 70 = .ok (.ireturn, 1) := by decide +kernel
theorem dX9_best_0 : decode cX9_best 0 = .ok (.iload_n 1, 1) := by decide +kernel
theorem dX9_best_1 : decode cX9_best 1 = .ok (.i2l, 1) := by decide +kernel
theorem dX9_best_2 : decode cX9_best 2 = .ok (.lconst 0, 1) := by decide +kernel
theorem dX9_best_3 : decode cX9_best 3 = .ok (.ldc2_w 84, 3) := by decide +kernel
theorem dX9_best_6 : decode cX9_best 6 = .ok (.invokestatic 80, 3) := by decide +kernel
theorem dX9_best_9 : decode cX9_best 9 = .ok (.ifCond .ne 6, 3) := by decide +kernel
theorem dX9_best_12 : decode cX9_best 12 = .ok (.bipush (-2), 2) := by decide +kernel
theorem dX9_best_14 : decode cX9_best 14 = .ok (.ireturn, 1) := by decide +kernel
theorem dX9_best_15 : decode cX9_best 15 = .ok (.iconst (-1), 1) := by decide +kernel
theorem dX9_best_16 : decode cX9_best 16 = .ok (.istore_n 2, 1) := by decide +kernel
theorem dX9_best_17 : decode cX9_best 17 = .ok (.iconst 0, 1) := by decide +kernel
theorem dX9_best_18 : decode cX9_best 18 = .ok (.istore_n 3, 1) := by decide +kernel
theorem dX9_best_19 : decode cX9_best 19 = .ok (.iload_n 1, 1) := by decide +kernel
theorem dX9_best_20 : decode cX9_best 20 = .ok (.iconst 2, 1) := by decide +kernel
theorem dX9_best_21 : decode cX9_best 21 = .ok (.if_icmp .ge 10, 3) := by decide +kernel
theorem dX9_best_24 : decode cX9_best 24 = .ok (.aload_n 0, 1) := by decide +kernel
theorem dX9_best_25 : decode cX9_best 25 = .ok (.getfield 77, 3) := by decide +kernel
theorem dX9_best_28 : decode cX9_best 28 = .ok (.goto 5, 3) := by decide +kernel
theorem dX9_best_31 : decode cX9_best 31 = .ok (.bipush 6, 2) := by decide +kernel
theorem dX9_best_33 : decode cX9_best 33 = .ok (.istore 4, 2) := by decide +kernel
theorem dX9_best_35 : decode cX9_best 35 = .ok (.iconst 0, 1) := by decide +kernel
theorem dX9_best_36 : decode cX9_best 36 = .ok (.istore 5, 2) := by decide +kernel
theorem dX9_best_38 : decode cX9_best 38 = .ok (.iload 5, 2) := by decide +kernel
theorem dX9_best_40 : decode cX9_best 40 = .ok (.iload 4, 2) := by decide +kernel
theorem dX9_best_42 : decode cX9_best 42 = .ok (.if_icmp .ge 68, 3) := by decide +kernel
theorem dX9_best_45 : decode cX9_best 45 = .ok (.iload_n 1, 1) := by decide +kernel
theorem dX9_best_46 : decode cX9_best 46 = .ok (.iconst 2, 1) := by decide +kernel
theorem dX9_best_47 : decode cX9_best 47 = .ok (.if_icmp .ge 14, 3) := by decide +kernel
theorem dX9_best_50 : decode cX9_best 50 = .ok (.aload_n 0, 1) := by decide +kernel
theorem dX9_best_51 : decode cX9_best 51 = .ok (.iload 5, 2) := by decide +kernel
theorem dX9_best_53 : decode cX9_best 53 = .ok (.iconst (-1), 1) := by decide +kernel
theorem dX9_best_54 : decode cX9_best 54 = .ok (.iconst (-1), 1) := by decide +kernel
theorem dX9_best_55 : decode cX9_best 55 = .ok (.invokevirtual 302, 3) := by decide +kernel
theorem dX9_best_58 : decode cX9_best 58 = .ok (.goto 27, 3) := by decide +kernel
theorem dX9_best_61 : decode cX9_best 61 = .ok (.iload_n 1, 1) := by decide +kernel
theorem dX9_best_62 : decode cX9_best 62 = .ok (.iconst 4, 1) := by decide +kernel
theorem dX9_best_63 : decode cX9_best 63 = .ok (.if_icmp .ge 14, 3) := by decide +kernel
theorem dX9_best_66 : decode cX9_best 66 = .ok (.aload_n 0, 1) := by decide +kernel
theorem dX9_best_67 : decode cX9_best 67 = .ok (.iconst (-1), 1) := by decide +kernel
theorem dX9_best_68 : decode cX9_best 68 = .ok (.iload 5, 2) := by decide +kernel
theorem dX9_best_70 : decode cX9_best 70 = .ok (.iconst (-1), 1) := by decide +kernel
theorem dX9_best_71 : decode cX9_best 71 = .ok (.invokevirtual 302, 3) := by decide +kernel
theorem dX9_best_74 : decode cX9_best 74 = .ok (.goto 11, 3) := by decide +kernel
theorem dX9_best_77 : decode cX9_best 77 = .ok (.aload_n 0, 1) := by decide +kernel
theorem dX9_best_78 : decode cX9_best 78 = .ok (.iconst (-1), 1) := by decide +kernel
theorem dX9_best_79 : decode cX9_best 79 = .ok (.iconst (-1), 1) := by decide +kernel
theorem dX9_best_80 : decode cX9_best 80 = .ok (.iload 5, 2) := by decide +kernel
theorem dX9_best_82 : decode cX9_best 82 = .ok (.invokevirtual 302, 3) := by decide +kernel
theorem dX9_best_85 : decode cX9_best 85 = .ok (.istore 6, 2) := by decide +kernel
theorem dX9_best_87 : decode cX9_best 87 = .ok (.iload_n 2, 1) := by decide +kernel
theorem dX9_best_88 : decode cX9_best 88 = .ok (.iconst (-1), 1) := by decide +kernel
theorem dX9_best_89 : decode cX9_best 89 = .ok (.if_icmp .eq 9, 3) := by decide +kernel
theorem dX9_best_92 : decode cX9_best 92 = .ok (.iload 6, 2) := by decide +kernel
theorem dX9_best_94 : decode cX9_best 94 = .ok (.iload_n 3, 1) := by decide +kernel
theorem dX9_best_95 : decode cX9_best 95 = .ok (.if_icmp .le 9, 3) := by decide +kernel
theorem dX9_best_98 : decode cX9_best 98 = .ok (.iload 5, 2) := by decide +kernel
theorem dX9_best_100 : decode cX9_best 100 = .ok (.istore_n 2, 1) := by decide +kernel
theorem dX9_best_101 : decode cX9_best 101 = .ok (.iload 6, 2) := by decide +kernel
theorem dX9_best_103 : decode cX9_best 103 = .ok (.istore_n 3, 1) := by decide +kernel
theorem dX9_best_104 : decode cX9_best 104 = .ok (.iinc 5 1, 3) := by decide +kernel
theorem dX9_best_107 : decode cX9_best 107 = .ok (.goto (-69), 3) := by decide +kernel
theorem dX9_best_110 : decode cX9_best 110 = .ok (.iload_n 1, 1) := by decide +kernel
theorem dX9_best_111 : decode cX9_best 111 = .ok (.iconst 2, 1) := by decide +kernel
theorem dX9_best_112 : decode cX9_best 112 = .ok (.irem, 1) := by decide +kernel
theorem dX9_best_113 : decode cX9_best 113 = .ok (.ifCond .ne 7, 3) := by decide +kernel
theorem dX9_best_116 : decode cX9_best 116 = .ok (.iload_n 2, 1) := by decide +kernel
theorem dX9_best_117 : decode cX9_best 117 = .ok (.goto 4, 3) := by decide +kernel
theorem dX9_best_120 : decode cX9_best 120 = .ok (.iload_n 3, 1) := by decide +kernel
theorem dX9_best_121 : decode cX9_best 121 = .ok (.ireturn, 1) := by decide +kernel
theorem dX9_lowest_0 : decode cX9_lowest 0 = .ok (.lload_n 0, 1) := by decide +kernel
theorem dX9_lowest_1 : decode cX9_lowest 1 = .ok (.lstore 5, 2) := by decide +kernel
theorem dX9_lowest_3 : decode cX9_lowest 3 = .ok (.lload_n 2, 1) := by decide +kernel
theorem dX9_lowest_4 : decode cX9_lowest 4 = .ok (.lstore 7, 2) := by decide +kernel
theorem dX9_lowest_6 : decode cX9_lowest 6 = .ok (.lload 7, 2) := by decide +kernel
theorem dX9_lowest_8 : decode cX9_lowest 8 = .ok (.lconst 0, 1) := by decide +kernel
theorem dX9_lowest_9 : decode cX9_lowest 9 = .ok (.lcmp, 1) := by decide +kernel
theorem dX9_lowest_10 : decode cX9_lowest 10 = .ok (.ifCond .eq 21, 3) := by decide +kernel
theorem dX9_lowest_13 : decode cX9_lowest 13 = .ok (.lload 5, 2) := by decide +kernel
theorem dX9_lowest_15 : decode cX9_lowest 15 = .ok (.lload 7, 2) := by decide +kernel
theorem dX9_lowest_17 : decode cX9_lowest 17 = .ok (.lrem, 1) := by decide +kernel
theorem dX9_lowest_18 : decode cX9_lowest 18 = .ok (.lstore 9, 2) := by decide +kernel
theorem dX9_lowest_20 : decode cX9_lowest 20 = .ok (.lload 7, 2) := by decide +kernel
theorem dX9_lowest_22 : decode cX9_lowest 22 = .ok (.lstore 5, 2) := by decide +kernel
theorem dX9_lowest_24 : decode cX9_lowest 24 = .ok (.lload 9, 2) := by decide +kernel
theorem dX9_lowest_26 : decode cX9_lowest 26 = .ok (.lstore 7, 2) := by decide +kernel
theorem dX9_lowest_28 : decode cX9_lowest 28 = .ok (.goto (-22), 3) := by decide +kernel
theorem dX9_lowest_31 : decode cX9_lowest 31 = .ok (.iload 4, 2) := by decide +kernel
theorem dX9_lowest_33 : decode cX9_lowest 33 = .ok (.ifCond .ne 10, 3) := by decide +kernel
theorem dX9_lowest_36 : decode cX9_lowest 36 = .ok (.lload_n 0, 1) := by decide +kernel
theorem dX9_lowest_37 : decode cX9_lowest 37 = .ok (.lload 5, 2) := by decide +kernel
theorem dX9_lowest_39 : decode cX9_lowest 39 = .ok (.ldiv, 1) := by decide +kernel
theorem dX9_lowest_40 : decode cX9_lowest 40 = .ok (.goto 7, 3) := by decide +kernel
theorem dX9_lowest_43 : decode cX9_lowest 43 = .ok (.lload_n 2, 1) := by decide +kernel
theorem dX9_lowest_44 : decode cX9_lowest 44 = .ok (.lload 5, 2) := by decide +kernel
theorem dX9_lowest_46 : decode cX9_lowest 46 = .ok (.ldiv, 1) := by decide +kernel
theorem dX9_lowest_47 : decode cX9_lowest 47 = .ok (.lreturn, 1) := by decide +kernel
theorem dX9_blend_0 : decode cX9_blend 0 = .ok (.aload_n 0, 1) := by decide +kernel
theorem dX9_blend_1 : decode cX9_blend 1 = .ok (.iload_n 1, 1) := by decide +kernel
theorem dX9_blend_2 : decode cX9_blend 2 = .ok (.invokevirtual 90, 3) := by decide +kernel
theorem dX9_blend_5 : decode cX9_blend 5 = .ok (.ifCond .eq 20, 3) := by decide +kernel
theorem dX9_blend_8 : decode cX9_blend 8 = .ok (.iload_n 2, 1) := by decide +kernel
theorem dX9_blend_9 : decode cX9_blend 9 = .ok (.invokestatic 86, 3) := by decide +kernel
theorem dX9_blend_12 : decode cX9_blend 12 = .ok (.ifCond .eq 13, 3) := by decide +kernel
theorem dX9_blend_15 : decode cX9_blend 15 = .ok (.iload_n 3, 1) := by decide +kernel
theorem dX9_blend_16 : decode cX9_blend 16 = .ok (.i2l, 1) := by decide +kernel
theorem dX9_blend_17 : decode cX9_blend 17 = .ok (.lconst 0, 1) := by decide +kernel
theorem dX9_blend_18 : decode cX9_blend 18 = .ok (.lconst 1, 1) := by decide +kernel
theorem dX9_blend_19 : decode cX9_blend 19 = .ok (.invokestatic 80, 3) := by decide +kernel
theorem dX9_blend_22 : decode cX9_blend 22 = .ok (.ifCond .ne 7, 3) := by decide +kernel
theorem dX9_blend_25 : decode cX9_blend 25 = .ok (.ldc2_w 314, 3) := by decide +kernel
theorem dX9_blend_28 : decode cX9_blend 28 = .ok (.lreturn, 1) := by decide +kernel
theorem dX9_blend_29 : decode cX9_blend 29 = .ok (.aload_n 0, 1) := by decide +kernel
theorem dX9_blend_30 : decode cX9_blend 30 = .ok (.invokevirtual 288, 3) := by decide +kernel
theorem dX9_blend_33 : decode cX9_blend 33 = .ok (.aload_n 0, 1) := by decide +kernel
theorem dX9_blend_34 : decode cX9_blend 34 = .ok (.invokevirtual 278, 3) := by decide +kernel
theorem dX9_blend_37 : decode cX9_blend 37 = .ok (.pop, 1) := by decide +kernel
theorem dX9_blend_38 : decode cX9_blend 38 = .ok (.aload_n 0, 1) := by decide +kernel
theorem dX9_blend_39 : decode cX9_blend 39 = .ok (.getfield 29, 3) := by decide +kernel
theorem dX9_blend_42 : decode cX9_blend 42 = .ok (.iconst 3, 1) := by decide +kernel
theorem dX9_blend_43 : decode cX9_blend 43 = .ok (.iload_n 2, 1) := by decide +kernel
theorem dX9_blend_44 : decode cX9_blend 44 = .ok (.imul, 1) := by decide +kernel
theorem dX9_blend_45 : decode cX9_blend 45 = .ok (.iconst 2, 1) := by decide +kernel
theorem dX9_blend_46 : decode cX9_blend 46 = .ok (.iadd, 1) := by decide +kernel
theorem dX9_blend_47 : decode cX9_blend 47 = .ok (.iaload, 1) := by decide +kernel
theorem dX9_blend_48 : decode cX9_blend 48 = .ok (.istore 4, 2) := by decide +kernel
theorem dX9_blend_50 : decode cX9_blend 50 = .ok (.aload_n 0, 1) := by decide +kernel
theorem dX9_blend_51 : decode cX9_blend 51 = .ok (.invokevirtual 291, 3) := by decide +kernel
theorem dX9_blend_54 : decode cX9_blend 54 = .ok (.iload 4, 2) := by decide +kernel
theorem dX9_blend_56 : decode cX9_blend 56 = .ok (.ifCond .ne 9, 3) := by decide +kernel
theorem dX9_blend_59 : decode cX9_blend 59 = .ok (.ldc2_w 314, 3) := by decide +kernel
theorem dX9_blend_62 : decode cX9_blend 62 = .ok (.goto 22, 3) := by decide +kernel
theorem dX9_blend_65 : decode cX9_blend 65 = .ok (.aload_n 0, 1) := by decide +kernel
theorem dX9_blend_66 : decode cX9_blend 66 = .ok (.getfield 39, 3) := by decide +kernel
theorem dX9_blend_69 : decode cX9_blend 69 = .ok (.bipush 6, 2) := by decide +kernel
theorem dX9_blend_71 : decode cX9_blend 71 = .ok (.iload_n 1, 1) := by decide +kernel
theorem dX9_blend_72 : decode cX9_blend 72 = .ok (.imul, 1) := by decide +kernel
theorem dX9_blend_73 : decode cX9_blend 73 = .ok (.iload_n 2, 1) := by decide +kernel
theorem dX9_blend_74 : decode cX9_blend 74 = .ok (.iadd, 1) := by decide +kernel
theorem dX9_blend_75 : decode cX9_blend 75 = .ok (.iaload, 1) := by decide +kernel
theorem dX9_blend_76 : decode cX9_blend 76 = .ok (.i2l, 1) := by decide +kernel
theorem dX9_blend_77 : decode cX9_blend 77 = .ok (.iload 4, 2) := by decide +kernel
theorem dX9_blend_79 : decode cX9_blend 79 = .ok (.i2l, 1) := by decide +kernel
theorem dX9_blend_80 : decode cX9_blend 80 = .ok (.iload_n 3, 1) := by decide +kernel
theorem dX9_blend_81 : decode cX9_blend 81 = .ok (.invokestatic 316, 3) := by decide +kernel
theorem dX9_blend_84 : decode cX9_blend 84 = .ok (.lreturn, 1) := by decide +kernel
theorem dX9_firstOther_0 : decode cX9_firstOther 0 = .ok (.aload_n 0, 1) := by decide +kernel
theorem dX9_firstOther_1 : decode cX9_firstOther 1 = .ok (.invokevirtual 288, 3) := by decide +kernel
theorem dX9_firstOther_4 : decode cX9_firstOther 4 = .ok (.iconst (-1), 1) := by decide +kernel
theorem dX9_firstOther_5 : decode cX9_firstOther 5 = .ok (.istore_n 3, 1) := by decide +kernel
theorem dX9_firstOther_6 : decode cX9_firstOther 6 = .ok (.iconst 0, 1) := by decide +kernel
theorem dX9_firstOther_7 : decode cX9_firstOther 7 = .ok (.istore 4, 2) := by decide +kernel
theorem dX9_firstOther_9 : decode cX9_firstOther 9 = .ok (.iload 4, 2) := by decide +kernel
theorem dX9_firstOther_11 : decode cX9_firstOther 11 = .ok (.aload_n 0, 1) := by decide +kernel
theorem dX9_firstOther_12 : decode cX9_firstOther 12 = .ok (.getfield 64, 3) := by decide +kernel
theorem dX9_firstOther_15 : decode cX9_firstOther 15 = .ok (.iload_n 1, 1) := by decide +kernel
theorem dX9_firstOther_16 : decode cX9_firstOther 16 = .ok (.iaload, 1) := by decide +kernel
theorem dX9_firstOther_17 : decode cX9_firstOther 17 = .ok (.if_icmp .ge 46, 3) := by decide +kernel
theorem dX9_firstOther_20 : decode cX9_firstOther 20 = .ok (.iload_n 3, 1) := by decide +kernel
theorem dX9_firstOther_21 : decode cX9_firstOther 21 = .ok (.iconst (-1), 1) := by decide +kernel
theorem dX9_firstOther_22 : decode cX9_firstOther 22 = .ok (.if_icmp .ne 41, 3) := by decide +kernel
theorem dX9_firstOther_25 : decode cX9_firstOther 25 = .ok (.aload_n 0, 1) := by decide +kernel
theorem dX9_firstOther_26 : decode cX9_firstOther 26 = .ok (.iload_n 2, 1) := by decide +kernel
theorem dX9_firstOther_27 : decode cX9_firstOther 27 = .ok (.invokevirtual 126, 3) := by decide +kernel
theorem dX9_firstOther_30 : decode cX9_firstOther 30 = .ok (.aload_n 0, 1) := by decide +kernel
theorem dX9_firstOther_31 : decode cX9_firstOther 31 = .ok (.getfield 67, 3) := by decide +kernel
theorem dX9_firstOther_34 : decode cX9_firstOther 34 = .ok (.bipush 40, 2) := by decide +kernel
theorem dX9_firstOther_36 : decode cX9_firstOther 36 = .ok (.iload_n 1, 1) := by decide +kernel
theorem dX9_firstOther_37 : decode cX9_firstOther 37 = .ok (.imul, 1) := by decide +kernel
theorem dX9_firstOther_38 : decode cX9_firstOther 38 = .ok (.iload 4, 2) := by decide +kernel
theorem dX9_firstOther_40 : decode cX9_firstOther 40 = .ok (.iadd, 1) := by decide +kernel
theorem dX9_firstOther_41 : decode cX9_firstOther 41 = .ok (.iaload, 1) := by decide +kernel
theorem dX9_firstOther_42 : decode cX9_firstOther 42 = .ok (.if_icmp .ne 7, 3) := by decide +kernel
theorem dX9_firstOther_45 : decode cX9_firstOther 45 = .ok (.iconst (-1), 1) := by decide +kernel
theorem dX9_firstOther_46 : decode cX9_firstOther 46 = .ok (.goto 5, 3) := by decide +kernel
theorem dX9_firstOther_49 : decode cX9_firstOther 49 = .ok (.iload 4, 2) := by decide +kernel
theorem dX9_firstOther_51 : decode cX9_firstOther 51 = .ok (.istore_n 3, 1) := by decide +kernel
theorem dX9_firstOther_52 : decode cX9_firstOther 52 = .ok (.aload_n 0, 1) := by decide +kernel
theorem dX9_firstOther_53 : decode cX9_firstOther 53 = .ok (.invokevirtual 278, 3) := by decide +kernel
theorem dX9_firstOther_56 : decode cX9_firstOther 56 = .ok (.pop, 1) := by decide +kernel
theorem dX9_firstOther_57 : decode cX9_firstOther 57 = .ok (.iinc 4 1, 3) := by decide +kernel
theorem dX9_firstOther_60 : decode cX9_firstOther 60 = .ok (.goto (-51), 3) := by decide +kernel
theorem dX9_firstOther_63 : decode cX9_firstOther 63 = .ok (.aload_n 0, 1) := by decide +kernel
theorem dX9_firstOther_64 : decode cX9_firstOther 64 = .ok (.invokevirtual 291, 3) := by decide +kernel
theorem dX9_firstOther_67 : decode cX9_firstOther 67 = .ok (.iload_n 3, 1) := by decide +kernel
theorem dX9_firstOther_68 : decode cX9_firstOther 68 = .ok (.ireturn, 1) := by decide +kernel
theorem dX9_likeSet_0 : decode cX9_likeSet 0 = .ok (.iconst 0, 1) := by decide +kernel
theorem dX9_likeSet_1 : decode cX9_likeSet 1 = .ok (.istore_n 2, 1) := by decide +kernel
theorem dX9_likeSet_2 : decode cX9_likeSet 2 = .ok (.iconst 0, 1) := by decide +kernel
theorem dX9_likeSet_3 : decode cX9_likeSet 3 = .ok (.istore_n 3, 1) := by decide +kernel
theorem dX9_likeSet_4 : decode cX9_likeSet 4 = .ok (.iload_n 3, 1) := by decide +kernel
theorem dX9_likeSet_5 : decode cX9_likeSet 5 = .ok (.aload_n 0, 1) := by decide +kernel
theorem dX9_likeSet_6 : decode cX9_likeSet 6 = .ok (.getfield 77, 3) := by decide +kernel
theorem dX9_likeSet_9 : decode cX9_likeSet 9 = .ok (.if_icmp .ge 29, 3) := by decide +kernel
theorem dX9_likeSet_12 : decode cX9_likeSet 12 = .ok (.iload_n 2, 1) := by decide +kernel
theorem dX9_likeSet_13 : decode cX9_likeSet 13 = .ok (.aload_n 0, 1) := by decide +kernel
theorem dX9_likeSet_14 : decode cX9_likeSet 14 = .ok (.iload_n 1, 1) := by decide +kernel
theorem dX9_likeSet_15 : decode cX9_likeSet 15 = .ok (.iload_n 3, 1) := by decide +kernel
theorem dX9_likeSet_16 : decode cX9_likeSet 16 = .ok (.invokevirtual 320, 3) := by decide +kernel
theorem dX9_likeSet_19 : decode cX9_likeSet 19 = .ok (.iconst (-1), 1) := by decide +kernel
theorem dX9_likeSet_20 : decode cX9_likeSet 20 = .ok (.if_icmp .ne 7, 3) := by decide +kernel
theorem dX9_likeSet_23 : decode cX9_likeSet 23 = .ok (.iconst 1, 1) := by decide +kernel
theorem dX9_likeSet_24 : decode cX9_likeSet 24 = .ok (.goto 4, 3) := by decide +kernel
theorem dX9_likeSet_27 : decode cX9_likeSet 27 = .ok (.iconst 0, 1) := by decide +kernel
theorem dX9_likeSet_28 : decode cX9_likeSet 28 = .ok (.iload_n 3, 1) := by decide +kernel
theorem dX9_likeSet_29 : decode cX9_likeSet 29 = .ok (.ishl, 1) := by decide +kernel
theorem dX9_likeSet_30 : decode cX9_likeSet 30 = .ok (.ior, 1) := by decide +kernel
theorem dX9_likeSet_31 : decode cX9_likeSet 31 = .ok (.istore_n 2, 1) := by decide +kernel
theorem dX9_likeSet_32 : decode cX9_likeSet 32 = .ok (.iinc 3 1, 3) := by decide +kernel
theorem dX9_likeSet_35 : decode cX9_likeSet 35 = .ok (.goto (-31), 3) := by decide +kernel
theorem dX9_likeSet_38 : decode cX9_likeSet 38 = .ok (.iload_n 2, 1) := by decide +kernel
theorem dX9_likeSet_39 : decode cX9_likeSet 39 = .ok (.ireturn, 1) := by decide +kernel
theorem dX9_tells_0 : decode cX9_tells 0 = .ok (.iload_n 1, 1) := by decide +kernel
theorem dX9_tells_1 : decode cX9_tells 1 = .ok (.invokestatic 323, 3) := by decide +kernel
theorem dX9_tells_4 : decode cX9_tells 4 = .ok (.ifCond .eq 23, 3) := by decide +kernel
theorem dX9_tells_7 : decode cX9_tells 7 = .ok (.aload_n 0, 1) := by decide +kernel
theorem dX9_tells_8 : decode cX9_tells 8 = .ok (.iload_n 2, 1) := by decide +kernel
theorem dX9_tells_9 : decode cX9_tells 9 = .ok (.invokevirtual 90, 3) := by decide +kernel
theorem dX9_tells_12 : decode cX9_tells 12 = .ok (.ifCond .eq 15, 3) := by decide +kernel
theorem dX9_tells_15 : decode cX9_tells 15 = .ok (.iload_n 3, 1) := by decide +kernel
theorem dX9_tells_16 : decode cX9_tells 16 = .ok (.i2l, 1) := by decide +kernel
theorem dX9_tells_17 : decode cX9_tells 17 = .ok (.lconst 0, 1) := by decide +kernel
theorem dX9_tells_18 : decode cX9_tells 18 = .ok (.ldc2_w 326, 3) := by decide +kernel
theorem dX9_tells_21 : decode cX9_tells 21 = .ok (.invokestatic 80, 3) := by decide +kernel
theorem dX9_tells_24 : decode cX9_tells 24 = .ok (.ifCond .ne 6, 3) := by decide +kernel
theorem dX9_tells_27 : decode cX9_tells 27 = .ok (.bipush (-2), 2) := by decide +kernel
theorem dX9_tells_29 : decode cX9_tells 29 = .ok (.ireturn, 1) := by decide +kernel
theorem dX9_tells_30 : decode cX9_tells 30 = .ok (.aload_n 0, 1) := by decide +kernel
theorem dX9_tells_31 : decode cX9_tells 31 = .ok (.getfield 57, 3) := by decide +kernel
theorem dX9_tells_34 : decode cX9_tells 34 = .ok (.iload_n 1, 1) := by decide +kernel
theorem dX9_tells_35 : decode cX9_tells 35 = .ok (.baload, 1) := by decide +kernel
theorem dX9_tells_36 : decode cX9_tells 36 = .ok (.ifCond .ne 6, 3) := by decide +kernel
theorem dX9_tells_39 : decode cX9_tells 39 = .ok (.bipush (-11), 2) := by decide +kernel
theorem dX9_tells_41 : decode cX9_tells 41 = .ok (.ireturn, 1) := by decide +kernel
theorem dX9_tells_42 : decode cX9_tells 42 = .ok (.aload_n 0, 1) := by decide +kernel
theorem dX9_tells_43 : decode cX9_tells 43 = .ok (.getfield 64, 3) := by decide +kernel
theorem dX9_tells_46 : decode cX9_tells 46 = .ok (.iload_n 1, 1) := by decide +kernel
theorem dX9_tells_47 : decode cX9_tells 47 = .ok (.iaload, 1) := by decide +kernel
theorem dX9_tells_48 : decode cX9_tells 48 = .ok (.bipush 20, 2) := by decide +kernel
theorem dX9_tells_50 : decode cX9_tells 50 = .ok (.if_icmp .le 6, 3) := by decide +kernel
theorem dX9_tells_53 : decode cX9_tells 53 = .ok (.bipush (-2), 2) := by decide +kernel
theorem dX9_tells_55 : decode cX9_tells 55 = .ok (.ireturn, 1) := by decide +kernel
theorem dX9_tells_56 : decode cX9_tells 56 = .ok (.iload_n 3, 1) := by decide +kernel
theorem dX9_tells_57 : decode cX9_tells 57 = .ok (.ifCond .eq 9, 3) := by decide +kernel
theorem dX9_tells_60 : decode cX9_tells 60 = .ok (.iload_n 3, 1) := by decide +kernel
theorem dX9_tells_61 : decode cX9_tells 61 = .ok (.bipush 7, 2) := by decide +kernel
theorem dX9_tells_63 : decode cX9_tells 63 = .ok (.if_icmp .ne 22, 3) := by decide +kernel
theorem dX9_tells_66 : decode cX9_tells 66 = .ok (.iload_n 3, 1) := by decide +kernel
theorem dX9_tells_67 : decode cX9_tells 67 = .ok (.ifCond .ne 12, 3) := by decide +kernel
theorem dX9_tells_70 : decode cX9_tells 70 = .ok (.aload_n 0, 1) := by decide +kernel
theorem dX9_tells_71 : decode cX9_tells 71 = .ok (.iload_n 1, 1) := by decide +kernel
theorem dX9_tells_72 : decode cX9_tells 72 = .ok (.iload_n 2, 1) := by decide +kernel
theorem dX9_tells_73 : decode cX9_tells 73 = .ok (.invokevirtual 320, 3) := by decide +kernel
theorem dX9_tells_76 : decode cX9_tells 76 = .ok (.goto 8, 3) := by decide +kernel
theorem dX9_tells_79 : decode cX9_tells 79 = .ok (.aload_n 0, 1) := by decide +kernel
theorem dX9_tells_80 : decode cX9_tells 80 = .ok (.iload_n 1, 1) := by decide +kernel
theorem dX9_tells_81 : decode cX9_tells 81 = .ok (.invokevirtual 328, 3) := by decide +kernel
theorem dX9_tells_84 : decode cX9_tells 84 = .ok (.ireturn, 1) := by decide +kernel
theorem dX9_tells_85 : decode cX9_tells 85 = .ok (.iload_n 3, 1) := by decide +kernel
theorem dX9_tells_86 : decode cX9_tells 86 = .ok (.iconst 1, 1) := by decide +kernel
theorem dX9_tells_87 : decode cX9_tells 87 = .ok (.if_icmp .ne 8, 3) := by decide +kernel
theorem dX9_tells_90 : decode cX9_tells 90 = .ok (.bipush 7, 2) := by decide +kernel
theorem dX9_tells_92 : decode cX9_tells 92 = .ok (.goto 32, 3) := by decide +kernel
theorem dX9_tells_95 : decode cX9_tells 95 = .ok (.iload_n 3, 1) := by decide +kernel
theorem dX9_tells_96 : decode cX9_tells 96 = .ok (.iconst 2, 1) := by decide +kernel
theorem dX9_tells_97 : decode cX9_tells 97 = .ok (.if_icmp .ne 7, 3) := by decide +kernel
theorem dX9_tells_100 : decode cX9_tells 100 = .ok (.iconst 2, 1) := by decide +kernel
theorem dX9_tells_101 : decode cX9_tells 101 = .ok (.goto 23, 3) := by decide +kernel
theorem dX9_tells_104 : decode cX9_tells 104 = .ok (.iload_n 3, 1) := by decide +kernel
theorem dX9_tells_105 : decode cX9_tells 105 = .ok (.iconst 5, 1) := by decide +kernel
theorem dX9_tells_106 : decode cX9_tells 106 = .ok (.if_icmp .ge 7, 3) := by decide +kernel
theorem dX9_tells_109 : decode cX9_tells 109 = .ok (.iconst 3, 1) := by decide +kernel
theorem dX9_tells_110 : decode cX9_tells 110 = .ok (.goto 14, 3) := by decide +kernel
theorem dX9_tells_113 : decode cX9_tells 113 = .ok (.iload_n 3, 1) := by decide +kernel
theorem dX9_tells_114 : decode cX9_tells 114 = .ok (.iconst 5, 1) := by decide +kernel
theorem dX9_tells_115 : decode cX9_tells 115 = .ok (.if_icmp .ne 7, 3) := by decide +kernel
theorem dX9_tells_118 : decode cX9_tells 118 = .ok (.iconst 1, 1) := by decide +kernel
theorem dX9_tells_119 : decode cX9_tells 119 = .ok (.goto 5, 3) := by decide +kernel
theorem dX9_tells_122 : decode cX9_tells 122 = .ok (.bipush 8, 2) := by decide +kernel
theorem dX9_tells_124 : decode cX9_tells 124 = .ok (.istore 4, 2) := by decide +kernel
theorem dX9_tells_126 : decode cX9_tells 126 = .ok (.iload 4, 2) := by decide +kernel
theorem dX9_tells_128 : decode cX9_tells 128 = .ok (.bipush 8, 2) := by decide +kernel
theorem dX9_tells_130 : decode cX9_tells 130 = .ok (.if_icmp .ne 10, 3) := by decide +kernel
theorem dX9_tells_133 : decode cX9_tells 133 = .ok (.aload_n 0, 1) := by decide +kernel
theorem dX9_tells_134 : decode cX9_tells 134 = .ok (.getfield 117, 3) := by decide +kernel
theorem dX9_tells_137 : decode cX9_tells 137 = .ok (.goto 10, 3) := by decide +kernel
theorem dX9_tells_140 : decode cX9_tells 140 = .ok (.aload_n 0, 1) := by decide +kernel
theorem dX9_tells_141 : decode cX9_tells 141 = .ok (.iload_n 2, 1) := by decide +kernel
theorem dX9_tells_142 : decode cX9_tells 142 = .ok (.iload 4, 2) := by decide +kernel
theorem dX9_tells_144 : decode cX9_tells 144 = .ok (.invokevirtual 103, 3) := by decide +kernel
theorem dX9_tells_147 : decode cX9_tells 147 = .ok (.istore 5, 2) := by decide +kernel
theorem dX9_tells_149 : decode cX9_tells 149 = .ok (.iload 4, 2) := by decide +kernel
theorem dX9_tells_151 : decode cX9_tells 151 = .ok (.bipush 8, 2) := by decide +kernel
theorem dX9_tells_153 : decode cX9_tells 153 = .ok (.if_icmp .ne 12, 3) := by decide +kernel
theorem dX9_tells_156 : decode cX9_tells 156 = .ok (.aload_n 0, 1) := by decide +kernel
theorem dX9_tells_157 : decode cX9_tells 157 = .ok (.getfield 74, 3) := by decide +kernel
theorem dX9_tells_160 : decode cX9_tells 160 = .ok (.iconst 1, 1) := by decide +kernel
theorem dX9_tells_161 : decode cX9_tells 161 = .ok (.isub, 1) := by decide +kernel
theorem dX9_tells_162 : decode cX9_tells 162 = .ok (.goto 38, 3) := by decide +kernel
theorem dX9_tells_165 : decode cX9_tells 165 = .ok (.iload 4, 2) := by decide +kernel
theorem dX9_tells_167 : decode cX9_tells 167 = .ok (.bipush 7, 2) := by decide +kernel
theorem dX9_tells_169 : decode cX9_tells 169 = .ok (.if_icmp .ne 7, 3) := by decide +kernel
theorem dX9_tells_172 : decode cX9_tells 172 = .ok (.iconst 5, 1) := by decide +kernel
theorem dX9_tells_173 : decode cX9_tells 173 = .ok (.goto 27, 3) := by decide +kernel
theorem dX9_tells_176 : decode cX9_tells 176 = .ok (.iload 4, 2) := by decide +kernel
theorem dX9_tells_178 : decode cX9_tells 178 = .ok (.iconst 2, 1) := by decide +kernel
theorem dX9_tells_179 : decode cX9_tells 179 = .ok (.if_icmp .ne 8, 3) := by decide +kernel
theorem dX9_tells_182 : decode cX9_tells 182 = .ok (.bipush 9, 2) := by decide +kernel
theorem dX9_tells_184 : decode cX9_tells 184 = .ok (.goto 16, 3) := by decide +kernel
theorem dX9_tells_187 : decode cX9_tells 187 = .ok (.iload 4, 2) := by decide +kernel
theorem dX9_tells_189 : decode cX9_tells 189 = .ok (.iconst 3, 1) := by decide +kernel
theorem dX9_tells_190 : decode cX9_tells 190 = .ok (.if_icmp .ne 8, 3) := by decide +kernel
theorem dX9_tells_193 : decode cX9_tells 193 = .ok (.bipush 99, 2) := by decide +kernel
theorem dX9_tells_195 : decode cX9_tells 195 = .ok (.goto 5, 3) := by decide +kernel
theorem dX9_tells_198 : decode cX9_tells 198 = .ok (.bipush 23, 2) := by decide +kernel
theorem dX9_tells_200 : decode cX9_tells 200 = .ok (.istore 6, 2) := by decide +kernel
theorem dX9_tells_202 : decode cX9_tells 202 = .ok (.iconst 0, 1) := by decide +kernel
theorem dX9_tells_203 : decode cX9_tells 203 = .ok (.istore 7, 2) := by decide +kernel
theorem dX9_tells_205 : decode cX9_tells 205 = .ok (.iconst 0, 1) := by decide +kernel
theorem dX9_tells_206 : decode cX9_tells 206 = .ok (.istore 8, 2) := by decide +kernel
theorem dX9_tells_208 : decode cX9_tells 208 = .ok (.iconst (-1), 1) := by decide +kernel
theorem dX9_tells_209 : decode cX9_tells 209 = .ok (.istore 9, 2) := by decide +kernel
theorem dX9_tells_211 : decode cX9_tells 211 = .ok (.iload 6, 2) := by decide +kernel
theorem dX9_tells_213 : decode cX9_tells 213 = .ok (.istore 10, 2) := by decide +kernel
theorem dX9_tells_215 : decode cX9_tells 215 = .ok (.iload 10, 2) := by decide +kernel
theorem dX9_tells_217 : decode cX9_tells 217 = .ok (.ifCond .lt 55, 3) := by decide +kernel
theorem dX9_tells_220 : decode cX9_tells 220 = .ok (.aload_n 0, 1) := by decide +kernel
theorem dX9_tells_221 : decode cX9_tells 221 = .ok (.iload 4, 2) := by decide +kernel
theorem dX9_tells_223 : decode cX9_tells 223 = .ok (.iload_n 2, 1) := by decide +kernel
theorem dX9_tells_224 : decode cX9_tells 224 = .ok (.iload 10, 2) := by decide +kernel
theorem dX9_tells_226 : decode cX9_tells 226 = .ok (.invokevirtual 107, 3) := by decide +kernel
theorem dX9_tells_229 : decode cX9_tells 229 = .ok (.aload_n 0, 1) := by decide +kernel
theorem dX9_tells_230 : decode cX9_tells 230 = .ok (.iload_n 1, 1) := by decide +kernel
theorem dX9_tells_231 : decode cX9_tells 231 = .ok (.iload_n 2, 1) := by decide +kernel
theorem dX9_tells_232 : decode cX9_tells 232 = .ok (.invokevirtual 320, 3) := by decide +kernel
theorem dX9_tells_235 : decode cX9_tells 235 = .ok (.iconst (-1), 1) := by decide +kernel
theorem dX9_tells_236 : decode cX9_tells 236 = .ok (.if_icmp .ne 30, 3) := by decide +kernel
theorem dX9_tells_239 : decode cX9_tells 239 = .ok (.iload 7, 2) := by decide +kernel
theorem dX9_tells_241 : decode cX9_tells 241 = .ok (.iload 10, 2) := by decide +kernel
theorem dX9_tells_243 : decode cX9_tells 243 = .ok (.bipush 24, 2) := by decide +kernel
theorem dX9_tells_245 : decode cX9_tells 245 = .ok (.if_icmp .ge 10, 3) := by decide +kernel
theorem dX9_tells_248 : decode cX9_tells 248 = .ok (.iconst 1, 1) := by decide +kernel
theorem dX9_tells_249 : decode cX9_tells 249 = .ok (.iload 10, 2) := by decide +kernel
theorem dX9_tells_251 : decode cX9_tells 251 = .ok (.ishl, 1) := by decide +kernel
theorem dX9_tells_252 : decode cX9_tells 252 = .ok (.goto 4, 3) := by decide +kernel
theorem dX9_tells_255 : decode cX9_tells 255 = .ok (.iconst 0, 1) := by decide +kernel
theorem dX9_tells_256 : decode cX9_tells 256 = .ok (.ior, 1) := by decide +kernel
theorem dX9_tells_257 : decode cX9_tells 257 = .ok (.istore 7, 2) := by decide +kernel
