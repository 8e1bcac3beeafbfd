theorem dX8_tells_50 : decode cX8_tells 50 = .ok (.aload 4, 2) := by decide +kernel
theorem dX8_tells_52 : decode cX8_tells 52 = .ok (.getfield 201, 3) := by decide +kernel
theorem dX8_tells_55 : decode cX8_tells 55 = .ok (.bipush 20, 2) := by decide +kernel
theorem dX8_tells_57 : decode cX8_tells 57 = .ok (.if_icmp .le 6, 3) := by decide +kernel
theorem dX8_tells_60 : decode cX8_tells 60 = .ok (.bipush (-2), 2) := by decide +kernel
theorem dX8_tells_62 : decode cX8_tells 62 = .ok (.ireturn, 1) := by decide +kernel
theorem dX8_tells_63 : decode cX8_tells 63 = .ok (.iload_n 3, 1) := by decide +kernel
theorem dX8_tells_64 : decode cX8_tells 64 = .ok (.tableswitch 131 0 6 #[44, 63, 74, 85, 93, 101, 112], 44) := by decide +kernel
theorem dX8_tells_108 : decode cX8_tells 108 = .ok (.aload_n 0, 1) := by decide +kernel
theorem dX8_tells_109 : decode cX8_tells 109 = .ok (.getfield 16, 3) := by decide +kernel
theorem dX8_tells_112 : decode cX8_tells 112 = .ok (.aload_n 0, 1) := by decide +kernel
theorem dX8_tells_113 : decode cX8_tells 113 = .ok (.getfield 10, 3) := by decide +kernel
theorem dX8_tells_116 : decode cX8_tells 116 = .ok (.invokevirtual 137, 3) := by decide +kernel
theorem dX8_tells_119 : decode cX8_tells 119 = .ok (.aload_n 0, 1) := by decide +kernel
theorem dX8_tells_120 : decode cX8_tells 120 = .ok (.aload 4, 2) := by decide +kernel
theorem dX8_tells_122 : decode cX8_tells 122 = .ok (.iload_n 2, 1) := by decide +kernel
theorem dX8_tells_123 : decode cX8_tells 123 = .ok (.invokevirtual 202, 3) := by decide +kernel
theorem dX8_tells_126 : decode cX8_tells 126 = .ok (.ireturn, 1) := by decide +kernel
theorem dX8_tells_127 : decode cX8_tells 127 = .ok (.aload_n 0, 1) := by decide +kernel
theorem dX8_tells_128 : decode cX8_tells 128 = .ok (.aload 4, 2) := by decide +kernel
theorem dX8_tells_130 : decode cX8_tells 130 = .ok (.iload_n 2, 1) := by decide +kernel
theorem dX8_tells_131 : decode cX8_tells 131 = .ok (.bipush 7, 2) := by decide +kernel
theorem dX8_tells_133 : decode cX8_tells 133 = .ok (.iconst 5, 1) := by decide +kernel
theorem dX8_tells_134 : decode cX8_tells 134 = .ok (.invokevirtual 206, 3) := by decide +kernel
theorem dX8_tells_137 : decode cX8_tells 137 = .ok (.ireturn, 1) := by decide +kernel
theorem dX8_tells_138 : decode cX8_tells 138 = .ok (.aload_n 0, 1) := by decide +kernel
theorem dX8_tells_139 : decode cX8_tells 139 = .ok (.aload 4, 2) := by decide +kernel
theorem dX8_tells_141 : decode cX8_tells 141 = .ok (.iload_n 2, 1) := by decide +kernel
theorem dX8_tells_142 : decode cX8_tells 142 = .ok (.iconst 2, 1) := by decide +kernel
theorem dX8_tells_143 : decode cX8_tells 143 = .ok (.bipush 9, 2) := by decide +kernel
theorem dX8_tells_145 : decode cX8_tells 145 = .ok (.invokevirtual 206, 3) := by decide +kernel
theorem dX8_tells_148 : decode cX8_tells 148 = .ok (.ireturn, 1) := by decide +kernel
theorem dX8_tells_149 : decode cX8_tells 149 = .ok (.aload_n 0, 1) := by decide +kernel
theorem dX8_tells_150 : decode cX8_tells 150 = .ok (.aload 4, 2) := by decide +kernel
theorem dX8_tells_152 : decode cX8_tells 152 = .ok (.iload_n 2, 1) := by decide +kernel
theorem dX8_tells_153 : decode cX8_tells 153 = .ok (.invokevirtual 210, 3) := by decide +kernel
theorem dX8_tells_156 : decode cX8_tells 156 = .ok (.ireturn, 1) := by decide +kernel
theorem dX8_tells_157 : decode cX8_tells 157 = .ok (.aload_n 0, 1) := by decide +kernel
theorem dX8_tells_158 : decode cX8_tells 158 = .ok (.aload 4, 2) := by decide +kernel
theorem dX8_tells_160 : decode cX8_tells 160 = .ok (.iload_n 2, 1) := by decide +kernel
theorem dX8_tells_161 : decode cX8_tells 161 = .ok (.invokevirtual 213, 3) := by decide +kernel
theorem dX8_tells_164 : decode cX8_tells 164 = .ok (.ireturn, 1) := by decide +kernel
theorem dX8_tells_165 : decode cX8_tells 165 = .ok (.aload_n 0, 1) := by decide +kernel
theorem dX8_tells_166 : decode cX8_tells 166 = .ok (.aload 4, 2) := by decide +kernel
theorem dX8_tells_168 : decode cX8_tells 168 = .ok (.iload_n 2, 1) := by decide +kernel
theorem dX8_tells_169 : decode cX8_tells 169 = .ok (.iconst 1, 1) := by decide +kernel
theorem dX8_tells_170 : decode cX8_tells 170 = .ok (.bipush 23, 2) := by decide +kernel
theorem dX8_tells_172 : decode cX8_tells 172 = .ok (.invokevirtual 206, 3) := by decide +kernel
theorem dX8_tells_175 : decode cX8_tells 175 = .ok (.ireturn, 1) := by decide +kernel
theorem dX8_tells_176 : decode cX8_tells 176 = .ok (.aload_n 0, 1) := by decide +kernel
theorem dX8_tells_177 : decode cX8_tells 177 = .ok (.aload 4, 2) := by decide +kernel
theorem dX8_tells_179 : decode cX8_tells 179 = .ok (.iload_n 2, 1) := by decide +kernel
theorem dX8_tells_180 : decode cX8_tells 180 = .ok (.bipush 11, 2) := by decide +kernel
theorem dX8_tells_182 : decode cX8_tells 182 = .ok (.aload_n 0, 1) := by decide +kernel
theorem dX8_tells_183 : decode cX8_tells 183 = .ok (.getfield 32, 3) := by decide +kernel
theorem dX8_tells_186 : decode cX8_tells 186 = .ok (.invokevirtual 216, 3) := by decide +kernel
theorem dX8_tells_189 : decode cX8_tells 189 = .ok (.iconst 1, 1) := by decide +kernel
theorem dX8_tells_190 : decode cX8_tells 190 = .ok (.isub, 1) := by decide +kernel
theorem dX8_tells_191 : decode cX8_tells 191 = .ok (.invokevirtual 206, 3) := by decide +kernel
theorem dX8_tells_194 : decode cX8_tells 194 = .ok (.ireturn, 1) := by decide +kernel
theorem dX8_tells_195 : decode cX8_tells 195 = .ok (.aload_n 0, 1) := by decide +kernel
theorem dX8_tells_196 : decode cX8_tells 196 = .ok (.aload 4, 2) := by decide +kernel
theorem dX8_tells_198 : decode cX8_tells 198 = .ok (.invokevirtual 218, 3) := by decide +kernel
theorem dX8_tells_201 : decode cX8_tells 201 = .ok (.ireturn, 1) := by decide +kernel
theorem dX8_film_0 : decode cX8_film 0 = .ok (.iload_n 1, 1) := by decide +kernel
theorem dX8_film_1 : decode cX8_film 1 = .ok (.invokestatic 195, 3) := by decide +kernel
theorem dX8_film_4 : decode cX8_film 4 = .ok (.ifCond .eq 24, 3) := by decide +kernel
theorem dX8_film_7 : decode cX8_film 7 = .ok (.aload_n 0, 1) := by decide +kernel
theorem dX8_film_8 : decode cX8_film 8 = .ok (.getfield 10, 3) := by decide +kernel
theorem dX8_film_11 : decode cX8_film 11 = .ok (.iload_n 2, 1) := by decide +kernel
theorem dX8_film_12 : decode cX8_film 12 = .ok (.invokevirtual 77, 3) := by decide +kernel
theorem dX8_film_15 : decode cX8_film 15 = .ok (.ifCond .eq 13, 3) := by decide +kernel
theorem dX8_film_18 : decode cX8_film 18 = .ok (.iload_n 3, 1) := by decide +kernel
theorem dX8_film_19 : decode cX8_film 19 = .ok (.ifCond .lt 9, 3) := by decide +kernel
theorem dX8_film_22 : decode cX8_film 22 = .ok (.iload_n 3, 1) := by decide +kernel
theorem dX8_film_23 : decode cX8_film 23 = .ok (.bipush 20, 2) := by decide +kernel
theorem dX8_film_25 : decode cX8_film 25 = .ok (.if_icmp .le 6, 3) := by decide +kernel
theorem dX8_film_28 : decode cX8_film 28 = .ok (.bipush (-2), 2) := by decide +kernel
theorem dX8_film_30 : decode cX8_film 30 = .ok (.ireturn, 1) := by decide +kernel
theorem dX8_film_31 : decode cX8_film 31 = .ok (.aload_n 0, 1) := by decide +kernel
theorem dX8_film_32 : decode cX8_film 32 = .ok (.getfield 52, 3) := by decide +kernel
theorem dX8_film_35 : decode cX8_film 35 = .ok (.iload_n 1, 1) := by decide +kernel
theorem dX8_film_36 : decode cX8_film 36 = .ok (.aaload, 1) := by decide +kernel
theorem dX8_film_37 : decode cX8_film 37 = .ok (.astore 4, 2) := by decide +kernel
theorem dX8_film_39 : decode cX8_film 39 = .ok (.aload 4, 2) := by decide +kernel
theorem dX8_film_41 : decode cX8_film 41 = .ok (.iconst 0, 1) := by decide +kernel
theorem dX8_film_42 : decode cX8_film 42 = .ok (.iload_n 3, 1) := by decide +kernel
theorem dX8_film_43 : decode cX8_film 43 = .ok (.invokevirtual 222, 3) := by decide +kernel
theorem dX8_film_46 : decode cX8_film 46 = .ok (.aload_n 0, 1) := by decide +kernel
theorem dX8_film_47 : decode cX8_film 47 = .ok (.getfield 16, 3) := by decide +kernel
theorem dX8_film_50 : decode cX8_film 50 = .ok (.aload_n 0, 1) := by decide +kernel
theorem dX8_film_51 : decode cX8_film 51 = .ok (.getfield 10, 3) := by decide +kernel
theorem dX8_film_54 : decode cX8_film 54 = .ok (.invokevirtual 137, 3) := by decide +kernel
theorem dX8_film_57 : decode cX8_film 57 = .ok (.iconst 0, 1) := by decide +kernel
theorem dX8_film_58 : decode cX8_film 58 = .ok (.istore 5, 2) := by decide +kernel
theorem dX8_film_60 : decode cX8_film 60 = .ok (.iconst 0, 1) := by decide +kernel
theorem dX8_film_61 : decode cX8_film 61 = .ok (.istore 6, 2) := by decide +kernel
theorem dX8_film_63 : decode cX8_film 63 = .ok (.iload 6, 2) := by decide +kernel
theorem dX8_film_65 : decode cX8_film 65 = .ok (.iload_n 3, 1) := by decide +kernel
theorem dX8_film_66 : decode cX8_film 66 = .ok (.if_icmp .ge 65, 3) := by decide +kernel
theorem dX8_film_69 : decode cX8_film 69 = .ok (.aload_n 0, 1) := by decide +kernel
theorem dX8_film_70 : decode cX8_film 70 = .ok (.getfield 32, 3) := by decide +kernel
theorem dX8_film_73 : decode cX8_film 73 = .ok (.aload_n 0, 1) := by decide +kernel
theorem dX8_film_74 : decode cX8_film 74 = .ok (.getfield 16, 3) := by decide +kernel
theorem dX8_film_77 : decode cX8_film 77 = .ok (.iload_n 2, 1) := by decide +kernel
theorem dX8_film_78 : decode cX8_film 78 = .ok (.invokevirtual 81, 3) := by decide +kernel
theorem dX8_film_81 : decode cX8_film 81 = .ok (.istore 7, 2) := by decide +kernel
theorem dX8_film_83 : decode cX8_film 83 = .ok (.aload 4, 2) := by decide +kernel
theorem dX8_film_85 : decode cX8_film 85 = .ok (.iload 6, 2) := by decide +kernel
theorem dX8_film_87 : decode cX8_film 87 = .ok (.iload 7, 2) := by decide +kernel
theorem dX8_film_89 : decode cX8_film 89 = .ok (.invokevirtual 226, 3) := by decide +kernel
theorem dX8_film_92 : decode cX8_film 92 = .ok (.pop, 1) := by decide +kernel
theorem dX8_film_93 : decode cX8_film 93 = .ok (.iload 5, 2) := by decide +kernel
theorem dX8_film_95 : decode cX8_film 95 = .ok (.iload 7, 2) := by decide +kernel
theorem dX8_film_97 : decode cX8_film 97 = .ok (.iadd, 1) := by decide +kernel
theorem dX8_film_98 : decode cX8_film 98 = .ok (.istore 5, 2) := by decide +kernel
theorem dX8_film_100 : decode cX8_film 100 = .ok (.aload_n 0, 1) := by decide +kernel
theorem dX8_film_101 : decode cX8_film 101 = .ok (.getfield 32, 3) := by decide +kernel
theorem dX8_film_104 : decode cX8_film 104 = .ok (.aload_n 0, 1) := by decide +kernel
theorem dX8_film_105 : decode cX8_film 105 = .ok (.getfield 16, 3) := by decide +kernel
theorem dX8_film_108 : decode cX8_film 108 = .ok (.iload_n 2, 1) := by decide +kernel
theorem dX8_film_109 : decode cX8_film 109 = .ok (.invokevirtual 144, 3) := by decide +kernel
theorem dX8_film_112 : decode cX8_film 112 = .ok (.aload_n 0, 1) := by decide +kernel
theorem dX8_film_113 : decode cX8_film 113 = .ok (.getfield 16, 3) := by decide +kernel
theorem dX8_film_116 : decode cX8_film 116 = .ok (.dup, 1) := by decide +kernel
theorem dX8_film_117 : decode cX8_film 117 = .ok (.getfield 119, 3) := by decide +kernel
theorem dX8_film_120 : decode cX8_film 120 = .ok (.iconst 1, 1) := by decide +kernel
theorem dX8_film_121 : decode cX8_film 121 = .ok (.iadd, 1) := by decide +kernel
theorem dX8_film_122 : decode cX8_film 122 = .ok (.putfield 119, 3) := by decide +kernel
theorem dX8_film_125 : decode cX8_film 125 = .ok (.iinc 6 1, 3) := by decide +kernel
theorem dX8_film_128 : decode cX8_film 128 = .ok (.goto (-65), 3) := by decide +kernel
theorem dX8_film_131 : decode cX8_film 131 = .ok (.iload 5, 2) := by decide +kernel
theorem dX8_film_133 : decode cX8_film 133 = .ok (.ireturn, 1) := by decide +kernel
theorem dX8_drawn_0 : decode cX8_drawn 0 = .ok (.iload_n 2, 1) := by decide +kernel
theorem dX8_drawn_1 : decode cX8_drawn 1 = .ok (.ifCond .lt 9, 3) := by decide +kernel
theorem dX8_drawn_4 : decode cX8_drawn 4 = .ok (.iload_n 2, 1) := by decide +kernel
theorem dX8_drawn_5 : decode cX8_drawn 5 = .ok (.bipush 40, 2) := by decide +kernel
theorem dX8_drawn_7 : decode cX8_drawn 7 = .ok (.if_icmp .le 8, 3) := by decide +kernel
theorem dX8_drawn_10 : decode cX8_drawn 10 = .ok (.bipush (-2), 2) := by decide +kernel
theorem dX8_drawn_12 : decode cX8_drawn 12 = .ok (.goto 9, 3) := by decide +kernel
theorem dX8_drawn_15 : decode cX8_drawn 15 = .ok (.aload_n 0, 1) := by decide +kernel
theorem dX8_drawn_16 : decode cX8_drawn 16 = .ok (.iload_n 1, 1) := by decide +kernel
theorem dX8_drawn_17 : decode cX8_drawn 17 = .ok (.iload_n 2, 1) := by decide +kernel
theorem dX8_drawn_18 : decode cX8_drawn 18 = .ok (.invokevirtual 229, 3) := by decide +kernel
theorem dX8_drawn_21 : decode cX8_drawn 21 = .ok (.ireturn, 1) := by decide +kernel
theorem dX8_chance_0 : decode cX8_chance 0 = .ok (.iload_n 2, 1) := by decide +kernel
theorem dX8_chance_1 : decode cX8_chance 1 = .ok (.iconst 1, 1) := by decide +kernel
theorem dX8_chance_2 : decode cX8_chance 2 = .ok (.if_icmp .lt 31, 3) := by decide +kernel
theorem dX8_chance_5 : decode cX8_chance 5 = .ok (.iload_n 2, 1) := by decide +kernel
theorem dX8_chance_6 : decode cX8_chance 6 = .ok (.bipush 20, 2) := by decide +kernel
theorem dX8_chance_8 : decode cX8_chance 8 = .ok (.if_icmp .gt 25, 3) := by decide +kernel
theorem dX8_chance_11 : decode cX8_chance 11 = .ok (.iload_n 3, 1) := by decide +kernel
theorem dX8_chance_12 : decode cX8_chance 12 = .ok (.ifCond .lt 21, 3) := by decide +kernel
theorem dX8_chance_15 : decode cX8_chance 15 = .ok (.iload_n 3, 1) := by decide +kernel
theorem dX8_chance_16 : decode cX8_chance 16 = .ok (.sipush 9999, 3) := by decide +kernel
theorem dX8_chance_19 : decode cX8_chance 19 = .ok (.if_icmp .gt 14, 3) := by decide +kernel
theorem dX8_chance_22 : decode cX8_chance 22 = .ok (.iload 4, 2) := by decide +kernel
theorem dX8_chance_24 : decode cX8_chance 24 = .ok (.ifCond .lt 9, 3) := by decide +kernel
theorem dX8_chance_27 : decode cX8_chance 27 = .ok (.iload 4, 2) := by decide +kernel
theorem dX8_chance_29 : decode cX8_chance 29 = .ok (.iconst 1, 1) := by decide +kernel
theorem dX8_chance_30 : decode cX8_chance 30 = .ok (.if_icmp .le 7, 3) := by decide +kernel
theorem dX8_chance_33 : decode cX8_chance 33 = .ok (.ldc2_w 185, 3) := by decide +kernel
theorem dX8_chance_36 : decode cX8_chance 36 = .ok (.lreturn, 1) := by decide +kernel
theorem dX8_chance_37 : decode cX8_chance 37 = .ok (.iconst 0, 1) := by decide +kernel
theorem dX8_chance_38 : decode cX8_chance 38 = .ok (.istore 5, 2) := by decide +kernel
theorem dX8_chance_40 : decode cX8_chance 40 = .ok (.iconst 0, 1) := by decide +kernel
theorem dX8_chance_41 : decode cX8_chance 41 = .ok (.istore 6, 2) := by decide +kernel
theorem dX8_chance_43 : decode cX8_chance 43 = .ok (.iload 6, 2) := by decide +kernel
theorem dX8_chance_45 : decode cX8_chance 45 = .ok (.iload_n 2, 1) := by decide +kernel
theorem dX8_chance_46 : decode cX8_chance 46 = .ok (.if_icmp .ge 26, 3) := by decide +kernel
theorem dX8_chance_49 : decode cX8_chance 49 = .ok (.aload_n 0, 1) := by decide +kernel
theorem dX8_chance_50 : decode cX8_chance 50 = .ok (.iload_n 1, 1) := by decide +kernel
theorem dX8_chance_51 : decode cX8_chance 51 = .ok (.iload 6, 2) := by decide +kernel
theorem dX8_chance_53 : decode cX8_chance 53 = .ok (.iadd, 1) := by decide +kernel
theorem dX8_chance_54 : decode cX8_chance 54 = .ok (.bipush 6, 2) := by decide +kernel
theorem dX8_chance_56 : decode cX8_chance 56 = .ok (.invokevirtual 229, 3) := by decide +kernel
theorem dX8_chance_59 : decode cX8_chance 59 = .ok (.iload_n 3, 1) := by decide +kernel
theorem dX8_chance_60 : decode cX8_chance 60 = .ok (.if_icmp .lt 6, 3) := by decide +kernel
theorem dX8_chance_63 : decode cX8_chance 63 = .ok (.iinc 5 1, 3) := by decide +kernel
theorem dX8_chance_66 : decode cX8_chance 66 = .ok (.iinc 6 1, 3) := by decide +kernel
theorem dX8_chance_69 : decode cX8_chance 69 = .ok (.goto (-26), 3) := by decide +kernel
theorem dX8_chance_72 : decode cX8_chance 72 = .ok (.iload 5, 2) := by decide +kernel
theorem dX8_chance_74 : decode cX8_chance 74 = .ok (.iload_n 2, 1) := by decide +kernel
theorem dX8_chance_75 : decode cX8_chance 75 = .ok (.iload 4, 2) := by decide +kernel
theorem dX8_chance_77 : decode cX8_chance 77 = .ok (.invokestatic 191, 3) := by decide +kernel
theorem dX8_chance_80 : decode cX8_chance 80 = .ok (.lreturn, 1) := by decide +kernel
theorem dX8_image_0 : decode cX8_image 0 = .ok (.aload_n 0, 1) := by decide +kernel
theorem dX8_image_1 : decode cX8_image 1 = .ok (.getfield 19, 3) := by decide +kernel
theorem dX8_image_4 : decode cX8_image 4 = .ok (.aload_n 0, 1) := by decide +kernel
theorem dX8_image_5 : decode cX8_image 5 = .ok (.getfield 10, 3) := by decide +kernel
theorem dX8_image_8 : decode cX8_image 8 = .ok (.invokevirtual 137, 3) := by decide +kernel
theorem dX8_image_11 : decode cX8_image 11 = .ok (.aload_n 0, 1) := by decide +kernel
theorem dX8_image_12 : decode cX8_image 12 = .ok (.iconst 1, 1) := by decide +kernel
theorem dX8_image_13 : decode cX8_image 13 = .ok (.putfield 232, 3) := by decide +kernel
theorem dX8_image_16 : decode cX8_image 16 = .ok (.aload_n 0, 1) := by decide +kernel
theorem dX8_image_17 : decode cX8_image 17 = .ok (.getfield 19, 3) := by decide +kernel
theorem dX8_image_20 : decode cX8_image 20 = .ok (.getfield 236, 3) := by decide +kernel
theorem dX8_image_23 : decode cX8_image 23 = .ok (.ireturn, 1) := by decide +kernel
theorem dX8_back_0 : decode cX8_back 0 = .ok (.aload_n 0, 1) := by decide +kernel
theorem dX8_back_1 : decode cX8_back 1 = .ok (.getfield 232, 3) := by decide +kernel
theorem dX8_back_4 : decode cX8_back 4 = .ok (.ifCond .ne 6, 3) := by decide +kernel
theorem dX8_back_7 : decode cX8_back 7 = .ok (.bipush (-3), 2) := by decide +kernel
theorem dX8_back_9 : decode cX8_back 9 = .ok (.ireturn, 1) := by decide +kernel
theorem dX8_back_10 : decode cX8_back 10 = .ok (.aload_n 0, 1) := by decide +kernel
theorem dX8_back_11 : decode cX8_back 11 = .ok (.getfield 10, 3) := by decide +kernel
theorem dX8_back_14 : decode cX8_back 14 = .ok (.aload_n 0, 1) := by decide +kernel
theorem dX8_back_15 : decode cX8_back 15 = .ok (.getfield 19, 3) := by decide +kernel
theorem dX8_back_18 : decode cX8_back 18 = .ok (.invokevirtual 137, 3) := by decide +kernel
theorem dX8_back_21 : decode cX8_back 21 = .ok (.aload_n 0, 1) := by decide +kernel
theorem dX8_back_22 : decode cX8_back 22 = .ok (.getfield 10, 3) := by decide +kernel
theorem dX8_back_25 : decode cX8_back 25 = .ok (.getfield 236, 3) := by decide +kernel
theorem dX8_back_28 : decode cX8_back 28 = .ok (.ireturn, 1) := by decide +kernel
theorem dX8_count_0 : decode cX8_count 0 = .ok (.iload_n 1, 1) := by decide +kernel
theorem dX8_count_1 : decode cX8_count 1 = .ok (.tableswitch 87 0 5 #[39, 47, 55, 63, 71, 79], 39) := by decide +kernel
theorem dX8_count_40 : decode cX8_count 40 = .ok (.aload_n 0, 1) := by decide +kernel
theorem dX8_count_41 : decode cX8_count 41 = .ok (.getfield 10, 3) := by decide +kernel
theorem dX8_count_44 : decode cX8_count 44 = .ok (.getfield 236, 3) := by decide +kernel
theorem dX8_count_47 : decode cX8_count 47 = .ok (.ireturn, 1) := by decide +kernel
theorem dX8_count_48 : decode cX8_count 48 = .ok (.aload_n 0, 1) := by decide +kernel
theorem dX8_count_49 : decode cX8_count 49 = .ok (.getfield 10, 3) := by decide +kernel
theorem dX8_count_52 : decode cX8_count 52 = .ok (.invokevirtual 239, 3) := by decide +kernel
theorem dX8_count_55 : decode cX8_count 55 = .ok (.ireturn, 1) := by decide +kernel
theorem dX8_count_56 : decode cX8_count 56 = .ok (.aload_n 0, 1) := by decide +kernel
theorem dX8_count_57 : decode cX8_count 57 = .ok (.getfield 10, 3) := by decide +kernel
theorem dX8_count_60 : decode cX8_count 60 = .ok (.getfield 119, 3) := by decide +kernel
theorem dX8_count_63 : decode cX8_count 63 = .ok (.ireturn, 1) := by decide +kernel
theorem dX8_count_64 : decode cX8_count 64 = .ok (.aload_n 0, 1) := by decide +kernel
theorem dX8_count_65 : decode cX8_count 65 = .ok (.getfield 32, 3) := by decide +kernel
theorem dX8_count_68 : decode cX8_count 68 = .ok (.invokevirtual 216, 3) := by decide +kernel
theorem dX8_count_71 : decode cX8_count 71 = .ok (.ireturn, 1) := by decide +kernel
theorem dX8_count_72 : decode cX8_count 72 = .ok (.aload_n 0, 1) := by decide +kernel
theorem dX8_count_73 : decode cX8_count 73 = .ok (.getfield 25, 3) := by decide +kernel
theorem dX8_count_76 : decode cX8_count 76 = .ok (.getfield 94, 3) := by decide +kernel
theorem dX8_count_79 : decode cX8_count 79 = .ok (.ireturn, 1) := by decide +kernel
theorem dX8_count_80 : decode cX8_count 80 = .ok (.aload_n 0, 1) := by decide +kernel
theorem dX8_count_81 : decode cX8_count 81 = .ok (.getfield 10, 3) := by decide +kernel
theorem dX8_count_84 : decode cX8_count 84 = .ok (.getfield 116, 3) := by decide +kernel
theorem dX8_count_87 : decode cX8_count 87 = .ok (.ireturn, 1) := by decide +kernel
theorem dX8_count_88 : decode cX8_count 88 = .ok (.bipush (-2), 2) := by decide +kernel
theorem dX8_count_90 : decode cX8_count 90 = .ok (.ireturn, 1) := by decide +kernel
theorem dX8_sheet_0 : decode cX8_sheet 0 = .ok (.iload_n 1, 1) := by decide +kernel
theorem dX8_sheet_1 : decode cX8_sheet 1 = .ok (.invokestatic 195, 3) := by decide +kernel
theorem dX8_sheet_4 : decode cX8_sheet 4 = .ok (.ifCond .eq 13, 3) := by decide +kernel
theorem dX8_sheet_7 : decode cX8_sheet 7 = .ok (.iload_n 2, 1) := by decide +kernel
theorem dX8_sheet_8 : decode cX8_sheet 8 = .ok (.iconst (-1), 1) := by decide +kernel
theorem dX8_sheet_9 : decode cX8_sheet 9 = .ok (.if_icmp .lt 8, 3) := by decide +kernel
theorem dX8_sheet_12 : decode cX8_sheet 12 = .ok (.iload_n 2, 1) := by decide +kernel
theorem dX8_sheet_13 : decode cX8_sheet 13 = .ok (.iconst 2, 1) := by decide +kernel
theorem dX8_sheet_14 : decode cX8_sheet 14 = .ok (.if_icmp .le 6, 3) := by decide +kernel
theorem dX8_sheet_17 : decode cX8_sheet 17 = .ok (.bipush (-2), 2) := by decide +kernel
theorem dX8_sheet_19 : decode cX8_sheet 19 = .ok (.ireturn, 1) := by decide +kernel
theorem dX8_sheet_20 : decode cX8_sheet 20 = .ok (.iload_n 2, 1) := by decide +kernel
theorem dX8_sheet_21 : decode cX8_sheet 21 = .ok (.iconst (-1), 1) := by decide +kernel
theorem dX8_sheet_22 : decode cX8_sheet 22 = .ok (.if_icmp .ne 16, 3) := by decide +kernel
theorem dX8_sheet_25 : decode cX8_sheet 25 = .ok (.aload_n 0, 1) := by decide +kernel
theorem dX8_sheet_26 : decode cX8_sheet 26 = .ok (.getfield 52, 3) := by decide +kernel
theorem dX8_sheet_29 : decode cX8_sheet 29 = .ok (.iload_n 1, 1) := by decide +kernel
theorem dX8_sheet_30 : decode cX8_sheet 30 = .ok (.aaload, 1) := by decide +kernel
theorem dX8_sheet_31 : decode cX8_sheet 31 = .ok (.iconst (-1), 1) := by decide +kernel
theorem dX8_sheet_32 : decode cX8_sheet 32 = .ok (.iconst 0, 1) := by decide +kernel
theorem dX8_sheet_33 : decode cX8_sheet 33 = .ok (.invokevirtual 222, 3) := by decide +kernel
theorem dX8_sheet_36 : decode cX8_sheet 36 = .ok (.iconst 1, 1) := by decide +kernel
theorem dX8_sheet_37 : decode cX8_sheet 37 = .ok (.ireturn, 1) := by decide +kernel
theorem dX8_sheet_38 : decode cX8_sheet 38 = .ok (.iload_n 3, 1) := by decide +kernel
theorem dX8_sheet_39 : decode cX8_sheet 39 = .ok (.bipush 40, 2) := by decide +kernel
theorem dX8_sheet_41 : decode cX8_sheet 41 = .ok (.if_icmp .le 6, 3) := by decide +kernel
theorem dX8_sheet_44 : decode cX8_sheet 44 = .ok (.bipush (-2), 2) := by decide +kernel
theorem dX8_sheet_46 : decode cX8_sheet 46 = .ok (.ireturn, 1) := by decide +kernel
theorem dX8_sheet_47 : decode cX8_sheet 47 = .ok (.iload_n 3, 1) := by decide +kernel
theorem dX8_sheet_48 : decode cX8_sheet 48 = .ok (.ifCond .ge 6, 3) := by decide +kernel
theorem dX8_sheet_51 : decode cX8_sheet 51 = .ok (.bipush (-14), 2) := by decide +kernel
theorem dX8_sheet_53 : decode cX8_sheet 53 = .ok (.ireturn, 1) := by decide +kernel
theorem dX8_sheet_54 : decode cX8_sheet 54 = .ok (.aload_n 0, 1) := by decide +kernel
theorem dX8_sheet_55 : decode cX8_sheet 55 = .ok (.getfield 52, 3) := by decide +kernel
theorem dX8_sheet_58 : decode cX8_sheet 58 = .ok (.iload_n 1, 1) := by decide +kernel
theorem dX8_sheet_59 : decode cX8_sheet 59 = .ok (.aaload, 1) := by decide +kernel
theorem dX8_sheet_60 : decode cX8_sheet 60 = .ok (.iload_n 2, 1) := by decide +kernel
theorem dX8_sheet_61 : decode cX8_sheet 61 = .ok (.iload_n 3, 1) := by decide +kernel
theorem dX8_sheet_62 : decode cX8_sheet 62 = .ok (.invokevirtual 222, 3) := by decide +kernel
theorem dX8_sheet_65 : decode cX8_sheet 65 = .ok (.iconst 1, 1) := by decide +kernel
theorem dX8_sheet_66 : decode cX8_sheet 66 = .ok (.ireturn, 1) := by decide +kernel
theorem dX8_cell_0 : decode cX8_cell 0 = .ok (.iload_n 1, 1) := by decide +kernel
theorem dX8_cell_1 : decode cX8_cell 1 = .ok (.invokestatic 195, 3) := by decide +kernel
theorem dX8_cell_4 : decode cX8_cell 4 = .ok (.ifCond .ne 6, 3) := by decide +kernel
theorem dX8_cell_7 : decode cX8_cell 7 = .ok (.bipush (-2), 2) := by decide +kernel
theorem dX8_cell_9 : decode cX8_cell 9 = .ok (.ireturn, 1) := by decide +kernel
theorem dX8_cell_10 : decode cX8_cell 10 = .ok (.aload_n 0, 1) := by decide +kernel
theorem dX8_cell_11 : decode cX8_cell 11 = .ok (.getfield 52, 3) := by decide +kernel
theorem dX8_cell_14 : decode cX8_cell 14 = .ok (.iload_n 1, 1) := by decide +kernel
theorem dX8_cell_15 : decode cX8_cell 15 = .ok (.aaload, 1) := by decide +kernel
theorem dX8_cell_16 : decode cX8_cell 16 = .ok (.invokevirtual 198, 3) := by decide +kernel
theorem dX8_cell_19 : decode cX8_cell 19 = .ok (.ifCond .eq 6, 3) := by decide +kernel
theorem dX8_cell_22 : decode cX8_cell 22 = .ok (.bipush (-11), 2) := by decide +kernel
theorem dX8_cell_24 : decode cX8_cell 24 = .ok (.ireturn, 1) := by decide +kernel
theorem dX8_cell_25 : decode cX8_cell 25 = .ok (.aload_n 0, 1) := by decide +kernel
theorem dX8_cell_26 : decode cX8_cell 26 = .ok (.getfield 52, 3) := by decide +kernel
theorem dX8_cell_29 : decode cX8_cell 29 = .ok (.iload_n 1, 1) := by decide +kernel
theorem dX8_cell_30 : decode cX8_cell 30 = .ok (.aaload, 1) := by decide +kernel
theorem dX8_cell_31 : decode cX8_cell 31 = .ok (.iload_n 2, 1) := by decide +kernel
theorem dX8_cell_32 : decode cX8_cell 32 = .ok (.iload_n 3, 1) := by decide +kernel
theorem dX8_cell_33 : decode cX8_cell 33 = .ok (.invokevirtual 226, 3) := by decide +kernel
theorem dX8_cell_36 : decode cX8_cell 36 = .ok (.ifCond .eq 7, 3) := by decide +kernel
theorem dX8_cell_39 : decode cX8_cell 39 = .ok (.iconst 1, 1) := by decide +kernel
theorem dX8_cell_40 : decode cX8_cell 40 = .ok (.goto 5, 3) := by decide +kernel
theorem dX8_cell_43 : decode cX8_cell 43 = .ok (.bipush (-12), 2) := by decide +kernel
theorem dX8_cell_45 : decode cX8_cell 45 = .ok (.ireturn, 1) := by decide +kernel
theorem dX8_copy_0 : decode cX8_copy 0 = .ok (.iload_n 1, 1) := by decide +kernel
theorem dX8_copy_1 : decode cX8_copy 1 = .ok (.invokestatic 195, 3) := by decide +kernel
theorem dX8_copy_4 : decode cX8_copy 4 = .ok (.ifCond .eq 10, 3) := by decide +kernel
theorem dX8_copy_7 : decode cX8_copy 7 = .ok (.iload_n 3, 1) := by decide +kernel
theorem dX8_copy_8 : decode cX8_copy 8 = .ok (.invokestatic 195, 3) := by decide +kernel
theorem dX8_copy_11 : decode cX8_copy 11 = .ok (.ifCond .ne 6, 3) := by decide +kernel
theorem dX8_copy_14 : decode cX8_copy 14 = .ok (.bipush (-2), 2) := by decide +kernel
theorem dX8_copy_16 : decode cX8_copy 16 = .ok (.ireturn, 1) := by decide +kernel
theorem dX8_copy_17 : decode cX8_copy 17 = .ok (.aload_n 0, 1) := by decide +kernel
theorem dX8_copy_18 : decode cX8_copy 18 = .ok (.getfield 52, 3) := by decide +kernel
theorem dX8_copy_21 : decode cX8_copy 21 = .ok (.iload_n 1, 1) := by decide +kernel
theorem dX8_copy_22 : decode cX8_copy 22 = .ok (.aaload, 1) := by decide +kernel
theorem dX8_copy_23 : decode cX8_copy 23 = .ok (.astore 6, 2) := by decide +kernel
theorem dX8_copy_25 : decode cX8_copy 25 = .ok (.aload_n 0, 1) := by decide +kernel
theorem dX8_copy_26 : decode cX8_copy 26 = .ok (.getfield 52, 3) := by decide +kernel
theorem dX8_copy_29 : decode cX8_copy 29 = .ok (.iload_n 3, 1) := by decide +kernel
theorem dX8_copy_30 : decode cX8_copy 30 = .ok (.aaload, 1) := by decide +kernel
theorem dX8_copy_31 : decode cX8_copy 31 = .ok (.astore 7, 2) := by decide +kernel
theorem dX8_copy_33 : decode cX8_copy 33 = .ok (.aload 6, 2) := by decide +kernel
theorem dX8_copy_35 : decode cX8_copy 35 = .ok (.invokevirtual 198, 3) := by decide +kernel
theorem dX8_copy_38 : decode cX8_copy 38 = .ok (.ifCond .ne 11, 3) := by decide +kernel
theorem dX8_copy_41 : decode cX8_copy 41 = .ok (.aload 7, 2) := by decide +kernel
theorem dX8_copy_43 : decode cX8_copy 43 = .ok (.invokevirtual 198, 3) := by decide +kernel
theorem dX8_copy_46 : decode cX8_copy 46 = .ok (.ifCond .eq 6, 3) := by decide +kernel
theorem dX8_copy_49 : decode cX8_copy 49 = .ok (.bipush (-11), 2) := by decide +kernel
theorem dX8_copy_51 : decode cX8_copy 51 = .ok (.ireturn, 1) := by decide +kernel
theorem dX8_copy_52 : decode cX8_copy 52 = .ok (.aload 6, 2) := by decide +kernel
theorem dX8_copy_54 : decode cX8_copy 54 = .ok (.getfield 242, 3) := by decide +kernel
theorem dX8_copy_57 : decode cX8_copy 57 = .ok (.aload 7, 2) := by decide +kernel
theorem dX8_copy_59 : decode cX8_copy 59 = .ok (.getfield 242, 3) := by decide +kernel
theorem dX8_copy_62 : decode cX8_copy 62 = .ok (.if_icmp .eq 6, 3) := by decide +kernel
theorem dX8_copy_65 : decode cX8_copy 65 = .ok (.bipush (-13), 2) := by decide +kernel
theorem dX8_copy_67 : decode cX8_copy 67 = .ok (.ireturn, 1) := by decide +kernel
theorem dX8_copy_68 : decode cX8_copy 68 = .ok (.aload 6, 2) := by decide +kernel
theorem dX8_copy_70 : decode cX8_copy 70 = .ok (.iload_n 2, 1) := by decide +kernel
theorem dX8_copy_71 : decode cX8_copy 71 = .ok (.iload 5, 2) := by decide +kernel
theorem dX8_copy_73 : decode cX8_copy 73 = .ok (.invokevirtual 245, 3) := by decide +kernel
theorem dX8_copy_76 : decode cX8_copy 76 = .ok (.ifCond .eq 15, 3) := by decide +kernel
theorem dX8_copy_79 : decode cX8_copy 79 = .ok (.aload 7, 2) := by decide +kernel
theorem dX8_copy_81 : decode cX8_copy 81 = .ok (.iload 4, 2) := by decide +kernel
theorem dX8_copy_83 : decode cX8_copy 83 = .ok (.iload 5, 2) := by decide +kernel
theorem dX8_copy_85 : decode cX8_copy 85 = .ok (.invokevirtual 245, 3) := by decide +kernel
theorem dX8_copy_88 : decode cX8_copy 88 = .ok (.ifCond .ne 6, 3) := by decide +kernel
theorem dX8_copy_91 : decode cX8_copy 91 = .ok (.bipush (-12), 2) := by decide +kernel
theorem dX8_copy_93 : decode cX8_copy 93 = .ok (.ireturn, 1) := by decide +kernel
theorem dX8_copy_94 : decode cX8_copy 94 = .ok (.aload 6, 2) := by decide +kernel
theorem dX8_copy_96 : decode cX8_copy 96 = .ok (.getfield 248, 3) := by decide +kernel
theorem dX8_copy_99 : decode cX8_copy 99 = .ok (.iload_n 2, 1) := by decide +kernel
theorem dX8_copy_100 : decode cX8_copy 100 = .ok (.aload 7, 2) := by decide +kernel
theorem dX8_copy_102 : decode cX8_copy 102 = .ok (.getfield 248, 3) := by decide +kernel
theorem dX8_copy_105 : decode cX8_copy 105 = .ok (.iload 4, 2) := by decide +kernel
theorem dX8_copy_107 : decode cX8_copy 107 = .ok (.iload 5, 2) := by decide +kernel
theorem dX8_copy_109 : decode cX8_copy 109 = .ok (.invokestatic 251, 3) := by decide +kernel
theorem dX8_copy_112 : decode cX8_copy 112 = .ok (.iload 5, 2) := by decide +kernel
theorem dX8_copy_114 : decode cX8_copy 114 = .ok (.ireturn, 1) := by decide +kernel
theorem dX8_house_0 : decode cX8_house 0 = .ok (.iload_n 1, 1) := by decide +kernel
theorem dX8_house_1 : decode cX8_house 1 = .ok (.invokestatic 195, 3) := by decide +kernel
theorem dX8_house_4 : decode cX8_house 4 = .ok (.ifCond .eq 23, 3) := by decide +kernel
theorem dX8_house_7 : decode cX8_house 7 = .ok (.iload_n 2, 1) := by decide +kernel
theorem dX8_house_8 : decode cX8_house 8 = .ok (.ifCond .lt 19, 3) := by decide +kernel
theorem dX8_house_11 : decode cX8_house 11 = .ok (.iload_n 2, 1) := by decide +kernel
theorem dX8_house_12 : decode cX8_house 12 = .ok (.iconst 2, 1) := by decide +kernel
theorem dX8_house_13 : decode cX8_house 13 = .ok (.if_icmp .gt 14, 3) := by decide +kernel
theorem dX8_house_16 : decode cX8_house 16 = .ok (.iload 4, 2) := by decide +kernel
theorem dX8_house_18 : decode cX8_house 18 = .ok (.ifCond .lt 9, 3) := by decide +kernel
theorem dX8_house_21 : decode cX8_house 21 = .ok (.iload 4, 2) := by decide +kernel
theorem dX8_house_23 : decode cX8_house 23 = .ok (.iconst 5, 1) := by decide +kernel
theorem dX8_house_24 : decode cX8_house 24 = .ok (.if_icmp .le 6, 3) := by decide +kernel
theorem dX8_house_27 : decode cX8_house 27 = .ok (.bipush (-2), 2) := by decide +kernel
theorem dX8_house_29 : decode cX8_house 29 = .ok (.ireturn, 1) := by decide +kernel
theorem dX8_house_30 : decode cX8_house 30 = .ok (.aload_n 0, 1) := by decide +kernel
theorem dX8_house_31 : decode cX8_house 31 = .ok (.getfield 52, 3) := by decide +kernel
theorem dX8_house_34 : decode cX8_house 34 = .ok (.iload_n 1, 1) := by decide +kernel
theorem dX8_house_35 : decode cX8_house 35 = .ok (.aaload, 1) := by decide +kernel
theorem dX8_house_36 : decode cX8_house 36 = .ok (.astore 5, 2) := by decide +kernel
theorem dX8_house_38 : decode cX8_house 38 = .ok (.aload 5, 2) := by decide +kernel
theorem dX8_house_40 : decode cX8_house 40 = .ok (.invokevirtual 198, 3) := by decide +kernel
theorem dX8_house_43 : decode cX8_house 43 = .ok (.ifCond .eq 6, 3) := by decide +kernel
theorem dX8_house_46 : decode cX8_house 46 = .ok (.bipush (-11), 2) := by decide +kernel
theorem dX8_house_48 : decode cX8_house 48 = .ok (.ireturn, 1) := by decide +kernel
theorem dX8_house_49 : decode cX8_house 49 = .ok (.aload 5, 2) := by decide +kernel
theorem dX8_house_51 : decode cX8_house 51 = .ok (.getfield 242, 3) := by decide +kernel
theorem dX8_house_54 : decode cX8_house 54 = .ok (.iload_n 2, 1) := by decide +kernel
theorem dX8_house_55 : decode cX8_house 55 = .ok (.if_icmp .eq 6, 3) := by decide +kernel
theorem dX8_house_58 : decode cX8_house 58 = .ok (.bipush (-13), 2) := by decide +kernel
theorem dX8_house_60 : decode cX8_house 60 = .ok (.ireturn, 1) := by decide +kernel
theorem dX8_house_61 : decode cX8_house 61 = .ok (.iconst 0, 1) := by decide +kernel
theorem dX8_house_62 : decode cX8_house 62 = .ok (.istore 6, 2) := by decide +kernel
theorem dX8_house_64 : decode cX8_house 64 = .ok (.iconst 0, 1) := by decide +kernel
theorem dX8_house_65 : decode cX8_house 65 = .ok (.istore 7, 2) := by decide +kernel
theorem dX8_house_67 : decode cX8_house 67 = .ok (.iload 7, 2) := by decide +kernel
theorem dX8_house_69 : decode cX8_house 69 = .ok (.iload 4, 2) := by decide +kernel
theorem dX8_house_71 : decode cX8_house 71 = .ok (.if_icmp .ge 76, 3) := by decide +kernel
theorem dX8_house_74 : decode cX8_house 74 = .ok (.aload 5, 2) := by decide +kernel
theorem dX8_house_76 : decode cX8_house 76 = .ok (.iload_n 3, 1) := by decide +kernel
theorem dX8_house_77 : decode cX8_house 77 = .ok (.iconst 3, 1) := by decide +kernel
theorem dX8_house_78 : decode cX8_house 78 = .ok (.iload 7, 2) := by decide +kernel
theorem dX8_house_80 : decode cX8_house 80 = .ok (.iconst 1, 1) := by decide +kernel
theorem dX8_house_81 : decode cX8_house 81 = .ok (.iadd, 1) := by decide +kernel
theorem dX8_house_82 : decode cX8_house 82 = .ok (.imul, 1) := by decide +kernel
theorem dX8_house_83 : decode cX8_house 83 = .ok (.invokevirtual 245, 3) := by decide +kernel
theorem dX8_house_86 : decode cX8_house 86 = .ok (.ifCond .ne 6, 3) := by decide +kernel
theorem dX8_house_89 : decode cX8_house 89 = .ok (.bipush (-12), 2) := by decide +kernel
theorem dX8_house_91 : decode cX8_house 91 = .ok (.ireturn, 1) := by decide +kernel
theorem dX8_house_92 : decode cX8_house 92 = .ok (.iload_n 3, 1) := by decide +kernel
theorem dX8_house_93 : decode cX8_house 93 = .ok (.iconst 3, 1) := by decide +kernel
theorem dX8_house_94 : decode cX8_house 94 = .ok (.iload 7, 2) := by decide +kernel
theorem dX8_house_96 : decode cX8_house 96 = .ok (.imul, 1) := by decide +kernel
theorem dX8_house_97 : decode cX8_house 97 = .ok (.iadd, 1) := by decide +kernel
theorem dX8_house_98 : decode cX8_house 98 = .ok (.istore 8, 2) := by decide +kernel
theorem dX8_house_100 : decode cX8_house 100 = .ok (.aload_n 0, 1) := by decide +kernel
theorem dX8_house_101 : decode cX8_house 101 = .ok (.getfield 10, 3) := by decide +kernel
theorem dX8_house_104 : decode cX8_house 104 = .ok (.aload 5, 2) := by decide +kernel
theorem dX8_house_106 : decode cX8_house 106 = .ok (.getfield 248, 3) := by decide +kernel
theorem dX8_house_109 : decode cX8_house 109 = .ok (.iload 8, 2) := by decide +kernel
theorem dX8_house_111 : decode cX8_house 111 = .ok (.iaload, 1) := by decide +kernel
theorem dX8_house_112 : decode cX8_house 112 = .ok (.aload 5, 2) := by decide +kernel
theorem dX8_house_114 : decode cX8_house 114 = .ok (.getfield 248, 3) := by decide +kernel
theorem dX8_house_117 : decode cX8_house 117 = .ok (.iload 8, 2) := by decide +kernel
theorem dX8_house_119 : decode cX8_house 119 = .ok (.iconst 1, 1) := by decide +kernel
theorem dX8_house_120 : decode cX8_house 120 = .ok (.iadd, 1) := by decide +kernel
theorem dX8_house_121 : decode cX8_house 121 = .ok (.iaload, 1) := by decide +kernel
theorem dX8_house_122 : decode cX8_house 122 = .ok (.aload 5, 2) := by decide +kernel
theorem dX8_house_124 : decode cX8_house 124 = .ok (.getfield 248, 3) := by decide +kernel
theorem dX8_house_127 : decode cX8_house 127 = .ok (.iload 8, 2) := by decide +kernel
theorem dX8_house_129 : decode cX8_house 129 = .ok (.iconst 2, 1) := by decide +kernel
theorem dX8_house_130 : decode cX8_house 130 = .ok (.iadd, 1) := by decide +kernel
theorem dX8_house_131 : decode cX8_house 131 = .ok (.iaload, 1) := by decide +kernel
theorem dX8_house_132 : decode cX8_house 132 = .ok (.invokevirtual 73, 3) := by decide +kernel
theorem dX8_house_135 : decode cX8_house 135 = .ok (.ifCond .lt 6, 3) := by decide +kernel
theorem dX8_house_138 : decode cX8_house 138 = .ok (.iinc 6 1, 3) := by decide +kernel
theorem dX8_house_141 : decode cX8_house 141 = .ok (.iinc 7 1, 3) := by decide +kernel
theorem dX8_house_144 : decode cX8_house 144 = .ok (.goto (-77), 3) := by decide +kernel
theorem dX8_house_147 : decode cX8_house 147 = .ok (.iload 6, 2) := by decide +kernel
theorem dX8_house_149 : decode cX8_house 149 = .ok (.ireturn, 1) := by decide +kernel
theorem dX8_taken_0 : decode cX8_taken 0 = .ok (.iload_n 2, 1) := by decide +kernel
theorem dX8_taken_1 : decode cX8_taken 1 = .ok (.ifCond .lt 8, 3) := by decide +kernel
theorem dX8_taken_4 : decode cX8_taken 4 = .ok (.iload_n 2, 1) := by decide +kernel
theorem dX8_taken_5 : decode cX8_taken 5 = .ok (.iconst 5, 1) := by decide +kernel
theorem dX8_taken_6 : decode cX8_taken 6 = .ok (.if_icmp .le 6, 3) := by decide +kernel
theorem dX8_taken_9 : decode cX8_taken 9 = .ok (.bipush (-2), 2) := by decide +kernel
theorem dX8_taken_11 : decode cX8_taken 11 = .ok (.ireturn, 1) := by decide +kernel
theorem dX8_taken_12 : decode cX8_taken 12 = .ok (.aload_n 0, 1) := by decide +kernel
theorem dX8_taken_13 : decode cX8_taken 13 = .ok (.getfield 10, 3) := by decide +kernel
theorem dX8_taken_16 : decode cX8_taken 16 = .ok (.iload_n 1, 1) := by decide +kernel
theorem dX8_taken_17 : decode cX8_taken 17 = .ok (.invokevirtual 77, 3) := by decide +kernel
theorem dX8_taken_20 : decode cX8_taken 20 = .ok (.ifCond .ne 6, 3) := by decide +kernel
theorem dX8_taken_23 : decode cX8_taken 23 = .ok (.bipush (-11), 2) := by decide +kernel
theorem dX8_taken_25 : decode cX8_taken 25 = .ok (.ireturn, 1) := by decide +kernel
theorem dX8_taken_26 : decode cX8_taken 26 = .ok (.aload_n 0, 1) := by decide +kernel
theorem dX8_taken_27 : decode cX8_taken 27 = .ok (.getfield 10, 3) := by decide +kernel
theorem dX8_taken_30 : decode cX8_taken 30 = .ok (.getfield 257, 3) := by decide +kernel
theorem dX8_taken_33 : decode cX8_taken 33 = .ok (.iload_n 1, 1) := by decide +kernel
theorem dX8_taken_34 : decode cX8_taken 34 = .ok (.iaload, 1) := by decide +kernel
theorem dX8_taken_35 : decode cX8_taken 35 = .ok (.iload_n 2, 1) := by decide +kernel
theorem dX8_taken_36 : decode cX8_taken 36 = .ok (.invokestatic 260, 3) := by decide +kernel
theorem dX8_taken_39 : decode cX8_taken 39 = .ok (.ifCond .eq 15, 3) := by decide +kernel
theorem dX8_taken_42 : decode cX8_taken 42 = .ok (.aload_n 0, 1) := by decide +kernel
theorem dX8_taken_43 : decode cX8_taken 43 = .ok (.getfield 10, 3) := by decide +kernel
theorem dX8_taken_46 : decode cX8_taken 46 = .ok (.getfield 263, 3) := by decide +kernel
theorem dX8_taken_49 : decode cX8_taken 49 = .ok (.iload_n 1, 1) := by decide +kernel
theorem dX8_taken_50 : decode cX8_taken 50 = .ok (.iaload, 1) := by decide +kernel
theorem dX8_taken_51 : decode cX8_taken 51 = .ok (.goto 5, 3) := by decide +kernel
theorem dX8_taken_54 : decode cX8_taken 54 = .ok (.bipush (-13), 2) := by decide +kernel
theorem dX8_taken_56 : decode cX8_taken 56 = .ok (.ireturn, 1) := by decide +kernel
theorem dX8_isCup_0 : decode cX8_isCup 0 = .ok (.iload_n 0, 1) := by decide +kernel
theorem dX8_isCup_1 : decode cX8_isCup 1 = .ok (.ifCond .lt 13, 3) := by decide +kernel
theorem dX8_isCup_4 : decode cX8_isCup 4 = .ok (.iload_n 0, 1) := by decide +kernel
theorem dX8_isCup_5 : decode cX8_isCup 5 = .ok (.bipush 6, 2) := by decide +kernel
theorem dX8_isCup_7 : decode cX8_isCup 7 = .ok (.if_icmp .ge 7, 3) := by decide +kernel
theorem dX8_isCup_10 : decode cX8_isCup 10 = .ok (.iconst 1, 1) := by decide +kernel
theorem dX8_isCup_11 : decode cX8_isCup 11 = .ok (.goto 4, 3) := by decide +kernel
theorem dX8_isCup_14 : decode cX8_isCup 14 = .ok (.iconst 0, 1) := by decide +kernel
theorem dX8_isCup_15 : decode cX8_isCup 15 = .ok (.ireturn, 1) := by decide +kernel
theorem dX8_isSheet_0 : decode cX8_isSheet 0 = .ok (.iload_n 0, 1) := by decide +kernel
theorem dX8_isSheet_1 : decode cX8_isSheet 1 = .ok (.ifCond .lt 12, 3) := by decide +kernel
theorem dX8_isSheet_4 : decode cX8_isSheet 4 = .ok (.iload_n 0, 1) := by decide +kernel
theorem dX8_isSheet_5 : decode cX8_isSheet 5 = .ok (.iconst 4, 1) := by decide +kernel
theorem dX8_isSheet_6 : decode cX8_isSheet 6 = .ok (.if_icmp .ge 7, 3) := by decide +kernel
theorem dX8_isSheet_9 : decode cX8_isSheet 9 = .ok (.iconst 1, 1) := by decide +kernel
theorem dX8_isSheet_10 : decode cX8_isSheet 10 = .ok (.goto 4, 3) := by decide +kernel
theorem dX8_isSheet_13 : decode cX8_isSheet 13 = .ok (.iconst 0, 1) := by decide +kernel
theorem dX8_isSheet_14 : decode cX8_isSheet 14 = .ok (.ireturn, 1) := by decide +kernel
theorem dX8_bounded_0 : decode cX8_bounded 0 = .ok (.iconst 0, 1) := by decide +kernel
theorem dX8_bounded_1 : decode cX8_bounded 1 = .ok (.bipush 99, 2) := by decide +kernel
theorem dX8_bounded_3 : decode cX8_bounded 3 = .ok (.iload_n 0, 1) := by decide +kernel
theorem dX8_bounded_4 : decode cX8_bounded 4 = .ok (.invokestatic 266, 3) := by decide +kernel
theorem dX8_bounded_7 : decode cX8_bounded 7 = .ok (.invokestatic 271, 3) := by decide +kernel
theorem dX8_bounded_10 : decode cX8_bounded 10 = .ok (.ireturn, 1) := by decide +kernel
theorem dX8_mostOf_0 : decode cX8_mostOf 0 = .ok (.iload_n 0, 1) := by decide +kernel
theorem dX8_mostOf_1 : decode cX8_mostOf 1 = .ok (.tableswitch 53 0 6 #[43, 47, 50, 53, 53, 53, 50], 43) := by decide +kernel
theorem dX8_mostOf_44 : decode cX8_mostOf 44 = .ok (.sipush 999, 3) := by decide +kernel
theorem dX8_mostOf_47 : decode cX8_mostOf 47 = .ok (.ireturn, 1) := by decide +kernel
theorem dX8_mostOf_48 : decode cX8_mostOf 48 = .ok (.bipush 23, 2) := by decide +kernel
theorem dX8_mostOf_50 : decode cX8_mostOf 50 = .ok (.ireturn, 1) := by decide +kernel
theorem dX8_mostOf_51 : decode cX8_mostOf 51 = .ok (.bipush 9, 2) := by decide +kernel
theorem dX8_mostOf_53 : decode cX8_mostOf 53 = .ok (.ireturn, 1) := by decide +kernel
theorem dX8_mostOf_54 : decode cX8_mostOf 54 = .ok (.bipush 99, 2) := by decide +kernel
theorem dX8_mostOf_56 : decode cX8_mostOf 56 = .ok (.ireturn, 1) := by decide +kernel
theorem dX8_isUnder_0 : decode cX8_isUnder 0 = .ok (.iload_n 1, 1) := by decide +kernel
theorem dX8_isUnder_1 : decode cX8_isUnder 1 = .ok (.tableswitch 61 0 2 #[27, 29, 45], 27) := by decide +kernel
theorem dX8_isUnder_28 : decode cX8_isUnder 28 = .ok (.iconst 1, 1) := by decide +kernel
theorem dX8_isUnder_29 : decode cX8_isUnder 29 = .ok (.ireturn, 1) := by decide +kernel
theorem dX8_isUnder_30 : decode cX8_isUnder 30 = .ok (.iload_n 0, 1) := by decide +kernel
theorem dX8_isUnder_31 : decode cX8_isUnder 31 = .ok (.iconst 1, 1) := by decide +kernel
theorem dX8_isUnder_32 : decode cX8_isUnder 32 = .ok (.if_icmp .eq 8, 3) := by decide +kernel
theorem dX8_isUnder_35 : decode cX8_isUnder 35 = .ok (.iload_n 0, 1) := by decide +kernel
theorem dX8_isUnder_36 : decode cX8_isUnder 36 = .ok (.iconst 3, 1) := by decide +kernel
theorem dX8_isUnder_37 : decode cX8_isUnder 37 = .ok (.if_icmp .ne 7, 3) := by decide +kernel
theorem dX8_isUnder_40 : decode cX8_isUnder 40 = .ok (.iconst 1, 1) := by decide +kernel
theorem dX8_isUnder_41 : decode cX8_isUnder 41 = .ok (.goto 4, 3) := by decide +kernel
theorem dX8_isUnder_44 : decode cX8_isUnder 44 = .ok (.iconst 0, 1) := by decide +kernel
theorem dX8_isUnder_45 : decode cX8_isUnder 45 = .ok (.ireturn, 1) := by decide +kernel
theorem dX8_isUnder_46 : decode cX8_isUnder 46 = .ok (.iload_n 0, 1) := by decide +kernel
theorem dX8_isUnder_47 : decode cX8_isUnder 47 = .ok (.iconst 2, 1) := by decide +kernel
theorem dX8_isUnder_48 : decode cX8_isUnder 48 = .ok (.if_icmp .eq 8, 3) := by decide +kernel
theorem dX8_isUnder_51 : decode cX8_isUnder 51 = .ok (.iload_n 0, 1) := by decide +kernel
theorem dX8_isUnder_52 : decode cX8_isUnder 52 = .ok (.iconst 4, 1) := by decide +kernel
theorem dX8_isUnder_53 : decode cX8_isUnder 53 = .ok (.if_icmp .ne 7, 3) := by decide +kernel
theorem dX8_isUnder_56 : decode cX8_isUnder 56 = .ok (.iconst 1, 1) := by decide +kernel
theorem dX8_isUnder_57 : decode cX8_isUnder 57 = .ok (.goto 4, 3) := by decide +kernel
theorem dX8_isUnder_60 : decode cX8_isUnder 60 = .ok (.iconst 0, 1) := by decide +kernel
theorem dX8_isUnder_61 : decode cX8_isUnder 61 = .ok (.ireturn, 1) := by decide +kernel
theorem dX8_isUnder_62 : decode cX8_isUnder 62 = .ok (.iload_n 0, 1) := by decide +kernel
theorem dX8_isUnder_63 : decode cX8_isUnder 63 = .ok (.iload_n 1, 1) := by decide +kernel
theorem dX8_isUnder_64 : decode cX8_isUnder 64 = .ok (.if_icmp .ne 7, 3) := by decide +kernel
theorem dX8_isUnder_67 : decode cX8_isUnder 67 = .ok (.iconst 1, 1) := by decide +kernel
theorem dX8_isUnder_68 : decode cX8_isUnder 68 = .ok (.goto 4, 3) := by decide +kernel
theorem dX8_isUnder_71 : decode cX8_isUnder 71 = .ok (.iconst 0, 1) := by decide +kernel
theorem dX8_isUnder_72 : decode cX8_isUnder 72 = .ok (.ireturn, 1) := by decide +kernel
theorem dX8_lowest_0 : decode cX8_lowest 0 = .ok (.iload_n 1, 1) := by decide +kernel
theorem dX8_lowest_1 : decode cX8_lowest 1 = .ok (.istore_n 3, 1) := by decide +kernel
theorem dX8_lowest_2 : decode cX8_lowest 2 = .ok (.iload_n 0, 1) := by decide +kernel
theorem dX8_lowest_3 : decode cX8_lowest 3 = .ok (.istore 4, 2) := by decide +kernel
theorem dX8_lowest_5 : decode cX8_lowest 5 = .ok (.iconst 0, 1) := by decide +kernel
theorem dX8_lowest_6 : decode cX8_lowest 6 = .ok (.istore 5, 2) := by decide +kernel
theorem dX8_lowest_8 : decode cX8_lowest 8 = .ok (.iload 5, 2) := by decide +kernel
theorem dX8_lowest_10 : decode cX8_lowest 10 = .ok (.bipush 50, 2) := by decide +kernel
theorem dX8_lowest_12 : decode cX8_lowest 12 = .ok (.if_icmp .ge 27, 3) := by decide +kernel
theorem dX8_lowest_15 : decode cX8_lowest 15 = .ok (.iload 4, 2) := by decide +kernel
theorem dX8_lowest_17 : decode cX8_lowest 17 = .ok (.ifCond .eq 22, 3) := by decide +kernel
theorem dX8_lowest_20 : decode cX8_lowest 20 = .ok (.iload_n 3, 1) := by decide +kernel
theorem dX8_lowest_21 : decode cX8_lowest 21 = .ok (.iload 4, 2) := by decide +kernel
theorem dX8_lowest_23 : decode cX8_lowest 23 = .ok (.irem, 1) := by decide +kernel
theorem dX8_lowest_24 : decode cX8_lowest 24 = .ok (.istore 6, 2) := by decide +kernel
theorem dX8_lowest_26 : decode cX8_lowest 26 = .ok (.iload 4, 2) := by decide +kernel
theorem dX8_lowest_28 : decode cX8_lowest 28 = .ok (.istore_n 3, 1) := by decide +kernel
theorem dX8_lowest_29 : decode cX8_lowest 29 = .ok (.iload 6, 2) := by decide +kernel
theorem dX8_lowest_31 : decode cX8_lowest 31 = .ok (.istore 4, 2) := by decide +kernel
theorem dX8_lowest_33 : decode cX8_lowest 33 = .ok (.iinc 5 1, 3) := by decide +kernel
theorem dX8_lowest_36 : decode cX8_lowest 36 = .ok (.goto (-28), 3) := by decide +kernel
theorem dX8_lowest_39 : decode cX8_lowest 39 = .ok (.iload_n 1, 1) := by decide +kernel
theorem dX8_lowest_40 : decode cX8_lowest 40 = .ok (.ifCond .eq 7, 3) := by decide +kernel
theorem dX8_lowest_43 : decode cX8_lowest 43 = .ok (.iload_n 3, 1) := by decide +kernel
theorem dX8_lowest_44 : decode cX8_lowest 44 = .ok (.ifCond .ne 7, 3) := by decide +kernel
theorem dX8_lowest_47 : decode cX8_lowest 47 = .ok (.ldc2_w 185, 3) := by decide +kernel
theorem dX8_lowest_50 : decode cX8_lowest 50 = .ok (.lreturn, 1) := by decide +kernel
theorem dX8_lowest_51 : decode cX8_lowest 51 = .ok (.iload_n 2, 1) := by decide +kernel
theorem dX8_lowest_52 : decode cX8_lowest 52 = .ok (.ifCond .ne 10, 3) := by decide +kernel
theorem dX8_lowest_55 : decode cX8_lowest 55 = .ok (.iload_n 0, 1) := by decide +kernel
theorem dX8_lowest_56 : decode cX8_lowest 56 = .ok (.iload_n 3, 1) := by decide +kernel
theorem dX8_lowest_57 : decode cX8_lowest 57 = .ok (.idiv, 1) := by decide +kernel
theorem dX8_lowest_58 : decode cX8_lowest 58 = .ok (.i2l, 1) := by decide +kernel
theorem dX8_lowest_59 : decode cX8_lowest 59 = .ok (.goto 7, 3) := by decide +kernel
theorem dX8_lowest_62 : decode cX8_lowest 62 = .ok (.iload_n 1, 1) := by decide +kernel
theorem dX8_lowest_63 : decode cX8_lowest 63 = .ok (.iload_n 3, 1) := by decide +kernel
theorem dX8_lowest_64 : decode cX8_lowest 64 = .ok (.idiv, 1) := by decide +kernel
theorem dX8_lowest_65 : decode cX8_lowest 65 = .ok (.i2l, 1) := by decide +kernel
theorem dX8_lowest_66 : decode cX8_lowest 66 = .ok (.lreturn, 1) := by decide +kernel
theorem dX8_pouredBySeed_0 : decode cX8_pouredBySeed 0 = .ok (.aload_n 0, 1) := by decide +kernel
theorem dX8_pouredBySeed_1 : decode cX8_pouredBySeed 1 = .ok (.getfield 16, 3) := by decide +kernel
theorem dX8_pouredBySeed_4 : decode cX8_pouredBySeed 4 = .ok (.aload_n 0, 1) := by decide +kernel
theorem dX8_pouredBySeed_5 : decode cX8_pouredBySeed 5 = .ok (.getfield 10, 3) := by decide +kernel
theorem dX8_pouredBySeed_8 : decode cX8_pouredBySeed 8 = .ok (.invokevirtual 137, 3) := by decide +kernel
theorem dX8_pouredBySeed_11 : decode cX8_pouredBySeed 11 = .ok (.iconst 0, 1) := by decide +kernel
theorem dX8_pouredBySeed_12 : decode cX8_pouredBySeed 12 = .ok (.istore_n 3, 1) := by decide +kernel
theorem dX8_pouredBySeed_13 : decode cX8_pouredBySeed 13 = .ok (.iload_n 1, 1) := by decide +kernel
theorem dX8_pouredBySeed_14 : decode cX8_pouredBySeed 14 = .ok (.istore 4, 2) := by decide +kernel
theorem dX8_pouredBySeed_16 : decode cX8_pouredBySeed 16 = .ok (.iconst 0, 1) := by decide +kernel
theorem dX8_pouredBySeed_17 : decode cX8_pouredBySeed 17 = .ok (.istore 5, 2) := by decide +kernel
theorem dX8_pouredBySeed_19 : decode cX8_pouredBySeed 19 = .ok (.iload 5, 2) := by decide +kernel
theorem dX8_pouredBySeed_21 : decode cX8_pouredBySeed 21 = .ok (.iload_n 2, 1) := by decide +kernel
theorem dX8_pouredBySeed_22 : decode cX8_pouredBySeed 22 = .ok (.if_icmp .ge 70, 3) := by decide +kernel
theorem dX8_pouredBySeed_25 : decode cX8_pouredBySeed 25 = .ok (.iload 4, 2) := by decide +kernel
theorem dX8_pouredBySeed_27 : decode cX8_pouredBySeed 27 = .ok (.ldc_w 274, 3) := by decide +kernel
theorem dX8_pouredBySeed_30 : decode cX8_pouredBySeed 30 = .ok (.imul, 1) := by decide +kernel
theorem dX8_pouredBySeed_31 : decode cX8_pouredBySeed 31 = .ok (.sipush 12345, 3) := by decide +kernel
theorem dX8_pouredBySeed_34 : decode cX8_pouredBySeed 34 = .ok (.iadd, 1) := by decide +kernel
theorem dX8_pouredBySeed_35 : decode cX8_pouredBySeed 35 = .ok (.istore 4, 2) := by decide +kernel
theorem dX8_pouredBySeed_37 : decode cX8_pouredBySeed 37 = .ok (.iload 4, 2) := by decide +kernel
theorem dX8_pouredBySeed_39 : decode cX8_pouredBySeed 39 = .ok (.bipush 9, 2) := by decide +kernel
theorem dX8_pouredBySeed_41 : decode cX8_pouredBySeed 41 = .ok (.iushr, 1) := by decide +kernel
theorem dX8_pouredBySeed_42 : decode cX8_pouredBySeed 42 = .ok (.bipush 8, 2) := by decide +kernel
theorem dX8_pouredBySeed_44 : decode cX8_pouredBySeed 44 = .ok (.irem, 1) := by decide +kernel
theorem dX8_pouredBySeed_45 : decode cX8_pouredBySeed 45 = .ok (.istore 6, 2) := by decide +kernel
theorem dX8_pouredBySeed_47 : decode cX8_pouredBySeed 47 = .ok (.aload_n 0, 1) := by decide +kernel
theorem dX8_pouredBySeed_48 : decode cX8_pouredBySeed 48 = .ok (.getfield 16, 3) := by decide +kernel
theorem dX8_pouredBySeed_51 : decode cX8_pouredBySeed 51 = .ok (.iload 6, 2) := by decide +kernel
theorem dX8_pouredBySeed_53 : decode cX8_pouredBySeed 53 = .ok (.invokevirtual 77, 3) := by decide +kernel
theorem dX8_pouredBySeed_56 : decode cX8_pouredBySeed 56 = .ok (.ifCond .eq 12, 3) := by decide +kernel
theorem dX8_pouredBySeed_59 : decode cX8_pouredBySeed 59 = .ok (.aload_n 0, 1) := by decide +kernel
theorem dX8_pouredBySeed_60 : decode cX8_pouredBySeed 60 = .ok (.getfield 16, 3) := by decide +kernel
theorem dX8_pouredBySeed_63 : decode cX8_pouredBySeed 63 = .ok (.iload 6, 2) := by decide +kernel
theorem dX8_pouredBySeed_65 : decode cX8_pouredBySeed 65 = .ok (.invokevirtual 130, 3) := by decide +kernel
theorem dX8_pouredBySeed_68 : decode cX8_pouredBySeed 68 = .ok (.iload_n 3, 1) := by decide +kernel
theorem dX8_pouredBySeed_69 : decode cX8_pouredBySeed 69 = .ok (.aload_n 0, 1) := by decide +kernel
theorem dX8_pouredBySeed_70 : decode cX8_pouredBySeed 70 = .ok (.getfield 39, 3) := by decide +kernel
theorem dX8_pouredBySeed_73 : decode cX8_pouredBySeed 73 = .ok (.aload_n 0, 1) := by decide +kernel
theorem dX8_pouredBySeed_74 : decode cX8_pouredBySeed 74 = .ok (.getfield 32, 3) := by decide +kernel
theorem dX8_pouredBySeed_77 : decode cX8_pouredBySeed 77 = .ok (.aload_n 0, 1) := by decide +kernel
theorem dX8_pouredBySeed_78 : decode cX8_pouredBySeed 78 = .ok (.getfield 16, 3) := by decide +kernel
theorem dX8_pouredBySeed_81 : decode cX8_pouredBySeed 81 = .ok (.invokevirtual 122, 3) := by decide +kernel
theorem dX8_pouredBySeed_84 : decode cX8_pouredBySeed 84 = .ok (.iadd, 1) := by decide +kernel
theorem dX8_pouredBySeed_85 : decode cX8_pouredBySeed 85 = .ok (.istore_n 3, 1) := by decide +kernel
theorem dX8_pouredBySeed_86 : decode cX8_pouredBySeed 86 = .ok (.iinc 5 1, 3) := by decide +kernel
theorem dX8_pouredBySeed_89 : decode cX8_pouredBySeed 89 = .ok (.goto (-70), 3) := by decide +kernel
theorem dX8_pouredBySeed_92 : decode cX8_pouredBySeed 92 = .ok (.iload_n 3, 1) := by decide +kernel
theorem dX8_pouredBySeed_93 : decode cX8_pouredBySeed 93 = .ok (.ireturn, 1) := by decide +kernel
theorem dX8_firstOtherwise_0 : decode cX8_firstOtherwise 0 = .ok (.iconst 0, 1) := by decide +kernel
theorem dX8_firstOtherwise_1 : decode cX8_firstOtherwise 1 = .ok (.istore_n 3, 1) := by decide +kernel
theorem dX8_firstOtherwise_2 : decode cX8_firstOtherwise 2 = .ok (.iload_n 3, 1) := by decide +kernel
theorem dX8_firstOtherwise_3 : decode cX8_firstOtherwise 3 = .ok (.aload_n 1, 1) := by decide +kernel
theorem dX8_firstOtherwise_4 : decode cX8_firstOtherwise 4 = .ok (.getfield 201, 3) := by decide +kernel
theorem dX8_firstOtherwise_7 : decode cX8_firstOtherwise 7 = .ok (.if_icmp .ge 57, 3) := by decide +kernel
theorem dX8_firstOtherwise_10 : decode cX8_firstOtherwise 10 = .ok (.aload_n 1, 1) := by decide +kernel
theorem dX8_firstOtherwise_11 : decode cX8_firstOtherwise 11 = .ok (.getfield 248, 3) := by decide +kernel
theorem dX8_firstOtherwise_14 : decode cX8_firstOtherwise 14 = .ok (.iload_n 3, 1) := by decide +kernel
theorem dX8_firstOtherwise_15 : decode cX8_firstOtherwise 15 = .ok (.iaload, 1) := by decide +kernel
theorem dX8_firstOtherwise_16 : decode cX8_firstOtherwise 16 = .ok (.aload_n 0, 1) := by decide +kernel
theorem dX8_firstOtherwise_17 : decode cX8_firstOtherwise 17 = .ok (.getfield 32, 3) := by decide +kernel
theorem dX8_firstOtherwise_20 : decode cX8_firstOtherwise 20 = .ok (.aload_n 0, 1) := by decide +kernel
theorem dX8_firstOtherwise_21 : decode cX8_firstOtherwise 21 = .ok (.getfield 16, 3) := by decide +kernel
theorem dX8_firstOtherwise_24 : decode cX8_firstOtherwise 24 = .ok (.iload_n 2, 1) := by decide +kernel
theorem dX8_firstOtherwise_25 : decode cX8_firstOtherwise 25 = .ok (.invokevirtual 81, 3) := by decide +kernel
theorem dX8_firstOtherwise_28 : decode cX8_firstOtherwise 28 = .ok (.if_icmp .eq 5, 3) := by decide +kernel
theorem dX8_firstOtherwise_31 : decode cX8_firstOtherwise 31 = .ok (.iload_n 3, 1) := by decide +kernel
theorem dX8_firstOtherwise_32 : decode cX8_firstOtherwise 32 = .ok (.ireturn, 1) := by decide +kernel
theorem dX8_firstOtherwise_33 : decode cX8_firstOtherwise 33 = .ok (.aload_n 0, 1) := by decide +kernel
theorem dX8_firstOtherwise_34 : decode cX8_firstOtherwise 34 = .ok (.getfield 32, 3) := by decide +kernel
theorem dX8_firstOtherwise_37 : decode cX8_firstOtherwise 37 = .ok (.aload_n 0, 1) := by decide +kernel
theorem dX8_firstOtherwise_38 : decode cX8_firstOtherwise 38 = .ok (.getfield 16, 3) := by decide +kernel
theorem dX8_firstOtherwise_41 : decode cX8_firstOtherwise 41 = .ok (.iload_n 2, 1) := by decide +kernel
theorem dX8_firstOtherwise_42 : decode cX8_firstOtherwise 42 = .ok (.invokevirtual 144, 3) := by decide +kernel
theorem dX8_firstOtherwise_45 : decode cX8_firstOtherwise 45 = .ok (.aload_n 0, 1) := by decide +kernel
theorem dX8_firstOtherwise_46 : decode cX8_firstOtherwise 46 = .ok (.getfield 16, 3) := by decide +kernel
theorem dX8_firstOtherwise_49 : decode cX8_firstOtherwise 49 = .ok (.dup, 1) := by decide +kernel
theorem dX8_firstOtherwise_50 : decode cX8_firstOtherwise 50 = .ok (.getfield 119, 3) := by decide +kernel
theorem dX8_firstOtherwise_53 : decode cX8_firstOtherwise 53 = .ok (.iconst 1, 1) := by decide +kernel
theorem dX8_firstOtherwise_54 : decode cX8_firstOtherwise 54 = .ok (.iadd, 1) := by decide +kernel
theorem dX8_firstOtherwise_55 : decode cX8_firstOtherwise 55 = .ok (.putfield 119, 3) := by decide +kernel
theorem dX8_firstOtherwise_58 : decode cX8_firstOtherwise 58 = .ok (.iinc 3 1, 3) := by decide +kernel
theorem dX8_firstOtherwise_61 : decode cX8_firstOtherwise 61 = .ok (.goto (-59), 3) := by decide +kernel
theorem dX8_firstOtherwise_64 : decode cX8_firstOtherwise 64 = .ok (.iconst (-1), 1) := by decide +kernel
theorem dX8_firstOtherwise_65 : decode cX8_firstOtherwise 65 = .ok (.ireturn, 1) := by decide +kernel
theorem dX8_fits_0 : decode cX8_fits 0 = .ok (.aload_n 0, 1) := by decide +kernel
theorem dX8_fits_1 : decode cX8_fits 1 = .ok (.getfield 16, 3) := by decide +kernel
theorem dX8_fits_4 : decode cX8_fits 4 = .ok (.aload_n 0, 1) := by decide +kernel
theorem dX8_fits_5 : decode cX8_fits 5 = .ok (.getfield 10, 3) := by decide +kernel
theorem dX8_fits_8 : decode cX8_fits 8 = .ok (.invokevirtual 137, 3) := by decide +kernel
theorem dX8_fits_11 : decode cX8_fits 11 = .ok (.aload_n 0, 1) := by decide +kernel
theorem dX8_fits_12 : decode cX8_fits 12 = .ok (.getfield 16, 3) := by decide +kernel
theorem dX8_fits_15 : decode cX8_fits 15 = .ok (.iload_n 3, 1) := by decide +kernel
theorem dX8_fits_16 : decode cX8_fits 16 = .ok (.iload_n 2, 1) := by decide +kernel
theorem dX8_fits_17 : decode cX8_fits 17 = .ok (.iload 4, 2) := by decide +kernel
theorem dX8_fits_19 : decode cX8_fits 19 = .ok (.invokevirtual 69, 3) := by decide +kernel
theorem dX8_fits_22 : decode cX8_fits 22 = .ok (.aload_n 0, 1) := by decide +kernel
theorem dX8_fits_23 : decode cX8_fits 23 = .ok (.aload_n 1, 1) := by decide +kernel
theorem dX8_fits_24 : decode cX8_fits 24 = .ok (.iload_n 2, 1) := by decide +kernel
theorem dX8_fits_25 : decode cX8_fits 25 = .ok (.invokevirtual 202, 3) := by decide +kernel
theorem dX8_fits_28 : decode cX8_fits 28 = .ok (.iconst (-1), 1) := by decide +kernel
theorem dX8_fits_29 : decode cX8_fits 29 = .ok (.if_icmp .ne 7, 3) := by decide +kernel
theorem dX8_fits_32 : decode cX8_fits 32 = .ok (.iconst 1, 1) := by decide +kernel
theorem dX8_fits_33 : decode cX8_fits 33 = .ok (.goto 4, 3) := by decide +kernel
theorem dX8_fits_36 : decode cX8_fits 36 = .ok (.iconst 0, 1) := by decide +kernel
theorem dX8_fits_37 : decode cX8_fits 37 = .ok (.ireturn, 1) := by decide +kernel
theorem dX8_fitting_0 : decode cX8_fitting 0 = .ok (.iconst 0, 1) := by decide +kernel
theorem dX8_fitting_1 : decode cX8_fitting 1 = .ok (.istore 5, 2) := by decide +kernel
theorem dX8_fitting_3 : decode cX8_fitting 3 = .ok (.iconst 0, 1) := by decide +kernel
theorem dX8_fitting_4 : decode cX8_fitting 4 = .ok (.istore 6, 2) := by decide +kernel
theorem dX8_fitting_6 : decode cX8_fitting 6 = .ok (.iload 6, 2) := by decide +kernel
theorem dX8_fitting_8 : decode cX8_fitting 8 = .ok (.iload 4, 2) := by decide +kernel
theorem dX8_fitting_10 : decode cX8_fitting 10 = .ok (.if_icmp .gt 30, 3) := by decide +kernel
theorem dX8_fitting_13 : decode cX8_fitting 13 = .ok (.aload_n 0, 1) := by decide +kernel
theorem dX8_fitting_14 : decode cX8_fitting 14 = .ok (.aload_n 1, 1) := by decide +kernel
theorem dX8_fitting_15 : decode cX8_fitting 15 = .ok (.iload_n 2, 1) := by decide +kernel
theorem dX8_fitting_16 : decode cX8_fitting 16 = .ok (.iload_n 3, 1) := by decide +kernel
theorem dX8_fitting_17 : decode cX8_fitting 17 = .ok (.iload 6, 2) := by decide +kernel
theorem dX8_fitting_19 : decode cX8_fitting 19 = .ok (.invokevirtual 275, 3) := by decide +kernel
theorem dX8_fitting_22 : decode cX8_fitting 22 = .ok (.ifCond .eq 12, 3) := by decide +kernel
theorem dX8_fitting_25 : decode cX8_fitting 25 = .ok (.iload 5, 2) := by decide +kernel
theorem dX8_fitting_27 : decode cX8_fitting 27 = .ok (.iconst 1, 1) := by decide +kernel
theorem dX8_fitting_28 : decode cX8_fitting 28 = .ok (.iload 6, 2) := by decide +kernel
theorem dX8_fitting_30 : decode cX8_fitting 30 = .ok (.ishl, 1) := by decide +kernel
theorem dX8_fitting_31 : decode cX8_fitting 31 = .ok (.ior, 1) := by decide +kernel
theorem dX8_fitting_32 : decode cX8_fitting 32 = .ok (.istore 5, 2) := by decide +kernel
theorem dX8_fitting_34 : decode cX8_fitting 34 = .ok (.iinc 6 1, 3) := by decide +kernel
theorem dX8_fitting_37 : decode cX8_fitting 37 = .ok (.goto (-31), 3) := by decide +kernel
theorem dX8_fitting_40 : decode cX8_fitting 40 = .ok (.iload 5, 2) := by decide +kernel
theorem dX8_fitting_42 : decode cX8_fitting 42 = .ok (.ireturn, 1) := by decide +kernel
theorem dX8_troublesFitting_0 : decode cX8_troublesFitting 0 = .ok (.iconst 0, 1) := by decide +kernel
theorem dX8_troublesFitting_1 : decode cX8_troublesFitting 1 = .ok (.istore_n 3, 1) := by decide +kernel
theorem dX8_troublesFitting_2 : decode cX8_troublesFitting 2 = .ok (.iconst 0, 1) := by decide +kernel
theorem dX8_troublesFitting_3 : decode cX8_troublesFitting 3 = .ok (.istore 4, 2) := by decide +kernel
theorem dX8_troublesFitting_5 : decode cX8_troublesFitting 5 = .ok (.iload 4, 2) := by decide +kernel
theorem dX8_troublesFitting_7 : decode cX8_troublesFitting 7 = .ok (.bipush 99, 2) := by decide +kernel
theorem dX8_troublesFitting_9 : decode cX8_troublesFitting 9 = .ok (.if_icmp .gt 24, 3) := by decide +kernel
theorem dX8_troublesFitting_12 : decode cX8_troublesFitting 12 = .ok (.aload_n 0, 1) := by decide +kernel
theorem dX8_troublesFitting_13 : decode cX8_troublesFitting 13 = .ok (.aload_n 1, 1) := by decide +kernel
theorem dX8_troublesFitting_14 : decode cX8_troublesFitting 14 = .ok (.iload_n 2, 1) := by decide +kernel
theorem dX8_troublesFitting_15 : decode cX8_troublesFitting 15 = .ok (.iconst 3, 1) := by decide +kernel
theorem dX8_troublesFitting_16 : decode cX8_troublesFitting 16 = .ok (.iload 4, 2) := by decide +kernel
theorem dX8_troublesFitting_18 : decode cX8_troublesFitting 18 = .ok (.invokevirtual 275, 3) := by decide +kernel
theorem dX8_troublesFitting_21 : decode cX8_troublesFitting 21 = .ok (.ifCond .eq 6, 3) := by decide +kernel
theorem dX8_troublesFitting_24 : decode cX8_troublesFitting 24 = .ok (.iinc 3 1, 3) := by decide +kernel
theorem dX8_troublesFitting_27 : decode cX8_troublesFitting 27 = .ok (.iinc 4 1, 3) := by decide +kernel
theorem dX8_troublesFitting_30 : decode cX8_troublesFitting 30 = .ok (.goto (-25), 3) := by decide +kernel
theorem dX8_troublesFitting_33 : decode cX8_troublesFitting 33 = .ok (.iload_n 3, 1) := by decide +kernel
theorem dX8_troublesFitting_34 : decode cX8_troublesFitting 34 = .ok (.ireturn, 1) := by decide +kernel
theorem dX8_leastTroubleFitting_0 : decode cX8_leastTroubleFitting 0 = .ok (.iconst 0, 1) := by decide +kernel
theorem dX8_leastTroubleFitting_1 : decode cX8_leastTroubleFitting 1 = .ok (.istore_n 3, 1) := by decide +kernel
theorem dX8_leastTroubleFitting_2 : decode cX8_leastTroubleFitting 2 = .ok (.iload_n 3, 1) := by decide +kernel
theorem dX8_leastTroubleFitting_3 : decode cX8_leastTroubleFitting 3 = .ok (.bipush 99, 2) := by decide +kernel
theorem dX8_leastTroubleFitting_5 : decode cX8_leastTroubleFitting 5 = .ok (.if_icmp .gt 22, 3) := by decide +kernel
theorem dX8_leastTroubleFitting_8 : decode cX8_leastTroubleFitting 8 = .ok (.aload_n 0, 1) := by decide +kernel
theorem dX8_leastTroubleFitting_9 : decode cX8_leastTroubleFitting 9 = .ok (.aload_n 1, 1) := by decide +kernel
theorem dX8_leastTroubleFitting_10 : decode cX8_leastTroubleFitting 10 = .ok (.iload_n 2, 1) := by decide +kernel
theorem dX8_leastTroubleFitting_11 : decode cX8_leastTroubleFitting 11 = .ok (.iconst 3, 1) := by decide +kernel
theorem dX8_leastTroubleFitting_12 : decode cX8_leastTroubleFitting 12 = .ok (.iload_n 3, 1) := by decide +kernel
theorem dX8_leastTroubleFitting_13 : decode cX8_leastTroubleFitting 13 = .ok (.invokevirtual 275, 3) := by decide +kernel
theorem dX8_leastTroubleFitting_16 : decode cX8_leastTroubleFitting 16 = .ok (.ifCond .eq 5, 3) := by decide +kernel
theorem dX8_leastTroubleFitting_19 : decode cX8_leastTroubleFitting 19 = .ok (.iload_n 3, 1) := by decide +kernel
theorem dX8_leastTroubleFitting_20 : decode cX8_leastTroubleFitting 20 = .ok (.ireturn, 1) := by decide +kernel
theorem dX8_leastTroubleFitting_21 : decode cX8_leastTroubleFitting 21 = .ok (.iinc 3 1, 3) := by decide +kernel
theorem dX8_leastTroubleFitting_24 : decode cX8_leastTroubleFitting 24 = .ok (.goto (-22), 3) := by decide +kernel
theorem dX8_leastTroubleFitting_27 : decode cX8_leastTroubleFitting 27 = .ok (.iconst (-1), 1) := by decide +kernel
theorem dX8_leastTroubleFitting_28 : decode cX8_leastTroubleFitting 28 = .ok (.ireturn, 1) := by decide +kernel
theorem dX8_onesFitting_0 : decode cX8_onesFitting 0 = .ok (.iconst 0, 1) := by decide +kernel
theorem dX8_onesFitting_1 : decode cX8_onesFitting 1 = .ok (.istore_n 2, 1) := by decide +kernel
theorem dX8_onesFitting_2 : decode cX8_onesFitting 2 = .ok (.iconst 0, 1) := by decide +kernel
theorem dX8_onesFitting_3 : decode cX8_onesFitting 3 = .ok (.istore_n 3, 1) := by decide +kernel
theorem dX8_onesFitting_4 : decode cX8_onesFitting 4 = .ok (.iload_n 3, 1) := by decide +kernel
theorem dX8_onesFitting_5 : decode cX8_onesFitting 5 = .ok (.aload_n 0, 1) := by decide +kernel
theorem dX8_onesFitting_6 : decode cX8_onesFitting 6 = .ok (.getfield 10, 3) := by decide +kernel
theorem dX8_onesFitting_9 : decode cX8_onesFitting 9 = .ok (.getfield 236, 3) := by decide +kernel
theorem dX8_onesFitting_12 : decode cX8_onesFitting 12 = .ok (.if_icmp .ge 36, 3) := by decide +kernel
theorem dX8_onesFitting_15 : decode cX8_onesFitting 15 = .ok (.aload_n 0, 1) := by decide +kernel
theorem dX8_onesFitting_16 : decode cX8_onesFitting 16 = .ok (.getfield 16, 3) := by decide +kernel
theorem dX8_onesFitting_19 : decode cX8_onesFitting 19 = .ok (.aload_n 0, 1) := by decide +kernel
theorem dX8_onesFitting_20 : decode cX8_onesFitting 20 = .ok (.getfield 10, 3) := by decide +kernel
theorem dX8_onesFitting_23 : decode cX8_onesFitting 23 = .ok (.invokevirtual 137, 3) := by decide +kernel
theorem dX8_onesFitting_26 : decode cX8_onesFitting 26 = .ok (.aload_n 0, 1) := by decide +kernel
theorem dX8_onesFitting_27 : decode cX8_onesFitting 27 = .ok (.aload_n 1, 1) := by decide +kernel
theorem dX8_onesFitting_28 : decode cX8_onesFitting 28 = .ok (.iload_n 3, 1) := by decide +kernel
theorem dX8_onesFitting_29 : decode cX8_onesFitting 29 = .ok (.invokevirtual 202, 3) := by decide +kernel
theorem dX8_onesFitting_32 : decode cX8_onesFitting 32 = .ok (.iconst (-1), 1) := by decide +kernel
theorem dX8_onesFitting_33 : decode cX8_onesFitting 33 = .ok (.if_icmp .ne 9, 3) := by decide +kernel
theorem dX8_onesFitting_36 : decode cX8_onesFitting 36 = .ok (.iload_n 2, 1) := by decide +kernel
theorem dX8_onesFitting_37 : decode cX8_onesFitting 37 = .ok (.iconst 1, 1) := by decide +kernel
theorem dX8_onesFitting_38 : decode cX8_onesFitting 38 = .ok (.iload_n 3, 1) := by decide +kernel
theorem dX8_onesFitting_39 : decode cX8_onesFitting 39 = .ok (.ishl, 1) := by decide +kernel
theorem dX8_onesFitting_40 : decode cX8_onesFitting 40 = .ok (.ior, 1) := by decide +kernel
theorem dX8_onesFitting_41 : decode cX8_onesFitting 41 = .ok (.istore_n 2, 1) := by decide +kernel
theorem dX8_onesFitting_42 : decode cX8_onesFitting 42 = .ok (.iinc 3 1, 3) := by decide +kernel
theorem dX8_onesFitting_45 : decode cX8_onesFitting 45 = .ok (.goto (-41), 3) := by decide +kernel
theorem dX8_onesFitting_48 : decode cX8_onesFitting 48 = .ok (.iload_n 2, 1) := by decide +kernel
theorem dX8_onesFitting_49 : decode cX8_onesFitting 49 = .ok (.ireturn, 1) := by decide +kernel
theorem dX9_in_0 : decode cX9_in 0 = .ok (.lload_n 0, 1) := by decide +kernel
theorem dX9_in_1 : decode cX9_in 1 = .ok (.lload_n 2, 1) := by decide +kernel
theorem dX9_in_2 : decode cX9_in 2 = .ok (.lcmp, 1) := by decide +kernel
theorem dX9_in_3 : decode cX9_in 3 = .ok (.ifCond .lt 14, 3) := by decide +kernel
theorem dX9_in_6 : decode cX9_in 6 = .ok (.lload_n 0, 1) := by decide +kernel
theorem dX9_in_7 : decode cX9_in 7 = .ok (.lload 4, 2) := by decide +kernel
theorem dX9_in_9 : decode cX9_in 9 = .ok (.lcmp, 1) := by decide +kernel
theorem dX9_in_10 : decode cX9_in 10 = .ok (.ifCond .gt 7, 3) := by decide +kernel
theorem dX9_in_13 : decode cX9_in 13 = .ok (.iconst 1, 1) := by decide +kernel
theorem dX9_in_14 : decode cX9_in 14 = .ok (.goto 4, 3) := by decide +kernel
theorem dX9_in_17 : decode cX9_in 17 = .ok (.iconst 0, 1) := by decide +kernel
theorem dX9_in_18 : decode cX9_in 18 = .ok (.ireturn, 1) := by decide +kernel
theorem dX9_within_0 : decode cX9_within 0 = .ok (.iload_n 0, 1) := by decide +kernel
theorem dX9_within_1 : decode cX9_within 1 = .ok (.iload_n 1, 1) := by decide +kernel
theorem dX9_within_2 : decode cX9_within 2 = .ok (.if_icmp .ge 7, 3) := by decide +kernel
theorem dX9_within_5 : decode cX9_within 5 = .ok (.iload_n 1, 1) := by decide +kernel
theorem dX9_within_6 : decode cX9_within 6 = .ok (.goto 13, 3) := by decide +kernel
theorem dX9_within_9 : decode cX9_within 9 = .ok (.iload_n 0, 1) := by decide +kernel
theorem dX9_within_10 : decode cX9_within 10 = .ok (.iload_n 2, 1) := by decide +kernel
theorem dX9_within_11 : decode cX9_within 11 = .ok (.if_icmp .le 7, 3) := by decide +kernel
theorem dX9_within_14 : decode cX9_within 14 = .ok (.iload_n 2, 1) := by decide +kernel
theorem dX9_within_15 : decode cX9_within 15 = .ok (.goto 4, 3) := by decide +kernel
theorem dX9_within_18 : decode cX9_within 18 = .ok (.iload_n 0, 1) := by decide +kernel
theorem dX9_within_19 : decode cX9_within 19 = .ok (.ireturn, 1) := by decide +kernel
theorem dX9_init_0 : decode cX9_init 0 = .ok (.aload_n 0, 1) := by decide +kernel
theorem dX9_init_1 : decode cX9_init 1 = .ok (.invokespecial 7, 3) := by decide +kernel
theorem dX9_init_4 : decode cX9_init 4 = .ok (.aload_n 0, 1) := by decide +kernel
theorem dX9_init_5 : decode cX9_init 5 = .ok (.sipush 960, 3) := by decide +kernel
theorem dX9_init_8 : decode cX9_init 8 = .ok (.newarray .int, 2) := by decide +kernel
theorem dX9_init_10 : decode cX9_init 10 = .ok (.putfield 13, 3) := by decide +kernel
theorem dX9_init_13 : decode cX9_init 13 = .ok (.aload_n 0, 1) := by decide +kernel
theorem dX9_init_14 : decode cX9_init 14 = .ok (.bipush 6, 2) := by decide +kernel
theorem dX9_init_16 : decode cX9_init 16 = .ok (.newarray .int, 2) := by decide +kernel
theorem dX9_init_18 : decode cX9_init 18 = .ok (.putfield 17, 3) := by decide +kernel
theorem dX9_init_21 : decode cX9_init 21 = .ok (.aload_n 0, 1) := by decide +kernel
theorem dX9_init_22 : decode cX9_init 22 = .ok (.sipush 160, 3) := by decide +kernel
theorem dX9_init_25 : decode cX9_init 25 = .ok (.newarray .int, 2) := by decide +kernel
theorem dX9_init_27 : decode cX9_init 27 = .ok (.putfield 20, 3) := by decide +kernel
theorem dX9_init_30 : decode cX9_init 30 = .ok (.aload_n 0, 1) := by decide +kernel
theorem dX9_init_31 : decode cX9_init 31 = .ok (.iconst 5, 1) := by decide +kernel
theorem dX9_init_32 : decode cX9_init 32 = .ok (.newarray .int, 2) := by decide +kernel
theorem dX9_init_34 : decode cX9_init 34 = .ok (.putfield 23, 3) := by decide +kernel
theorem dX9_init_37 : decode cX9_init 37 = .ok (.aload_n 0, 1) := by decide +kernel
theorem dX9_init_38 : decode cX9_init 38 = .ok (.bipush 15, 2) := by decide +kernel
theorem dX9_init_40 : decode cX9_init 40 = .ok (.newarray .int, 2) := by decide +kernel
theorem dX9_init_42 : decode cX9_init 42 = .ok (.putfield 26, 3) := by decide +kernel
theorem dX9_init_45 : decode cX9_init 45 = .ok (.aload_n 0, 1) := by decide +kernel
theorem dX9_init_46 : decode cX9_init 46 = .ok (.bipush 18, 2) := by decide +kernel
theorem dX9_init_48 : decode cX9_init 48 = .ok (.newarray .int, 2) := by decide +kernel
theorem dX9_init_50 : decode cX9_init 50 = .ok (.putfield 29, 3) := by decide +kernel
theorem dX9_init_53 : decode cX9_init 53 = .ok (.aload_n 0, 1) := by decide +kernel
theorem dX9_init_54 : decode cX9_init 54 = .ok (.sipush 1024, 3) := by decide +kernel
theorem dX9_init_57 : decode cX9_init 57 = .ok (.newarray .long, 2) := by decide +kernel
theorem dX9_init_59 : decode cX9_init 59 = .ok (.putfield 32, 3) := by decide +kernel
theorem dX9_init_62 : decode cX9_init 62 = .ok (.aload_n 0, 1) := by decide +kernel
theorem dX9_init_63 : decode cX9_init 63 = .ok (.sipush 1024, 3) := by decide +kernel
theorem dX9_init_66 : decode cX9_init 66 = .ok (.newarray .int, 2) := by decide +kernel
theorem dX9_init_68 : decode cX9_init 68 = .ok (.putfield 36, 3) := by decide +kernel
theorem dX9_init_71 : decode cX9_init 71 = .ok (.aload_n 0, 1) := by decide +kernel
theorem dX9_init_72 : decode cX9_init 72 = .ok (.bipush 30, 2) := by decide +kernel
theorem dX9_init_74 : decode cX9_init 74 = .ok (.newarray .int, 2) := by decide +kernel
theorem dX9_init_76 : decode cX9_init 76 = .ok (.putfield 39, 3) := by decide +kernel
theorem dX9_init_79 : decode cX9_init 79 = .ok (.aload_n 0, 1) := by decide +kernel
theorem dX9_init_80 : decode cX9_init 80 = .ok (.iconst 5, 1) := by decide +kernel
theorem dX9_init_81 : decode cX9_init 81 = .ok (.newarray .int, 2) := by decide +kernel
theorem dX9_init_83 : decode cX9_init 83 = .ok (.putfield 42, 3) := by decide +kernel
theorem dX9_init_86 : decode cX9_init 86 = .ok (.aload_n 0, 1) := by decide +kernel
theorem dX9_init_87 : decode cX9_init 87 = .ok (.bipush 34, 2) := by decide +kernel
theorem dX9_init_89 : decode cX9_init 89 = .ok (.newarray .int, 2) := by decide +kernel
theorem dX9_init_91 : decode cX9_init 91 = .ok (.putfield 45, 3) := by decide +kernel
theorem dX9_init_94 : decode cX9_init 94 = .ok (.aload_n 0, 1) := by decide +kernel
theorem dX9_init_95 : decode cX9_init 95 = .ok (.bipush 15, 2) := by decide +kernel
theorem dX9_init_97 : decode cX9_init 97 = .ok (.newarray .int, 2) := by decide +kernel
theorem dX9_init_99 : decode cX9_init 99 = .ok (.putfield 48, 3) := by decide +kernel
theorem dX9_init_102 : decode cX9_init 102 = .ok (.aload_n 0, 1) := by decide +kernel
theorem dX9_init_103 : decode cX9_init 103 = .ok (.bipush 18, 2) := by decide +kernel
theorem dX9_init_105 : decode cX9_init 105 = .ok (.newarray .int, 2) := by decide +kernel
theorem dX9_init_107 : decode cX9_init 107 = .ok (.putfield 51, 3) := by decide +kernel
theorem dX9_init_110 : decode cX9_init 110 = .ok (.aload_n 0, 1) := by decide +kernel
theorem dX9_init_111 : decode cX9_init 111 = .ok (.iconst (-1), 1) := by decide +kernel
theorem dX9_init_112 : decode cX9_init 112 = .ok (.putfield 54, 3) := by decide +kernel
theorem dX9_init_115 : decode cX9_init 115 = .ok (.aload_n 0, 1) := by decide +kernel
theorem dX9_init_116 : decode cX9_init 116 = .ok (.iconst 4, 1) := by decide +kernel
theorem dX9_init_117 : decode cX9_init 117 = .ok (.newarray .boolean, 2) := by decide +kernel
theorem dX9_init_119 : decode cX9_init 119 = .ok (.putfield 57, 3) := by decide +kernel
theorem dX9_init_122 : decode cX9_init 122 = .ok (.aload_n 0, 1) := by decide +kernel
theorem dX9_init_123 : decode cX9_init 123 = .ok (.iconst 4, 1) := by decide +kernel
theorem dX9_init_124 : decode cX9_init 124 = .ok (.newarray .int, 2) := by decide +kernel
theorem dX9_init_126 : decode cX9_init 126 = .ok (.putfield 61, 3) := by decide +kernel
theorem dX9_init_129 : decode cX9_init 129 = .ok (.aload_n 0, 1) := by decide +kernel
theorem dX9_init_130 : decode cX9_init 130 = .ok (.iconst 4, 1) := by decide +kernel
theorem dX9_init_131 : decode cX9_init 131 = .ok (.newarray .int, 2) := by decide +kernel
theorem dX9_init_133 : decode cX9_init 133 = .ok (.putfield 64, 3) := by decide +kernel
theorem dX9_init_136 : decode cX9_init 136 = .ok (.aload_n 0, 1) := by decide +kernel
theorem dX9_init_137 : decode cX9_init 137 = .ok (.sipush 160, 3) := by decide +kernel
theorem dX9_init_140 : decode cX9_init 140 = .ok (.newarray .int, 2) := by decide +kernel
theorem dX9_init_142 : decode cX9_init 142 = .ok (.putfield 67, 3) := by decide +kernel
theorem dX9_init_145 : decode cX9_init 145 = .ok (.iconst 0, 1) := by decide +kernel
theorem dX9_init_146 : decode cX9_init 146 = .ok (.istore_n 1, 1) := by decide +kernel
theorem dX9_init_147 : decode cX9_init 147 = .ok (.iload_n 1, 1) := by decide +kernel
theorem dX9_init_148 : decode cX9_init 148 = .ok (.bipush 6, 2) := by decide +kernel
theorem dX9_init_150 : decode cX9_init 150 = .ok (.if_icmp .ge 30, 3) := by decide +kernel
theorem dX9_init_153 : decode cX9_init 153 = .ok (.aload_n 0, 1) := by decide +kernel
theorem dX9_init_154 : decode cX9_init 154 = .ok (.getfield 29, 3) := by decide +kernel
theorem dX9_init_157 : decode cX9_init 157 = .ok (.iconst 3, 1) := by decide +kernel
theorem dX9_init_158 : decode cX9_init 158 = .ok (.iload_n 1, 1) := by decide +kernel
theorem dX9_init_159 : decode cX9_init 159 = .ok (.imul, 1) := by decide +kernel
theorem dX9_init_160 : decode cX9_init 160 = .ok (.bipush 10, 2) := by decide +kernel
theorem dX9_init_162 : decode cX9_init 162 = .ok (.iastore, 1) := by decide +kernel
theorem dX9_init_163 : decode cX9_init 163 = .ok (.aload_n 0, 1) := by decide +kernel
theorem dX9_init_164 : decode cX9_init 164 = .ok (.getfield 29, 3) := by decide +kernel
theorem dX9_init_167 : decode cX9_init 167 = .ok (.iconst 3, 1) := by decide +kernel
theorem dX9_init_168 : decode cX9_init 168 = .ok (.iload_n 1, 1) := by decide +kernel
theorem dX9_init_169 : decode cX9_init 169 = .ok (.imul, 1) := by decide +kernel
theorem dX9_init_170 : decode cX9_init 170 = .ok (.iconst 1, 1) := by decide +kernel
theorem dX9_init_171 : decode cX9_init 171 = .ok (.iadd, 1) := by decide +kernel
theorem dX9_init_172 : decode cX9_init 172 = .ok (.iload_n 1, 1) := by decide +kernel
theorem dX9_init_173 : decode cX9_init 173 = .ok (.iastore, 1) := by decide +kernel
theorem dX9_init_174 : decode cX9_init 174 = .ok (.iinc 1 1, 3) := by decide +kernel
theorem dX9_init_177 : decode cX9_init 177 = .ok (.goto (-30), 3) := by decide +kernel
theorem dX9_init_180 : decode cX9_init 180 = .ok (.aload_n 0, 1) := by decide +kernel
theorem dX9_init_181 : decode cX9_init 181 = .ok (.iconst 0, 1) := by decide +kernel
theorem dX9_init_182 : decode cX9_init 182 = .ok (.bipush 121, 2) := by decide +kernel
theorem dX9_init_184 : decode cX9_init 184 = .ok (.bipush 105, 2) := by decide +kernel
theorem dX9_init_186 : decode cX9_init 186 = .ok (.bipush 101, 2) := by decide +kernel
theorem dX9_init_188 : decode cX9_init 188 = .ok (.bipush 108, 2) := by decide +kernel
theorem dX9_init_190 : decode cX9_init 190 = .ok (.bipush 100, 2) := by decide +kernel
theorem dX9_init_192 : decode cX9_init 192 = .ok (.bipush 115, 2) := by decide +kernel
