theorem dX9_init_194 : decode cX9_init 194 = .ok (.bipush 32, 2) := by decide +kernel
theorem dX9_init_196 : decode cX9_init 196 = .ok (.bipush 49, 2) := by decide +kernel
theorem dX9_init_198 : decode cX9_init 198 = .ok (.invokevirtual 70, 3) := by decide +kernel
theorem dX9_init_201 : decode cX9_init 201 = .ok (.aload_n 0, 1) := by decide +kernel
theorem dX9_init_202 : decode cX9_init 202 = .ok (.bipush 8, 2) := by decide +kernel
theorem dX9_init_204 : decode cX9_init 204 = .ok (.bipush 32, 2) := by decide +kernel
theorem dX9_init_206 : decode cX9_init 206 = .ok (.bipush 43, 2) := by decide +kernel
theorem dX9_init_208 : decode cX9_init 208 = .ok (.bipush 32, 2) := by decide +kernel
theorem dX9_init_210 : decode cX9_init 210 = .ok (.bipush 116, 2) := by decide +kernel
theorem dX9_init_212 : decode cX9_init 212 = .ok (.bipush 114, 2) := by decide +kernel
theorem dX9_init_214 : decode cX9_init 214 = .ok (.bipush 111, 2) := by decide +kernel
theorem dX9_init_216 : decode cX9_init 216 = .ok (.bipush 117, 2) := by decide +kernel
theorem dX9_init_218 : decode cX9_init 218 = .ok (.bipush 98, 2) := by decide +kernel
theorem dX9_init_220 : decode cX9_init 220 = .ok (.invokevirtual 70, 3) := by decide +kernel
theorem dX9_init_223 : decode cX9_init 223 = .ok (.aload_n 0, 1) := by decide +kernel
theorem dX9_init_224 : decode cX9_init 224 = .ok (.bipush 16, 2) := by decide +kernel
theorem dX9_init_226 : decode cX9_init 226 = .ok (.bipush 108, 2) := by decide +kernel
theorem dX9_init_228 : decode cX9_init 228 = .ok (.bipush 101, 2) := by decide +kernel
theorem dX9_init_230 : decode cX9_init 230 = .ok (.bipush 32, 2) := by decide +kernel
theorem dX9_init_232 : decode cX9_init 232 = .ok (.bipush 59, 2) := by decide +kernel
theorem dX9_init_234 : decode cX9_init 234 = .ok (.bipush 32, 2) := by decide +kernel
theorem dX9_init_236 : decode cX9_init 236 = .ok (.bipush 115, 2) := by decide +kernel
theorem dX9_init_238 : decode cX9_init 238 = .ok (.bipush 117, 2) := by decide +kernel
theorem dX9_init_240 : decode cX9_init 240 = .ok (.bipush 105, 2) := by decide +kernel
theorem dX9_init_242 : decode cX9_init 242 = .ok (.invokevirtual 70, 3) := by decide +kernel
theorem dX9_init_245 : decode cX9_init 245 = .ok (.aload_n 0, 1) := by decide +kernel
theorem dX9_init_246 : decode cX9_init 246 = .ok (.bipush 24, 2) := by decide +kernel
theorem dX9_init_248 : decode cX9_init 248 = .ok (.bipush 116, 2) := by decide +kernel
theorem dX9_init_250 : decode cX9_init 250 = .ok (.bipush 115, 2) := by decide +kernel
theorem dX9_init_252 : decode cX9_init 252 = .ok (.bipush 32, 2) := by decide +kernel
theorem dX9_init_254 : decode cX9_init 254 = .ok (.bipush 49, 2) := by decide +kernel
theorem dX9_init_256 : decode cX9_init 256 = .ok (.bipush 32, 2) := by decide +kernel
theorem dX9_init_258 : decode cX9_init 258 = .ok (.bipush 59, 2) := by decide +kernel
theorem dX9_init_260 : decode cX9_init 260 = .ok (.bipush 32, 2) := by decide +kernel
theorem dX9_init_262 : decode cX9_init 262 = .ok (.bipush 101, 2) := by decide +kernel
theorem dX9_init_264 : decode cX9_init 264 = .ok (.invokevirtual 70, 3) := by decide +kernel
theorem dX9_init_267 : decode cX9_init 267 = .ok (.aload_n 0, 1) := by decide +kernel
theorem dX9_init_268 : decode cX9_init 268 = .ok (.bipush 32, 2) := by decide +kernel
theorem dX9_init_270 : decode cX9_init 270 = .ok (.bipush 97, 2) := by decide +kernel
theorem dX9_init_272 : decode cX9_init 272 = .ok (.bipush 115, 2) := by decide +kernel
theorem dX9_init_274 : decode cX9_init 274 = .ok (.bipush 101, 2) := by decide +kernel
theorem dX9_init_276 : decode cX9_init 276 = .ok (.bipush 115, 2) := by decide +kernel
theorem dX9_init_278 : decode cX9_init 278 = .ok (.bipush 32, 2) := by decide +kernel
theorem dX9_init_280 : decode cX9_init 280 = .ok (.bipush 48, 2) := by decide +kernel
theorem dX9_init_282 : decode cX9_init 282 = .ok (.bipush 32, 2) := by decide +kernel
theorem dX9_init_284 : decode cX9_init 284 = .ok (.bipush 59, 2) := by decide +kernel
theorem dX9_init_286 : decode cX9_init 286 = .ok (.invokevirtual 70, 3) := by decide +kernel
theorem dX9_init_289 : decode cX9_init 289 = .ok (.aload_n 0, 1) := by decide +kernel
theorem dX9_init_290 : decode cX9_init 290 = .ok (.getfield 17, 3) := by decide +kernel
theorem dX9_init_293 : decode cX9_init 293 = .ok (.iconst 0, 1) := by decide +kernel
theorem dX9_init_294 : decode cX9_init 294 = .ok (.bipush 40, 2) := by decide +kernel
theorem dX9_init_296 : decode cX9_init 296 = .ok (.iastore, 1) := by decide +kernel
theorem dX9_init_297 : decode cX9_init 297 = .ok (.aload_n 0, 1) := by decide +kernel
theorem dX9_init_298 : decode cX9_init 298 = .ok (.iconst 1, 1) := by decide +kernel
theorem dX9_init_299 : decode cX9_init 299 = .ok (.putfield 74, 3) := by decide +kernel
theorem dX9_init_302 : decode cX9_init 302 = .ok (.return_, 1) := by decide +kernel
theorem dX9_spell_0 : decode cX9_spell 0 = .ok (.aload_n 0, 1) := by decide +kernel
theorem dX9_spell_1 : decode cX9_spell 1 = .ok (.getfield 13, 3) := by decide +kernel
theorem dX9_spell_4 : decode cX9_spell 4 = .ok (.iload_n 1, 1) := by decide +kernel
theorem dX9_spell_5 : decode cX9_spell 5 = .ok (.iload_n 2, 1) := by decide +kernel
theorem dX9_spell_6 : decode cX9_spell 6 = .ok (.iastore, 1) := by decide +kernel
theorem dX9_spell_7 : decode cX9_spell 7 = .ok (.aload_n 0, 1) := by decide +kernel
theorem dX9_spell_8 : decode cX9_spell 8 = .ok (.getfield 13, 3) := by decide +kernel
theorem dX9_spell_11 : decode cX9_spell 11 = .ok (.iload_n 1, 1) := by decide +kernel
theorem dX9_spell_12 : decode cX9_spell 12 = .ok (.iconst 1, 1) := by decide +kernel
theorem dX9_spell_13 : decode cX9_spell 13 = .ok (.iadd, 1) := by decide +kernel
theorem dX9_spell_14 : decode cX9_spell 14 = .ok (.iload_n 3, 1) := by decide +kernel
theorem dX9_spell_15 : decode cX9_spell 15 = .ok (.iastore, 1) := by decide +kernel
theorem dX9_spell_16 : decode cX9_spell 16 = .ok (.aload_n 0, 1) := by decide +kernel
theorem dX9_spell_17 : decode cX9_spell 17 = .ok (.getfield 13, 3) := by decide +kernel
theorem dX9_spell_20 : decode cX9_spell 20 = .ok (.iload_n 1, 1) := by decide +kernel
theorem dX9_spell_21 : decode cX9_spell 21 = .ok (.iconst 2, 1) := by decide +kernel
theorem dX9_spell_22 : decode cX9_spell 22 = .ok (.iadd, 1) := by decide +kernel
theorem dX9_spell_23 : decode cX9_spell 23 = .ok (.iload 4, 2) := by decide +kernel
theorem dX9_spell_25 : decode cX9_spell 25 = .ok (.iastore, 1) := by decide +kernel
theorem dX9_spell_26 : decode cX9_spell 26 = .ok (.aload_n 0, 1) := by decide +kernel
theorem dX9_spell_27 : decode cX9_spell 27 = .ok (.getfield 13, 3) := by decide +kernel
theorem dX9_spell_30 : decode cX9_spell 30 = .ok (.iload_n 1, 1) := by decide +kernel
theorem dX9_spell_31 : decode cX9_spell 31 = .ok (.iconst 3, 1) := by decide +kernel
theorem dX9_spell_32 : decode cX9_spell 32 = .ok (.iadd, 1) := by decide +kernel
theorem dX9_spell_33 : decode cX9_spell 33 = .ok (.iload 5, 2) := by decide +kernel
theorem dX9_spell_35 : decode cX9_spell 35 = .ok (.iastore, 1) := by decide +kernel
theorem dX9_spell_36 : decode cX9_spell 36 = .ok (.aload_n 0, 1) := by decide +kernel
theorem dX9_spell_37 : decode cX9_spell 37 = .ok (.getfield 13, 3) := by decide +kernel
theorem dX9_spell_40 : decode cX9_spell 40 = .ok (.iload_n 1, 1) := by decide +kernel
theorem dX9_spell_41 : decode cX9_spell 41 = .ok (.iconst 4, 1) := by decide +kernel
theorem dX9_spell_42 : decode cX9_spell 42 = .ok (.iadd, 1) := by decide +kernel
theorem dX9_spell_43 : decode cX9_spell 43 = .ok (.iload 6, 2) := by decide +kernel
theorem dX9_spell_45 : decode cX9_spell 45 = .ok (.iastore, 1) := by decide +kernel
theorem dX9_spell_46 : decode cX9_spell 46 = .ok (.aload_n 0, 1) := by decide +kernel
theorem dX9_spell_47 : decode cX9_spell 47 = .ok (.getfield 13, 3) := by decide +kernel
theorem dX9_spell_50 : decode cX9_spell 50 = .ok (.iload_n 1, 1) := by decide +kernel
theorem dX9_spell_51 : decode cX9_spell 51 = .ok (.iconst 5, 1) := by decide +kernel
theorem dX9_spell_52 : decode cX9_spell 52 = .ok (.iadd, 1) := by decide +kernel
theorem dX9_spell_53 : decode cX9_spell 53 = .ok (.iload 7, 2) := by decide +kernel
theorem dX9_spell_55 : decode cX9_spell 55 = .ok (.iastore, 1) := by decide +kernel
theorem dX9_spell_56 : decode cX9_spell 56 = .ok (.aload_n 0, 1) := by decide +kernel
theorem dX9_spell_57 : decode cX9_spell 57 = .ok (.getfield 13, 3) := by decide +kernel
theorem dX9_spell_60 : decode cX9_spell 60 = .ok (.iload_n 1, 1) := by decide +kernel
theorem dX9_spell_61 : decode cX9_spell 61 = .ok (.bipush 6, 2) := by decide +kernel
theorem dX9_spell_63 : decode cX9_spell 63 = .ok (.iadd, 1) := by decide +kernel
theorem dX9_spell_64 : decode cX9_spell 64 = .ok (.iload 8, 2) := by decide +kernel
theorem dX9_spell_66 : decode cX9_spell 66 = .ok (.iastore, 1) := by decide +kernel
theorem dX9_spell_67 : decode cX9_spell 67 = .ok (.aload_n 0, 1) := by decide +kernel
theorem dX9_spell_68 : decode cX9_spell 68 = .ok (.getfield 13, 3) := by decide +kernel
theorem dX9_spell_71 : decode cX9_spell 71 = .ok (.iload_n 1, 1) := by decide +kernel
theorem dX9_spell_72 : decode cX9_spell 72 = .ok (.bipush 7, 2) := by decide +kernel
theorem dX9_spell_74 : decode cX9_spell 74 = .ok (.iadd, 1) := by decide +kernel
theorem dX9_spell_75 : decode cX9_spell 75 = .ok (.iload 9, 2) := by decide +kernel
theorem dX9_spell_77 : decode cX9_spell 77 = .ok (.iastore, 1) := by decide +kernel
theorem dX9_spell_78 : decode cX9_spell 78 = .ok (.return_, 1) := by decide +kernel
theorem dX9_isOne_0 : decode cX9_isOne 0 = .ok (.iload_n 1, 1) := by decide +kernel
theorem dX9_isOne_1 : decode cX9_isOne 1 = .ok (.i2l, 1) := by decide +kernel
theorem dX9_isOne_2 : decode cX9_isOne 2 = .ok (.lconst 0, 1) := by decide +kernel
theorem dX9_isOne_3 : decode cX9_isOne 3 = .ok (.aload_n 0, 1) := by decide +kernel
theorem dX9_isOne_4 : decode cX9_isOne 4 = .ok (.getfield 77, 3) := by decide +kernel
theorem dX9_isOne_7 : decode cX9_isOne 7 = .ok (.iconst 1, 1) := by decide +kernel
theorem dX9_isOne_8 : decode cX9_isOne 8 = .ok (.isub, 1) := by decide +kernel
theorem dX9_isOne_9 : decode cX9_isOne 9 = .ok (.i2l, 1) := by decide +kernel
theorem dX9_isOne_10 : decode cX9_isOne 10 = .ok (.invokestatic 80, 3) := by decide +kernel
theorem dX9_isOne_13 : decode cX9_isOne 13 = .ok (.ireturn, 1) := by decide +kernel
theorem dX9_isCup_0 : decode cX9_isCup 0 = .ok (.iload_n 0, 1) := by decide +kernel
theorem dX9_isCup_1 : decode cX9_isCup 1 = .ok (.i2l, 1) := by decide +kernel
theorem dX9_isCup_2 : decode cX9_isCup 2 = .ok (.lconst 0, 1) := by decide +kernel
theorem dX9_isCup_3 : decode cX9_isCup 3 = .ok (.ldc2_w 84, 3) := by decide +kernel
theorem dX9_isCup_6 : decode cX9_isCup 6 = .ok (.invokestatic 80, 3) := by decide +kernel
theorem dX9_isCup_9 : decode cX9_isCup 9 = .ok (.ireturn, 1) := by decide +kernel
theorem dX9_isOf_0 : decode cX9_isOf 0 = .ok (.iload_n 1, 1) := by decide +kernel
theorem dX9_isOf_1 : decode cX9_isOf 1 = .ok (.iconst 2, 1) := by decide +kernel
theorem dX9_isOf_2 : decode cX9_isOf 2 = .ok (.if_icmp .lt 38, 3) := by decide +kernel
theorem dX9_isOf_5 : decode cX9_isOf 5 = .ok (.iload_n 1, 1) := by decide +kernel
theorem dX9_isOf_6 : decode cX9_isOf 6 = .ok (.iconst 5, 1) := by decide +kernel
theorem dX9_isOf_7 : decode cX9_isOf 7 = .ok (.if_icmp .eq 15, 3) := by decide +kernel
theorem dX9_isOf_10 : decode cX9_isOf 10 = .ok (.iload_n 1, 1) := by decide +kernel
theorem dX9_isOf_11 : decode cX9_isOf 11 = .ok (.bipush 6, 2) := by decide +kernel
theorem dX9_isOf_13 : decode cX9_isOf 13 = .ok (.if_icmp .eq 9, 3) := by decide +kernel
theorem dX9_isOf_16 : decode cX9_isOf 16 = .ok (.iload_n 1, 1) := by decide +kernel
theorem dX9_isOf_17 : decode cX9_isOf 17 = .ok (.bipush 10, 2) := by decide +kernel
theorem dX9_isOf_19 : decode cX9_isOf 19 = .ok (.if_icmp .ne 13, 3) := by decide +kernel
theorem dX9_isOf_22 : decode cX9_isOf 22 = .ok (.iload_n 2, 1) := by decide +kernel
theorem dX9_isOf_23 : decode cX9_isOf 23 = .ok (.invokestatic 86, 3) := by decide +kernel
theorem dX9_isOf_26 : decode cX9_isOf 26 = .ok (.ifCond .eq 18, 3) := by decide +kernel
theorem dX9_isOf_29 : decode cX9_isOf 29 = .ok (.goto 11, 3) := by decide +kernel
theorem dX9_isOf_32 : decode cX9_isOf 32 = .ok (.aload_n 0, 1) := by decide +kernel
theorem dX9_isOf_33 : decode cX9_isOf 33 = .ok (.iload_n 2, 1) := by decide +kernel
theorem dX9_isOf_34 : decode cX9_isOf 34 = .ok (.invokevirtual 90, 3) := by decide +kernel
theorem dX9_isOf_37 : decode cX9_isOf 37 = .ok (.ifCond .eq 7, 3) := by decide +kernel
theorem dX9_isOf_40 : decode cX9_isOf 40 = .ok (.iconst 1, 1) := by decide +kernel
theorem dX9_isOf_41 : decode cX9_isOf 41 = .ok (.goto 4, 3) := by decide +kernel
theorem dX9_isOf_44 : decode cX9_isOf 44 = .ok (.iconst 0, 1) := by decide +kernel
theorem dX9_isOf_45 : decode cX9_isOf 45 = .ok (.ireturn, 1) := by decide +kernel
theorem dX9_mostOf_0 : decode cX9_mostOf 0 = .ok (.iload_n 0, 1) := by decide +kernel
theorem dX9_mostOf_1 : decode cX9_mostOf 1 = .ok (.ifCond .ne 9, 3) := by decide +kernel
theorem dX9_mostOf_4 : decode cX9_mostOf 4 = .ok (.sipush 999, 3) := by decide +kernel
theorem dX9_mostOf_7 : decode cX9_mostOf 7 = .ok (.goto 31, 3) := by decide +kernel
theorem dX9_mostOf_10 : decode cX9_mostOf 10 = .ok (.iload_n 0, 1) := by decide +kernel
theorem dX9_mostOf_11 : decode cX9_mostOf 11 = .ok (.iconst 1, 1) := by decide +kernel
theorem dX9_mostOf_12 : decode cX9_mostOf 12 = .ok (.if_icmp .ne 8, 3) := by decide +kernel
theorem dX9_mostOf_15 : decode cX9_mostOf 15 = .ok (.bipush 23, 2) := by decide +kernel
theorem dX9_mostOf_17 : decode cX9_mostOf 17 = .ok (.goto 21, 3) := by decide +kernel
theorem dX9_mostOf_20 : decode cX9_mostOf 20 = .ok (.iload_n 0, 1) := by decide +kernel
theorem dX9_mostOf_21 : decode cX9_mostOf 21 = .ok (.iconst 2, 1) := by decide +kernel
theorem dX9_mostOf_22 : decode cX9_mostOf 22 = .ok (.if_icmp .eq 9, 3) := by decide +kernel
theorem dX9_mostOf_25 : decode cX9_mostOf 25 = .ok (.iload_n 0, 1) := by decide +kernel
theorem dX9_mostOf_26 : decode cX9_mostOf 26 = .ok (.bipush 6, 2) := by decide +kernel
theorem dX9_mostOf_28 : decode cX9_mostOf 28 = .ok (.if_icmp .ne 8, 3) := by decide +kernel
theorem dX9_mostOf_31 : decode cX9_mostOf 31 = .ok (.bipush 9, 2) := by decide +kernel
theorem dX9_mostOf_33 : decode cX9_mostOf 33 = .ok (.goto 5, 3) := by decide +kernel
theorem dX9_mostOf_36 : decode cX9_mostOf 36 = .ok (.bipush 99, 2) := by decide +kernel
theorem dX9_mostOf_38 : decode cX9_mostOf 38 = .ok (.ireturn, 1) := by decide +kernel
theorem dX9_set_0 : decode cX9_set 0 = .ok (.iload_n 1, 1) := by decide +kernel
theorem dX9_set_1 : decode cX9_set 1 = .ok (.i2l, 1) := by decide +kernel
theorem dX9_set_2 : decode cX9_set 2 = .ok (.lconst 0, 1) := by decide +kernel
theorem dX9_set_3 : decode cX9_set 3 = .ok (.ldc2_w 93, 3) := by decide +kernel
theorem dX9_set_6 : decode cX9_set 6 = .ok (.invokestatic 80, 3) := by decide +kernel
theorem dX9_set_9 : decode cX9_set 9 = .ok (.ifCond .eq 26, 3) := by decide +kernel
theorem dX9_set_12 : decode cX9_set 12 = .ok (.aload_n 0, 1) := by decide +kernel
theorem dX9_set_13 : decode cX9_set 13 = .ok (.iload_n 1, 1) := by decide +kernel
theorem dX9_set_14 : decode cX9_set 14 = .ok (.iload_n 2, 1) := by decide +kernel
theorem dX9_set_15 : decode cX9_set 15 = .ok (.invokevirtual 95, 3) := by decide +kernel
theorem dX9_set_18 : decode cX9_set 18 = .ok (.ifCond .eq 17, 3) := by decide +kernel
theorem dX9_set_21 : decode cX9_set 21 = .ok (.iload_n 3, 1) := by decide +kernel
theorem dX9_set_22 : decode cX9_set 22 = .ok (.i2l, 1) := by decide +kernel
theorem dX9_set_23 : decode cX9_set 23 = .ok (.lconst 0, 1) := by decide +kernel
theorem dX9_set_24 : decode cX9_set 24 = .ok (.iload_n 1, 1) := by decide +kernel
theorem dX9_set_25 : decode cX9_set 25 = .ok (.invokestatic 99, 3) := by decide +kernel
theorem dX9_set_28 : decode cX9_set 28 = .ok (.i2l, 1) := by decide +kernel
theorem dX9_set_29 : decode cX9_set 29 = .ok (.invokestatic 80, 3) := by decide +kernel
theorem dX9_set_32 : decode cX9_set 32 = .ok (.ifCond .ne 6, 3) := by decide +kernel
theorem dX9_set_35 : decode cX9_set 35 = .ok (.bipush (-2), 2) := by decide +kernel
theorem dX9_set_37 : decode cX9_set 37 = .ok (.ireturn, 1) := by decide +kernel
theorem dX9_set_38 : decode cX9_set 38 = .ok (.aload_n 0, 1) := by decide +kernel
theorem dX9_set_39 : decode cX9_set 39 = .ok (.iload_n 2, 1) := by decide +kernel
theorem dX9_set_40 : decode cX9_set 40 = .ok (.iload_n 1, 1) := by decide +kernel
theorem dX9_set_41 : decode cX9_set 41 = .ok (.invokevirtual 103, 3) := by decide +kernel
theorem dX9_set_44 : decode cX9_set 44 = .ok (.istore 4, 2) := by decide +kernel
theorem dX9_set_46 : decode cX9_set 46 = .ok (.aload_n 0, 1) := by decide +kernel
theorem dX9_set_47 : decode cX9_set 47 = .ok (.iload_n 1, 1) := by decide +kernel
theorem dX9_set_48 : decode cX9_set 48 = .ok (.iload_n 2, 1) := by decide +kernel
theorem dX9_set_49 : decode cX9_set 49 = .ok (.iload_n 3, 1) := by decide +kernel
theorem dX9_set_50 : decode cX9_set 50 = .ok (.invokevirtual 107, 3) := by decide +kernel
theorem dX9_set_53 : decode cX9_set 53 = .ok (.iload 4, 2) := by decide +kernel
theorem dX9_set_55 : decode cX9_set 55 = .ok (.ireturn, 1) := by decide +kernel
theorem dX9_lays_0 : decode cX9_lays 0 = .ok (.iload_n 1, 1) := by decide +kernel
theorem dX9_lays_1 : decode cX9_lays 1 = .ok (.iconst 2, 1) := by decide +kernel
theorem dX9_lays_2 : decode cX9_lays 2 = .ok (.if_icmp .ge 39, 3) := by decide +kernel
theorem dX9_lays_5 : decode cX9_lays 5 = .ok (.aload_n 0, 1) := by decide +kernel
theorem dX9_lays_6 : decode cX9_lays 6 = .ok (.iload_n 1, 1) := by decide +kernel
theorem dX9_lays_7 : decode cX9_lays 7 = .ok (.ifCond .ne 7, 3) := by decide +kernel
theorem dX9_lays_10 : decode cX9_lays 10 = .ok (.iload_n 3, 1) := by decide +kernel
theorem dX9_lays_11 : decode cX9_lays 11 = .ok (.goto 7, 3) := by decide +kernel
theorem dX9_lays_14 : decode cX9_lays 14 = .ok (.aload_n 0, 1) := by decide +kernel
theorem dX9_lays_15 : decode cX9_lays 15 = .ok (.getfield 111, 3) := by decide +kernel
theorem dX9_lays_18 : decode cX9_lays 18 = .ok (.putfield 111, 3) := by decide +kernel
theorem dX9_lays_21 : decode cX9_lays 21 = .ok (.aload_n 0, 1) := by decide +kernel
theorem dX9_lays_22 : decode cX9_lays 22 = .ok (.iload_n 1, 1) := by decide +kernel
theorem dX9_lays_23 : decode cX9_lays 23 = .ok (.iconst 1, 1) := by decide +kernel
theorem dX9_lays_24 : decode cX9_lays 24 = .ok (.if_icmp .ne 7, 3) := by decide +kernel
theorem dX9_lays_27 : decode cX9_lays 27 = .ok (.iload_n 3, 1) := by decide +kernel
theorem dX9_lays_28 : decode cX9_lays 28 = .ok (.goto 7, 3) := by decide +kernel
theorem dX9_lays_31 : decode cX9_lays 31 = .ok (.aload_n 0, 1) := by decide +kernel
theorem dX9_lays_32 : decode cX9_lays 32 = .ok (.getfield 114, 3) := by decide +kernel
theorem dX9_lays_35 : decode cX9_lays 35 = .ok (.putfield 114, 3) := by decide +kernel
theorem dX9_lays_38 : decode cX9_lays 38 = .ok (.goto 67, 3) := by decide +kernel
theorem dX9_lays_41 : decode cX9_lays 41 = .ok (.iload_n 1, 1) := by decide +kernel
theorem dX9_lays_42 : decode cX9_lays 42 = .ok (.iconst 5, 1) := by decide +kernel
theorem dX9_lays_43 : decode cX9_lays 43 = .ok (.if_icmp .ge 19, 3) := by decide +kernel
theorem dX9_lays_46 : decode cX9_lays 46 = .ok (.aload_n 0, 1) := by decide +kernel
theorem dX9_lays_47 : decode cX9_lays 47 = .ok (.getfield 26, 3) := by decide +kernel
theorem dX9_lays_50 : decode cX9_lays 50 = .ok (.iconst 3, 1) := by decide +kernel
theorem dX9_lays_51 : decode cX9_lays 51 = .ok (.iload_n 2, 1) := by decide +kernel
theorem dX9_lays_52 : decode cX9_lays 52 = .ok (.imul, 1) := by decide +kernel
theorem dX9_lays_53 : decode cX9_lays 53 = .ok (.iload_n 1, 1) := by decide +kernel
theorem dX9_lays_54 : decode cX9_lays 54 = .ok (.iadd, 1) := by decide +kernel
theorem dX9_lays_55 : decode cX9_lays 55 = .ok (.iconst 2, 1) := by decide +kernel
theorem dX9_lays_56 : decode cX9_lays 56 = .ok (.isub, 1) := by decide +kernel
theorem dX9_lays_57 : decode cX9_lays 57 = .ok (.iload_n 3, 1) := by decide +kernel
theorem dX9_lays_58 : decode cX9_lays 58 = .ok (.iastore, 1) := by decide +kernel
theorem dX9_lays_59 : decode cX9_lays 59 = .ok (.goto 46, 3) := by decide +kernel
theorem dX9_lays_62 : decode cX9_lays 62 = .ok (.iload_n 1, 1) := by decide +kernel
theorem dX9_lays_63 : decode cX9_lays 63 = .ok (.bipush 7, 2) := by decide +kernel
theorem dX9_lays_65 : decode cX9_lays 65 = .ok (.if_icmp .ge 19, 3) := by decide +kernel
theorem dX9_lays_68 : decode cX9_lays 68 = .ok (.aload_n 0, 1) := by decide +kernel
theorem dX9_lays_69 : decode cX9_lays 69 = .ok (.getfield 29, 3) := by decide +kernel
theorem dX9_lays_72 : decode cX9_lays 72 = .ok (.iconst 3, 1) := by decide +kernel
theorem dX9_lays_73 : decode cX9_lays 73 = .ok (.iload_n 2, 1) := by decide +kernel
theorem dX9_lays_74 : decode cX9_lays 74 = .ok (.imul, 1) := by decide +kernel
theorem dX9_lays_75 : decode cX9_lays 75 = .ok (.iload_n 1, 1) := by decide +kernel
theorem dX9_lays_76 : decode cX9_lays 76 = .ok (.iadd, 1) := by decide +kernel
theorem dX9_lays_77 : decode cX9_lays 77 = .ok (.iconst 5, 1) := by decide +kernel
theorem dX9_lays_78 : decode cX9_lays 78 = .ok (.isub, 1) := by decide +kernel
theorem dX9_lays_79 : decode cX9_lays 79 = .ok (.iload_n 3, 1) := by decide +kernel
theorem dX9_lays_80 : decode cX9_lays 80 = .ok (.iastore, 1) := by decide +kernel
theorem dX9_lays_81 : decode cX9_lays 81 = .ok (.goto 24, 3) := by decide +kernel
theorem dX9_lays_84 : decode cX9_lays 84 = .ok (.iload_n 1, 1) := by decide +kernel
theorem dX9_lays_85 : decode cX9_lays 85 = .ok (.bipush 7, 2) := by decide +kernel
theorem dX9_lays_87 : decode cX9_lays 87 = .ok (.if_icmp .ne 13, 3) := by decide +kernel
theorem dX9_lays_90 : decode cX9_lays 90 = .ok (.aload_n 0, 1) := by decide +kernel
theorem dX9_lays_91 : decode cX9_lays 91 = .ok (.getfield 23, 3) := by decide +kernel
theorem dX9_lays_94 : decode cX9_lays 94 = .ok (.iload_n 2, 1) := by decide +kernel
theorem dX9_lays_95 : decode cX9_lays 95 = .ok (.iload_n 3, 1) := by decide +kernel
theorem dX9_lays_96 : decode cX9_lays 96 = .ok (.iastore, 1) := by decide +kernel
theorem dX9_lays_97 : decode cX9_lays 97 = .ok (.goto 8, 3) := by decide +kernel
theorem dX9_lays_100 : decode cX9_lays 100 = .ok (.aload_n 0, 1) := by decide +kernel
theorem dX9_lays_101 : decode cX9_lays 101 = .ok (.iload_n 3, 1) := by decide +kernel
theorem dX9_lays_102 : decode cX9_lays 102 = .ok (.putfield 117, 3) := by decide +kernel
theorem dX9_lays_105 : decode cX9_lays 105 = .ok (.return_, 1) := by decide +kernel
theorem dX9_wakes_0 : decode cX9_wakes 0 = .ok (.iload_n 1, 1) := by decide +kernel
theorem dX9_wakes_1 : decode cX9_wakes 1 = .ok (.i2l, 1) := by decide +kernel
theorem dX9_wakes_2 : decode cX9_wakes 2 = .ok (.lconst 0, 1) := by decide +kernel
theorem dX9_wakes_3 : decode cX9_wakes 3 = .ok (.ldc2_w 84, 3) := by decide +kernel
theorem dX9_wakes_6 : decode cX9_wakes 6 = .ok (.invokestatic 80, 3) := by decide +kernel
theorem dX9_wakes_9 : decode cX9_wakes 9 = .ok (.ifCond .eq 27, 3) := by decide +kernel
theorem dX9_wakes_12 : decode cX9_wakes 12 = .ok (.iload_n 2, 1) := by decide +kernel
theorem dX9_wakes_13 : decode cX9_wakes 13 = .ok (.i2l, 1) := by decide +kernel
theorem dX9_wakes_14 : decode cX9_wakes 14 = .ok (.lconst 0, 1) := by decide +kernel
theorem dX9_wakes_15 : decode cX9_wakes 15 = .ok (.ldc2_w 120, 3) := by decide +kernel
theorem dX9_wakes_18 : decode cX9_wakes 18 = .ok (.invokestatic 80, 3) := by decide +kernel
theorem dX9_wakes_21 : decode cX9_wakes 21 = .ok (.ifCond .eq 15, 3) := by decide +kernel
theorem dX9_wakes_24 : decode cX9_wakes 24 = .ok (.iload_n 3, 1) := by decide +kernel
theorem dX9_wakes_25 : decode cX9_wakes 25 = .ok (.i2l, 1) := by decide +kernel
theorem dX9_wakes_26 : decode cX9_wakes 26 = .ok (.lconst 0, 1) := by decide +kernel
theorem dX9_wakes_27 : decode cX9_wakes 27 = .ok (.ldc2_w 122, 3) := by decide +kernel
theorem dX9_wakes_30 : decode cX9_wakes 30 = .ok (.invokestatic 80, 3) := by decide +kernel
theorem dX9_wakes_33 : decode cX9_wakes 33 = .ok (.ifCond .ne 6, 3) := by decide +kernel
theorem dX9_wakes_36 : decode cX9_wakes 36 = .ok (.bipush (-2), 2) := by decide +kernel
theorem dX9_wakes_38 : decode cX9_wakes 38 = .ok (.ireturn, 1) := by decide +kernel
theorem dX9_wakes_39 : decode cX9_wakes 39 = .ok (.aload_n 0, 1) := by decide +kernel
theorem dX9_wakes_40 : decode cX9_wakes 40 = .ok (.getfield 77, 3) := by decide +kernel
theorem dX9_wakes_43 : decode cX9_wakes 43 = .ok (.iconst 5, 1) := by decide +kernel
theorem dX9_wakes_44 : decode cX9_wakes 44 = .ok (.if_icmp .ne 6, 3) := by decide +kernel
theorem dX9_wakes_47 : decode cX9_wakes 47 = .ok (.bipush (-4), 2) := by decide +kernel
theorem dX9_wakes_49 : decode cX9_wakes 49 = .ok (.ireturn, 1) := by decide +kernel
theorem dX9_wakes_50 : decode cX9_wakes 50 = .ok (.aload_n 0, 1) := by decide +kernel
theorem dX9_wakes_51 : decode cX9_wakes 51 = .ok (.getfield 23, 3) := by decide +kernel
theorem dX9_wakes_54 : decode cX9_wakes 54 = .ok (.aload_n 0, 1) := by decide +kernel
theorem dX9_wakes_55 : decode cX9_wakes 55 = .ok (.getfield 77, 3) := by decide +kernel
theorem dX9_wakes_58 : decode cX9_wakes 58 = .ok (.iload_n 1, 1) := by decide +kernel
theorem dX9_wakes_59 : decode cX9_wakes 59 = .ok (.iastore, 1) := by decide +kernel
theorem dX9_wakes_60 : decode cX9_wakes 60 = .ok (.aload_n 0, 1) := by decide +kernel
theorem dX9_wakes_61 : decode cX9_wakes 61 = .ok (.getfield 26, 3) := by decide +kernel
theorem dX9_wakes_64 : decode cX9_wakes 64 = .ok (.iconst 3, 1) := by decide +kernel
theorem dX9_wakes_65 : decode cX9_wakes 65 = .ok (.aload_n 0, 1) := by decide +kernel
theorem dX9_wakes_66 : decode cX9_wakes 66 = .ok (.getfield 77, 3) := by decide +kernel
theorem dX9_wakes_69 : decode cX9_wakes 69 = .ok (.imul, 1) := by decide +kernel
theorem dX9_wakes_70 : decode cX9_wakes 70 = .ok (.iload_n 2, 1) := by decide +kernel
theorem dX9_wakes_71 : decode cX9_wakes 71 = .ok (.iastore, 1) := by decide +kernel
theorem dX9_wakes_72 : decode cX9_wakes 72 = .ok (.aload_n 0, 1) := by decide +kernel
theorem dX9_wakes_73 : decode cX9_wakes 73 = .ok (.getfield 26, 3) := by decide +kernel
theorem dX9_wakes_76 : decode cX9_wakes 76 = .ok (.iconst 3, 1) := by decide +kernel
theorem dX9_wakes_77 : decode cX9_wakes 77 = .ok (.aload_n 0, 1) := by decide +kernel
theorem dX9_wakes_78 : decode cX9_wakes 78 = .ok (.getfield 77, 3) := by decide +kernel
theorem dX9_wakes_81 : decode cX9_wakes 81 = .ok (.imul, 1) := by decide +kernel
theorem dX9_wakes_82 : decode cX9_wakes 82 = .ok (.iconst 1, 1) := by decide +kernel
theorem dX9_wakes_83 : decode cX9_wakes 83 = .ok (.iadd, 1) := by decide +kernel
theorem dX9_wakes_84 : decode cX9_wakes 84 = .ok (.iload_n 3, 1) := by decide +kernel
theorem dX9_wakes_85 : decode cX9_wakes 85 = .ok (.iastore, 1) := by decide +kernel
theorem dX9_wakes_86 : decode cX9_wakes 86 = .ok (.aload_n 0, 1) := by decide +kernel
theorem dX9_wakes_87 : decode cX9_wakes 87 = .ok (.getfield 26, 3) := by decide +kernel
theorem dX9_wakes_90 : decode cX9_wakes 90 = .ok (.iconst 3, 1) := by decide +kernel
theorem dX9_wakes_91 : decode cX9_wakes 91 = .ok (.aload_n 0, 1) := by decide +kernel
theorem dX9_wakes_92 : decode cX9_wakes 92 = .ok (.getfield 77, 3) := by decide +kernel
theorem dX9_wakes_95 : decode cX9_wakes 95 = .ok (.imul, 1) := by decide +kernel
theorem dX9_wakes_96 : decode cX9_wakes 96 = .ok (.iconst 2, 1) := by decide +kernel
theorem dX9_wakes_97 : decode cX9_wakes 97 = .ok (.iadd, 1) := by decide +kernel
theorem dX9_wakes_98 : decode cX9_wakes 98 = .ok (.iconst 0, 1) := by decide +kernel
theorem dX9_wakes_99 : decode cX9_wakes 99 = .ok (.iastore, 1) := by decide +kernel
theorem dX9_wakes_100 : decode cX9_wakes 100 = .ok (.aload_n 0, 1) := by decide +kernel
theorem dX9_wakes_101 : decode cX9_wakes 101 = .ok (.dup, 1) := by decide +kernel
theorem dX9_wakes_102 : decode cX9_wakes 102 = .ok (.getfield 77, 3) := by decide +kernel
theorem dX9_wakes_105 : decode cX9_wakes 105 = .ok (.iconst 1, 1) := by decide +kernel
theorem dX9_wakes_106 : decode cX9_wakes 106 = .ok (.iadd, 1) := by decide +kernel
theorem dX9_wakes_107 : decode cX9_wakes 107 = .ok (.putfield 77, 3) := by decide +kernel
theorem dX9_wakes_110 : decode cX9_wakes 110 = .ok (.aload_n 0, 1) := by decide +kernel
theorem dX9_wakes_111 : decode cX9_wakes 111 = .ok (.getfield 77, 3) := by decide +kernel
theorem dX9_wakes_114 : decode cX9_wakes 114 = .ok (.iconst 1, 1) := by decide +kernel
theorem dX9_wakes_115 : decode cX9_wakes 115 = .ok (.isub, 1) := by decide +kernel
theorem dX9_wakes_116 : decode cX9_wakes 116 = .ok (.ireturn, 1) := by decide +kernel
theorem dX9_told_0 : decode cX9_told 0 = .ok (.iload_n 2, 1) := by decide +kernel
theorem dX9_told_1 : decode cX9_told 1 = .ok (.i2l, 1) := by decide +kernel
theorem dX9_told_2 : decode cX9_told 2 = .ok (.lconst 0, 1) := by decide +kernel
theorem dX9_told_3 : decode cX9_told 3 = .ok (.ldc2_w 124, 3) := by decide +kernel
theorem dX9_told_6 : decode cX9_told 6 = .ok (.invokestatic 80, 3) := by decide +kernel
theorem dX9_told_9 : decode cX9_told 9 = .ok (.ifCond .eq 12, 3) := by decide +kernel
theorem dX9_told_12 : decode cX9_told 12 = .ok (.aload_n 0, 1) := by decide +kernel
theorem dX9_told_13 : decode cX9_told 13 = .ok (.iload_n 2, 1) := by decide +kernel
theorem dX9_told_14 : decode cX9_told 14 = .ok (.iload_n 1, 1) := by decide +kernel
theorem dX9_told_15 : decode cX9_told 15 = .ok (.invokevirtual 95, 3) := by decide +kernel
theorem dX9_told_18 : decode cX9_told 18 = .ok (.ifCond .ne 6, 3) := by decide +kernel
theorem dX9_told_21 : decode cX9_told 21 = .ok (.bipush (-2), 2) := by decide +kernel
theorem dX9_told_23 : decode cX9_told 23 = .ok (.ireturn, 1) := by decide +kernel
theorem dX9_told_24 : decode cX9_told 24 = .ok (.iload_n 2, 1) := by decide +kernel
theorem dX9_told_25 : decode cX9_told 25 = .ok (.iconst 5, 1) := by decide +kernel
theorem dX9_told_26 : decode cX9_told 26 = .ok (.if_icmp .ge 39, 3) := by decide +kernel
theorem dX9_told_29 : decode cX9_told 29 = .ok (.iload_n 2, 1) := by decide +kernel
theorem dX9_told_30 : decode cX9_told 30 = .ok (.ifCond .ne 10, 3) := by decide +kernel
theorem dX9_told_33 : decode cX9_told 33 = .ok (.aload_n 0, 1) := by decide +kernel
theorem dX9_told_34 : decode cX9_told 34 = .ok (.getfield 111, 3) := by decide +kernel
theorem dX9_told_37 : decode cX9_told 37 = .ok (.goto 27, 3) := by decide +kernel
theorem dX9_told_40 : decode cX9_told 40 = .ok (.iload_n 2, 1) := by decide +kernel
theorem dX9_told_41 : decode cX9_told 41 = .ok (.iconst 1, 1) := by decide +kernel
theorem dX9_told_42 : decode cX9_told 42 = .ok (.if_icmp .ne 10, 3) := by decide +kernel
theorem dX9_told_45 : decode cX9_told 45 = .ok (.aload_n 0, 1) := by decide +kernel
theorem dX9_told_46 : decode cX9_told 46 = .ok (.getfield 114, 3) := by decide +kernel
theorem dX9_told_49 : decode cX9_told 49 = .ok (.goto 15, 3) := by decide +kernel
theorem dX9_told_52 : decode cX9_told 52 = .ok (.aload_n 0, 1) := by decide +kernel
theorem dX9_told_53 : decode cX9_told 53 = .ok (.getfield 26, 3) := by decide +kernel
theorem dX9_told_56 : decode cX9_told 56 = .ok (.iconst 3, 1) := by decide +kernel
theorem dX9_told_57 : decode cX9_told 57 = .ok (.iload_n 1, 1) := by decide +kernel
theorem dX9_told_58 : decode cX9_told 58 = .ok (.imul, 1) := by decide +kernel
theorem dX9_told_59 : decode cX9_told 59 = .ok (.iload_n 2, 1) := by decide +kernel
theorem dX9_told_60 : decode cX9_told 60 = .ok (.iadd, 1) := by decide +kernel
theorem dX9_told_61 : decode cX9_told 61 = .ok (.iconst 2, 1) := by decide +kernel
theorem dX9_told_62 : decode cX9_told 62 = .ok (.isub, 1) := by decide +kernel
theorem dX9_told_63 : decode cX9_told 63 = .ok (.iaload, 1) := by decide +kernel
theorem dX9_told_64 : decode cX9_told 64 = .ok (.ireturn, 1) := by decide +kernel
theorem dX9_told_65 : decode cX9_told 65 = .ok (.iload_n 2, 1) := by decide +kernel
theorem dX9_told_66 : decode cX9_told 66 = .ok (.bipush 8, 2) := by decide +kernel
theorem dX9_told_68 : decode cX9_told 68 = .ok (.if_icmp .ge 31, 3) := by decide +kernel
theorem dX9_told_71 : decode cX9_told 71 = .ok (.iload_n 2, 1) := by decide +kernel
theorem dX9_told_72 : decode cX9_told 72 = .ok (.bipush 7, 2) := by decide +kernel
theorem dX9_told_74 : decode cX9_told 74 = .ok (.if_icmp .ge 18, 3) := by decide +kernel
theorem dX9_told_77 : decode cX9_told 77 = .ok (.aload_n 0, 1) := by decide +kernel
theorem dX9_told_78 : decode cX9_told 78 = .ok (.getfield 29, 3) := by decide +kernel
theorem dX9_told_81 : decode cX9_told 81 = .ok (.iconst 3, 1) := by decide +kernel
theorem dX9_told_82 : decode cX9_told 82 = .ok (.iload_n 1, 1) := by decide +kernel
theorem dX9_told_83 : decode cX9_told 83 = .ok (.imul, 1) := by decide +kernel
theorem dX9_told_84 : decode cX9_told 84 = .ok (.iload_n 2, 1) := by decide +kernel
theorem dX9_told_85 : decode cX9_told 85 = .ok (.iadd, 1) := by decide +kernel
theorem dX9_told_86 : decode cX9_told 86 = .ok (.iconst 5, 1) := by decide +kernel
theorem dX9_told_87 : decode cX9_told 87 = .ok (.isub, 1) := by decide +kernel
theorem dX9_told_88 : decode cX9_told 88 = .ok (.iaload, 1) := by decide +kernel
theorem dX9_told_89 : decode cX9_told 89 = .ok (.goto 9, 3) := by decide +kernel
theorem dX9_told_92 : decode cX9_told 92 = .ok (.aload_n 0, 1) := by decide +kernel
theorem dX9_told_93 : decode cX9_told 93 = .ok (.getfield 23, 3) := by decide +kernel
theorem dX9_told_96 : decode cX9_told 96 = .ok (.iload_n 1, 1) := by decide +kernel
theorem dX9_told_97 : decode cX9_told 97 = .ok (.iaload, 1) := by decide +kernel
theorem dX9_told_98 : decode cX9_told 98 = .ok (.ireturn, 1) := by decide +kernel
theorem dX9_told_99 : decode cX9_told 99 = .ok (.iload_n 2, 1) := by decide +kernel
theorem dX9_told_100 : decode cX9_told 100 = .ok (.bipush 8, 2) := by decide +kernel
theorem dX9_told_102 : decode cX9_told 102 = .ok (.if_icmp .ne 11, 3) := by decide +kernel
theorem dX9_told_105 : decode cX9_told 105 = .ok (.aload_n 0, 1) := by decide +kernel
theorem dX9_told_106 : decode cX9_told 106 = .ok (.iload_n 1, 1) := by decide +kernel
theorem dX9_told_107 : decode cX9_told 107 = .ok (.invokevirtual 126, 3) := by decide +kernel
theorem dX9_told_110 : decode cX9_told 110 = .ok (.goto 27, 3) := by decide +kernel
theorem dX9_told_113 : decode cX9_told 113 = .ok (.iload_n 2, 1) := by decide +kernel
theorem dX9_told_114 : decode cX9_told 114 = .ok (.bipush 9, 2) := by decide +kernel
theorem dX9_told_116 : decode cX9_told 116 = .ok (.if_icmp .ne 11, 3) := by decide +kernel
theorem dX9_told_119 : decode cX9_told 119 = .ok (.aload_n 0, 1) := by decide +kernel
theorem dX9_told_120 : decode cX9_told 120 = .ok (.iload_n 1, 1) := by decide +kernel
theorem dX9_told_121 : decode cX9_told 121 = .ok (.invokevirtual 129, 3) := by decide +kernel
theorem dX9_told_124 : decode cX9_told 124 = .ok (.goto 13, 3) := by decide +kernel
theorem dX9_told_127 : decode cX9_told 127 = .ok (.aload_n 0, 1) := by decide +kernel
theorem dX9_told_128 : decode cX9_told 128 = .ok (.getfield 29, 3) := by decide +kernel
theorem dX9_told_131 : decode cX9_told 131 = .ok (.iconst 3, 1) := by decide +kernel
theorem dX9_told_132 : decode cX9_told 132 = .ok (.iload_n 1, 1) := by decide +kernel
theorem dX9_told_133 : decode cX9_told 133 = .ok (.imul, 1) := by decide +kernel
theorem dX9_told_134 : decode cX9_told 134 = .ok (.iconst 2, 1) := by decide +kernel
theorem dX9_told_135 : decode cX9_told 135 = .ok (.iadd, 1) := by decide +kernel
theorem dX9_told_136 : decode cX9_told 136 = .ok (.iaload, 1) := by decide +kernel
theorem dX9_told_137 : decode cX9_told 137 = .ok (.ireturn, 1) := by decide +kernel
theorem dX9_feed_0 : decode cX9_feed 0 = .ok (.iload_n 1, 1) := by decide +kernel
theorem dX9_feed_1 : decode cX9_feed 1 = .ok (.i2l, 1) := by decide +kernel
theorem dX9_feed_2 : decode cX9_feed 2 = .ok (.lconst 0, 1) := by decide +kernel
theorem dX9_feed_3 : decode cX9_feed 3 = .ok (.ldc2_w 132, 3) := by decide +kernel
theorem dX9_feed_6 : decode cX9_feed 6 = .ok (.invokestatic 80, 3) := by decide +kernel
theorem dX9_feed_9 : decode cX9_feed 9 = .ok (.ifCond .ne 6, 3) := by decide +kernel
theorem dX9_feed_12 : decode cX9_feed 12 = .ok (.bipush (-2), 2) := by decide +kernel
theorem dX9_feed_14 : decode cX9_feed 14 = .ok (.ireturn, 1) := by decide +kernel
theorem dX9_feed_15 : decode cX9_feed 15 = .ok (.aload_n 0, 1) := by decide +kernel
theorem dX9_feed_16 : decode cX9_feed 16 = .ok (.getfield 134, 3) := by decide +kernel
theorem dX9_feed_19 : decode cX9_feed 19 = .ok (.sipush 160, 3) := by decide +kernel
theorem dX9_feed_22 : decode cX9_feed 22 = .ok (.if_icmp .ne 6, 3) := by decide +kernel
theorem dX9_feed_25 : decode cX9_feed 25 = .ok (.bipush (-4), 2) := by decide +kernel
theorem dX9_feed_27 : decode cX9_feed 27 = .ok (.ireturn, 1) := by decide +kernel
theorem dX9_feed_28 : decode cX9_feed 28 = .ok (.aload_n 0, 1) := by decide +kernel
theorem dX9_feed_29 : decode cX9_feed 29 = .ok (.getfield 20, 3) := by decide +kernel
theorem dX9_feed_32 : decode cX9_feed 32 = .ok (.aload_n 0, 1) := by decide +kernel
theorem dX9_feed_33 : decode cX9_feed 33 = .ok (.getfield 134, 3) := by decide +kernel
theorem dX9_feed_36 : decode cX9_feed 36 = .ok (.iload_n 1, 1) := by decide +kernel
theorem dX9_feed_37 : decode cX9_feed 37 = .ok (.iastore, 1) := by decide +kernel
theorem dX9_feed_38 : decode cX9_feed 38 = .ok (.aload_n 0, 1) := by decide +kernel
theorem dX9_feed_39 : decode cX9_feed 39 = .ok (.dup, 1) := by decide +kernel
theorem dX9_feed_40 : decode cX9_feed 40 = .ok (.getfield 134, 3) := by decide +kernel
theorem dX9_feed_43 : decode cX9_feed 43 = .ok (.iconst 1, 1) := by decide +kernel
theorem dX9_feed_44 : decode cX9_feed 44 = .ok (.iadd, 1) := by decide +kernel
theorem dX9_feed_45 : decode cX9_feed 45 = .ok (.putfield 134, 3) := by decide +kernel
theorem dX9_feed_48 : decode cX9_feed 48 = .ok (.aload_n 0, 1) := by decide +kernel
theorem dX9_feed_49 : decode cX9_feed 49 = .ok (.getfield 134, 3) := by decide +kernel
theorem dX9_feed_52 : decode cX9_feed 52 = .ok (.ireturn, 1) := by decide +kernel
theorem dX9_byteAt_0 : decode cX9_byteAt 0 = .ok (.iload_n 1, 1) := by decide +kernel
theorem dX9_byteAt_1 : decode cX9_byteAt 1 = .ok (.aload_n 0, 1) := by decide +kernel
theorem dX9_byteAt_2 : decode cX9_byteAt 2 = .ok (.getfield 137, 3) := by decide +kernel
theorem dX9_byteAt_5 : decode cX9_byteAt 5 = .ok (.if_icmp .ge 17, 3) := by decide +kernel
theorem dX9_byteAt_8 : decode cX9_byteAt 8 = .ok (.aload_n 0, 1) := by decide +kernel
theorem dX9_byteAt_9 : decode cX9_byteAt 9 = .ok (.getfield 13, 3) := by decide +kernel
theorem dX9_byteAt_12 : decode cX9_byteAt 12 = .ok (.aload_n 0, 1) := by decide +kernel
theorem dX9_byteAt_13 : decode cX9_byteAt 13 = .ok (.getfield 140, 3) := by decide +kernel
theorem dX9_byteAt_16 : decode cX9_byteAt 16 = .ok (.iload_n 1, 1) := by decide +kernel
theorem dX9_byteAt_17 : decode cX9_byteAt 17 = .ok (.iadd, 1) := by decide +kernel
theorem dX9_byteAt_18 : decode cX9_byteAt 18 = .ok (.iaload, 1) := by decide +kernel
theorem dX9_byteAt_19 : decode cX9_byteAt 19 = .ok (.goto 4, 3) := by decide +kernel
theorem dX9_byteAt_22 : decode cX9_byteAt 22 = .ok (.iconst (-1), 1) := by decide +kernel
theorem dX9_byteAt_23 : decode cX9_byteAt 23 = .ok (.ireturn, 1) := by decide +kernel
theorem dX9_next_0 : decode cX9_next 0 = .ok (.aload_n 0, 1) := by decide +kernel
theorem dX9_next_1 : decode cX9_next 1 = .ok (.aload_n 0, 1) := by decide +kernel
theorem dX9_next_2 : decode cX9_next 2 = .ok (.getfield 143, 3) := by decide +kernel
theorem dX9_next_5 : decode cX9_next 5 = .ok (.invokevirtual 146, 3) := by decide +kernel
theorem dX9_next_8 : decode cX9_next 8 = .ok (.bipush 32, 2) := by decide +kernel
theorem dX9_next_10 : decode cX9_next 10 = .ok (.if_icmp .eq 16, 3) := by decide +kernel
theorem dX9_next_13 : decode cX9_next 13 = .ok (.aload_n 0, 1) := by decide +kernel
theorem dX9_next_14 : decode cX9_next 14 = .ok (.aload_n 0, 1) := by decide +kernel
theorem dX9_next_15 : decode cX9_next 15 = .ok (.getfield 143, 3) := by decide +kernel
theorem dX9_next_18 : decode cX9_next 18 = .ok (.invokevirtual 146, 3) := by decide +kernel
theorem dX9_next_21 : decode cX9_next 21 = .ok (.bipush 10, 2) := by decide +kernel
theorem dX9_next_23 : decode cX9_next 23 = .ok (.if_icmp .ne 16, 3) := by decide +kernel
theorem dX9_next_26 : decode cX9_next 26 = .ok (.aload_n 0, 1) := by decide +kernel
theorem dX9_next_27 : decode cX9_next 27 = .ok (.dup, 1) := by decide +kernel
theorem dX9_next_28 : decode cX9_next 28 = .ok (.getfield 143, 3) := by decide +kernel
theorem dX9_next_31 : decode cX9_next 31 = .ok (.iconst 1, 1) := by decide +kernel
theorem dX9_next_32 : decode cX9_next 32 = .ok (.iadd, 1) := by decide +kernel
theorem dX9_next_33 : decode cX9_next 33 = .ok (.putfield 143, 3) := by decide +kernel
theorem dX9_next_36 : decode cX9_next 36 = .ok (.goto (-36), 3) := by decide +kernel
theorem dX9_next_39 : decode cX9_next 39 = .ok (.aload_n 0, 1) := by decide +kernel
theorem dX9_next_40 : decode cX9_next 40 = .ok (.aload_n 0, 1) := by decide +kernel
theorem dX9_next_41 : decode cX9_next 41 = .ok (.getfield 143, 3) := by decide +kernel
theorem dX9_next_44 : decode cX9_next 44 = .ok (.putfield 149, 3) := by decide +kernel
theorem dX9_next_47 : decode cX9_next 47 = .ok (.aload_n 0, 1) := by decide +kernel
theorem dX9_next_48 : decode cX9_next 48 = .ok (.aload_n 0, 1) := by decide +kernel
theorem dX9_next_49 : decode cX9_next 49 = .ok (.getfield 143, 3) := by decide +kernel
theorem dX9_next_52 : decode cX9_next 52 = .ok (.invokevirtual 146, 3) := by decide +kernel
theorem dX9_next_55 : decode cX9_next 55 = .ok (.istore_n 1, 1) := by decide +kernel
theorem dX9_next_56 : decode cX9_next 56 = .ok (.aload_n 0, 1) := by decide +kernel
theorem dX9_next_57 : decode cX9_next 57 = .ok (.iconst 4, 1) := by decide +kernel
theorem dX9_next_58 : decode cX9_next 58 = .ok (.putfield 152, 3) := by decide +kernel
theorem dX9_next_61 : decode cX9_next 61 = .ok (.iload_n 1, 1) := by decide +kernel
theorem dX9_next_62 : decode cX9_next 62 = .ok (.ifCond .ge 19, 3) := by decide +kernel
theorem dX9_next_65 : decode cX9_next 65 = .ok (.aload_n 0, 1) := by decide +kernel
theorem dX9_next_66 : decode cX9_next 66 = .ok (.iconst 0, 1) := by decide +kernel
theorem dX9_next_67 : decode cX9_next 67 = .ok (.putfield 152, 3) := by decide +kernel
theorem dX9_next_70 : decode cX9_next 70 = .ok (.aload_n 0, 1) := by decide +kernel
theorem dX9_next_71 : decode cX9_next 71 = .ok (.aload_n 0, 1) := by decide +kernel
theorem dX9_next_72 : decode cX9_next 72 = .ok (.getfield 137, 3) := by decide +kernel
theorem dX9_next_75 : decode cX9_next 75 = .ok (.putfield 149, 3) := by decide +kernel
theorem dX9_next_78 : decode cX9_next 78 = .ok (.goto 243, 3) := by decide +kernel
theorem dX9_next_81 : decode cX9_next 81 = .ok (.iload_n 1, 1) := by decide +kernel
theorem dX9_next_82 : decode cX9_next 82 = .ok (.i2l, 1) := by decide +kernel
theorem dX9_next_83 : decode cX9_next 83 = .ok (.ldc2_w 155, 3) := by decide +kernel
theorem dX9_next_86 : decode cX9_next 86 = .ok (.ldc2_w 157, 3) := by decide +kernel
theorem dX9_next_89 : decode cX9_next 89 = .ok (.invokestatic 80, 3) := by decide +kernel
theorem dX9_next_92 : decode cX9_next 92 = .ok (.ifCond .eq 42, 3) := by decide +kernel
theorem dX9_next_95 : decode cX9_next 95 = .ok (.aload_n 0, 1) := by decide +kernel
theorem dX9_next_96 : decode cX9_next 96 = .ok (.iconst 1, 1) := by decide +kernel
theorem dX9_next_97 : decode cX9_next 97 = .ok (.putfield 152, 3) := by decide +kernel
theorem dX9_next_100 : decode cX9_next 100 = .ok (.aload_n 0, 1) := by decide +kernel
theorem dX9_next_101 : decode cX9_next 101 = .ok (.aload_n 0, 1) := by decide +kernel
theorem dX9_next_102 : decode cX9_next 102 = .ok (.getfield 143, 3) := by decide +kernel
theorem dX9_next_105 : decode cX9_next 105 = .ok (.invokevirtual 146, 3) := by decide +kernel
theorem dX9_next_108 : decode cX9_next 108 = .ok (.i2l, 1) := by decide +kernel
theorem dX9_next_109 : decode cX9_next 109 = .ok (.ldc2_w 155, 3) := by decide +kernel
theorem dX9_next_112 : decode cX9_next 112 = .ok (.ldc2_w 157, 3) := by decide +kernel
theorem dX9_next_115 : decode cX9_next 115 = .ok (.invokestatic 80, 3) := by decide +kernel
theorem dX9_next_118 : decode cX9_next 118 = .ok (.ifCond .eq 203, 3) := by decide +kernel
theorem dX9_next_121 : decode cX9_next 121 = .ok (.aload_n 0, 1) := by decide +kernel
theorem dX9_next_122 : decode cX9_next 122 = .ok (.dup, 1) := by decide +kernel
theorem dX9_next_123 : decode cX9_next 123 = .ok (.getfield 143, 3) := by decide +kernel
theorem dX9_next_126 : decode cX9_next 126 = .ok (.iconst 1, 1) := by decide +kernel
theorem dX9_next_127 : decode cX9_next 127 = .ok (.iadd, 1) := by decide +kernel
theorem dX9_next_128 : decode cX9_next 128 = .ok (.putfield 143, 3) := by decide +kernel
theorem dX9_next_131 : decode cX9_next 131 = .ok (.goto (-31), 3) := by decide +kernel
theorem dX9_next_134 : decode cX9_next 134 = .ok (.iload_n 1, 1) := by decide +kernel
theorem dX9_next_135 : decode cX9_next 135 = .ok (.i2l, 1) := by decide +kernel
theorem dX9_next_136 : decode cX9_next 136 = .ok (.ldc2_w 159, 3) := by decide +kernel
theorem dX9_next_139 : decode cX9_next 139 = .ok (.ldc2_w 161, 3) := by decide +kernel
theorem dX9_next_142 : decode cX9_next 142 = .ok (.invokestatic 80, 3) := by decide +kernel
theorem dX9_next_145 : decode cX9_next 145 = .ok (.ifCond .eq 107, 3) := by decide +kernel
theorem dX9_next_148 : decode cX9_next 148 = .ok (.aload_n 0, 1) := by decide +kernel
theorem dX9_next_149 : decode cX9_next 149 = .ok (.iconst 2, 1) := by decide +kernel
theorem dX9_next_150 : decode cX9_next 150 = .ok (.putfield 152, 3) := by decide +kernel
theorem dX9_next_153 : decode cX9_next 153 = .ok (.aload_n 0, 1) := by decide +kernel
theorem dX9_next_154 : decode cX9_next 154 = .ok (.lconst 0, 1) := by decide +kernel
theorem dX9_next_155 : decode cX9_next 155 = .ok (.putfield 163, 3) := by decide +kernel
theorem dX9_next_158 : decode cX9_next 158 = .ok (.iconst 0, 1) := by decide +kernel
theorem dX9_next_159 : decode cX9_next 159 = .ok (.istore_n 2, 1) := by decide +kernel
theorem dX9_next_160 : decode cX9_next 160 = .ok (.aload_n 0, 1) := by decide +kernel
theorem dX9_next_161 : decode cX9_next 161 = .ok (.aload_n 0, 1) := by decide +kernel
theorem dX9_next_162 : decode cX9_next 162 = .ok (.getfield 143, 3) := by decide +kernel
theorem dX9_next_165 : decode cX9_next 165 = .ok (.invokevirtual 146, 3) := by decide +kernel
theorem dX9_next_168 : decode cX9_next 168 = .ok (.i2l, 1) := by decide +kernel
theorem dX9_next_169 : decode cX9_next 169 = .ok (.ldc2_w 159, 3) := by decide +kernel
theorem dX9_next_172 : decode cX9_next 172 = .ok (.ldc2_w 161, 3) := by decide +kernel
theorem dX9_next_175 : decode cX9_next 175 = .ok (.invokestatic 80, 3) := by decide +kernel
theorem dX9_next_178 : decode cX9_next 178 = .ok (.ifCond .eq 57, 3) := by decide +kernel
theorem dX9_next_181 : decode cX9_next 181 = .ok (.aload_n 0, 1) := by decide +kernel
theorem dX9_next_182 : decode cX9_next 182 = .ok (.iload_n 2, 1) := by decide +kernel
theorem dX9_next_183 : decode cX9_next 183 = .ok (.iconst 4, 1) := by decide +kernel
theorem dX9_next_184 : decode cX9_next 184 = .ok (.if_icmp .ge 28, 3) := by decide +kernel
theorem dX9_next_187 : decode cX9_next 187 = .ok (.ldc2_w 124, 3) := by decide +kernel
theorem dX9_next_190 : decode cX9_next 190 = .ok (.aload_n 0, 1) := by decide +kernel
theorem dX9_next_191 : decode cX9_next 191 = .ok (.getfield 163, 3) := by decide +kernel
theorem dX9_next_194 : decode cX9_next 194 = .ok (.lmul, 1) := by decide +kernel
theorem dX9_next_195 : decode cX9_next 195 = .ok (.aload_n 0, 1) := by decide +kernel
theorem dX9_next_196 : decode cX9_next 196 = .ok (.aload_n 0, 1) := by decide +kernel
theorem dX9_next_197 : decode cX9_next 197 = .ok (.getfield 143, 3) := by decide +kernel
theorem dX9_next_200 : decode cX9_next 200 = .ok (.invokevirtual 146, 3) := by decide +kernel
theorem dX9_next_203 : decode cX9_next 203 = .ok (.i2l, 1) := by decide +kernel
theorem dX9_next_204 : decode cX9_next 204 = .ok (.ladd, 1) := by decide +kernel
theorem dX9_next_205 : decode cX9_next 205 = .ok (.ldc2_w 159, 3) := by decide +kernel
theorem dX9_next_208 : decode cX9_next 208 = .ok (.lsub, 1) := by decide +kernel
theorem dX9_next_209 : decode cX9_next 209 = .ok (.goto 7, 3) := by decide +kernel
theorem dX9_next_212 : decode cX9_next 212 = .ok (.aload_n 0, 1) := by decide +kernel
theorem dX9_next_213 : decode cX9_next 213 = .ok (.getfield 163, 3) := by decide +kernel
theorem dX9_next_216 : decode cX9_next 216 = .ok (.putfield 163, 3) := by decide +kernel
theorem dX9_next_219 : decode cX9_next 219 = .ok (.iinc 2 1, 3) := by decide +kernel
theorem dX9_next_222 : decode cX9_next 222 = .ok (.aload_n 0, 1) := by decide +kernel
theorem dX9_next_223 : decode cX9_next 223 = .ok (.dup, 1) := by decide +kernel
theorem dX9_next_224 : decode cX9_next 224 = .ok (.getfield 143, 3) := by decide +kernel
theorem dX9_next_227 : decode cX9_next 227 = .ok (.iconst 1, 1) := by decide +kernel
theorem dX9_next_228 : decode cX9_next 228 = .ok (.iadd, 1) := by decide +kernel
theorem dX9_next_229 : decode cX9_next 229 = .ok (.putfield 143, 3) := by decide +kernel
theorem dX9_next_232 : decode cX9_next 232 = .ok (.goto (-72), 3) := by decide +kernel
theorem dX9_next_235 : decode cX9_next 235 = .ok (.aload_n 0, 1) := by decide +kernel
theorem dX9_next_236 : decode cX9_next 236 = .ok (.iload_n 2, 1) := by decide +kernel
theorem dX9_next_237 : decode cX9_next 237 = .ok (.iconst 4, 1) := by decide +kernel
theorem dX9_next_238 : decode cX9_next 238 = .ok (.if_icmp .le 7, 3) := by decide +kernel
theorem dX9_next_241 : decode cX9_next 241 = .ok (.iconst 4, 1) := by decide +kernel
theorem dX9_next_242 : decode cX9_next 242 = .ok (.goto 4, 3) := by decide +kernel
theorem dX9_next_245 : decode cX9_next 245 = .ok (.iconst 2, 1) := by decide +kernel
theorem dX9_next_246 : decode cX9_next 246 = .ok (.putfield 152, 3) := by decide +kernel
theorem dX9_next_249 : decode cX9_next 249 = .ok (.goto 72, 3) := by decide +kernel
theorem dX9_next_252 : decode cX9_next 252 = .ok (.iload_n 1, 1) := by decide +kernel
theorem dX9_next_253 : decode cX9_next 253 = .ok (.bipush 40, 2) := by decide +kernel
theorem dX9_next_255 : decode cX9_next 255 = .ok (.if_icmp .eq 45, 3) := by decide +kernel
theorem dX9_next_258 : decode cX9_next 258 = .ok (.iload_n 1, 1) := by decide +kernel
theorem dX9_next_259 : decode cX9_next 259 = .ok (.bipush 41, 2) := by decide +kernel
theorem dX9_next_261 : decode cX9_next 261 = .ok (.if_icmp .eq 39, 3) := by decide +kernel
theorem dX9_next_264 : decode cX9_next 264 = .ok (.iload_n 1, 1) := by decide +kernel
theorem dX9_next_265 : decode cX9_next 265 = .ok (.bipush 59, 2) := by decide +kernel
theorem dX9_next_267 : decode cX9_next 267 = .ok (.if_icmp .eq 33, 3) := by decide +kernel
theorem dX9_next_270 : decode cX9_next 270 = .ok (.iload_n 1, 1) := by decide +kernel
theorem dX9_next_271 : decode cX9_next 271 = .ok (.bipush 43, 2) := by decide +kernel
theorem dX9_next_273 : decode cX9_next 273 = .ok (.if_icmp .eq 27, 3) := by decide +kernel
theorem dX9_next_276 : decode cX9_next 276 = .ok (.iload_n 1, 1) := by decide +kernel
theorem dX9_next_277 : decode cX9_next 277 = .ok (.bipush 45, 2) := by decide +kernel
theorem dX9_next_279 : decode cX9_next 279 = .ok (.if_icmp .eq 21, 3) := by decide +kernel
theorem dX9_next_282 : decode cX9_next 282 = .ok (.iload_n 1, 1) := by decide +kernel
theorem dX9_next_283 : decode cX9_next 283 = .ok (.bipush 42, 2) := by decide +kernel
theorem dX9_next_285 : decode cX9_next 285 = .ok (.if_icmp .eq 15, 3) := by decide +kernel
theorem dX9_next_288 : decode cX9_next 288 = .ok (.iload_n 1, 1) := by decide +kernel
theorem dX9_next_289 : decode cX9_next 289 = .ok (.bipush 60, 2) := by decide +kernel
theorem dX9_next_291 : decode cX9_next 291 = .ok (.if_icmp .eq 9, 3) := by decide +kernel
theorem dX9_next_294 : decode cX9_next 294 = .ok (.iload_n 1, 1) := by decide +kernel
theorem dX9_next_295 : decode cX9_next 295 = .ok (.bipush 61, 2) := by decide +kernel
theorem dX9_next_297 : decode cX9_next 297 = .ok (.if_icmp .ne 24, 3) := by decide +kernel
theorem dX9_next_300 : decode cX9_next 300 = .ok (.aload_n 0, 1) := by decide +kernel
theorem dX9_next_301 : decode cX9_next 301 = .ok (.iconst 3, 1) := by decide +kernel
theorem dX9_next_302 : decode cX9_next 302 = .ok (.putfield 152, 3) := by decide +kernel
theorem dX9_next_305 : decode cX9_next 305 = .ok (.aload_n 0, 1) := by decide +kernel
theorem dX9_next_306 : decode cX9_next 306 = .ok (.iload_n 1, 1) := by decide +kernel
theorem dX9_next_307 : decode cX9_next 307 = .ok (.i2l, 1) := by decide +kernel
theorem dX9_next_308 : decode cX9_next 308 = .ok (.putfield 163, 3) := by decide +kernel
theorem dX9_next_311 : decode cX9_next 311 = .ok (.aload_n 0, 1) := by decide +kernel
theorem dX9_next_312 : decode cX9_next 312 = .ok (.dup, 1) := by decide +kernel
theorem dX9_next_313 : decode cX9_next 313 = .ok (.getfield 143, 3) := by decide +kernel
theorem dX9_next_316 : decode cX9_next 316 = .ok (.iconst 1, 1) := by decide +kernel
theorem dX9_next_317 : decode cX9_next 317 = .ok (.iadd, 1) := by decide +kernel
theorem dX9_next_318 : decode cX9_next 318 = .ok (.putfield 143, 3) := by decide +kernel
theorem dX9_next_321 : decode cX9_next 321 = .ok (.return_, 1) := by decide +kernel
theorem dX9_fail_0 : decode cX9_fail 0 = .ok (.aload_n 0, 1) := by decide +kernel
theorem dX9_fail_1 : decode cX9_fail 1 = .ok (.getfield 167, 3) := by decide +kernel
theorem dX9_fail_4 : decode cX9_fail 4 = .ok (.ifCond .ne 16, 3) := by decide +kernel
theorem dX9_fail_7 : decode cX9_fail 7 = .ok (.aload_n 0, 1) := by decide +kernel
theorem dX9_fail_8 : decode cX9_fail 8 = .ok (.iconst 1, 1) := by decide +kernel
theorem dX9_fail_9 : decode cX9_fail 9 = .ok (.putfield 167, 3) := by decide +kernel
theorem dX9_fail_12 : decode cX9_fail 12 = .ok (.aload_n 0, 1) := by decide +kernel
theorem dX9_fail_13 : decode cX9_fail 13 = .ok (.aload_n 0, 1) := by decide +kernel
theorem dX9_fail_14 : decode cX9_fail 14 = .ok (.getfield 149, 3) := by decide +kernel
theorem dX9_fail_17 : decode cX9_fail 17 = .ok (.putfield 171, 3) := by decide +kernel
theorem dX9_fail_20 : decode cX9_fail 20 = .ok (.return_, 1) := by decide +kernel
theorem dX9_isLetter_0 : decode cX9_isLetter 0 = .ok (.aload_n 0, 1) := by decide +kernel
theorem dX9_isLetter_1 : decode cX9_isLetter 1 = .ok (.getfield 149, 3) := by decide +kernel
theorem dX9_isLetter_4 : decode cX9_isLetter 4 = .ok (.iload_n 1, 1) := by decide +kernel
theorem dX9_isLetter_5 : decode cX9_isLetter 5 = .ok (.iadd, 1) := by decide +kernel
theorem dX9_isLetter_6 : decode cX9_isLetter 6 = .ok (.aload_n 0, 1) := by decide +kernel
theorem dX9_isLetter_7 : decode cX9_isLetter 7 = .ok (.getfield 143, 3) := by decide +kernel
theorem dX9_isLetter_10 : decode cX9_isLetter 10 = .ok (.if_icmp .ge 25, 3) := by decide +kernel
theorem dX9_isLetter_13 : decode cX9_isLetter 13 = .ok (.aload_n 0, 1) := by decide +kernel
theorem dX9_isLetter_14 : decode cX9_isLetter 14 = .ok (.aload_n 0, 1) := by decide +kernel
theorem dX9_isLetter_15 : decode cX9_isLetter 15 = .ok (.getfield 149, 3) := by decide +kernel
theorem dX9_isLetter_18 : decode cX9_isLetter 18 = .ok (.iload_n 1, 1) := by decide +kernel
theorem dX9_isLetter_19 : decode cX9_isLetter 19 = .ok (.iadd, 1) := by decide +kernel
theorem dX9_isLetter_20 : decode cX9_isLetter 20 = .ok (.invokevirtual 146, 3) := by decide +kernel
theorem dX9_isLetter_23 : decode cX9_isLetter 23 = .ok (.iload_n 2, 1) := by decide +kernel
theorem dX9_isLetter_24 : decode cX9_isLetter 24 = .ok (.if_icmp .ne 7, 3) := by decide +kernel
theorem dX9_isLetter_27 : decode cX9_isLetter 27 = .ok (.iconst 1, 1) := by decide +kernel
theorem dX9_isLetter_28 : decode cX9_isLetter 28 = .ok (.goto 16, 3) := by decide +kernel
theorem dX9_isLetter_31 : decode cX9_isLetter 31 = .ok (.iconst 0, 1) := by decide +kernel
theorem dX9_isLetter_32 : decode cX9_isLetter 32 = .ok (.goto 12, 3) := by decide +kernel
theorem dX9_isLetter_35 : decode cX9_isLetter 35 = .ok (.iload_n 2, 1) := by decide +kernel
theorem dX9_isLetter_36 : decode cX9_isLetter 36 = .ok (.ifCond .ne 7, 3) := by decide +kernel
theorem dX9_isLetter_39 : decode cX9_isLetter 39 = .ok (.iconst 1, 1) := by decide +kernel
theorem dX9_isLetter_40 : decode cX9_isLetter 40 = .ok (.goto 4, 3) := by decide +kernel
theorem dX9_isLetter_43 : decode cX9_isLetter 43 = .ok (.iconst 0, 1) := by decide +kernel
theorem dX9_isLetter_44 : decode cX9_isLetter 44 = .ok (.ireturn, 1) := by decide +kernel
theorem dX9_isWord_0 : decode cX9_isWord 0 = .ok (.aload_n 0, 1) := by decide +kernel
theorem dX9_isWord_1 : decode cX9_isWord 1 = .ok (.getfield 167, 3) := by decide +kernel
theorem dX9_isWord_4 : decode cX9_isWord 4 = .ok (.ifCond .ne 108, 3) := by decide +kernel
theorem dX9_isWord_7 : decode cX9_isWord 7 = .ok (.aload_n 0, 1) := by decide +kernel
theorem dX9_isWord_8 : decode cX9_isWord 8 = .ok (.getfield 152, 3) := by decide +kernel
theorem dX9_isWord_11 : decode cX9_isWord 11 = .ok (.iconst 1, 1) := by decide +kernel
theorem dX9_isWord_12 : decode cX9_isWord 12 = .ok (.if_icmp .ne 100, 3) := by decide +kernel
theorem dX9_isWord_15 : decode cX9_isWord 15 = .ok (.aload_n 0, 1) := by decide +kernel
theorem dX9_isWord_16 : decode cX9_isWord 16 = .ok (.getfield 143, 3) := by decide +kernel
theorem dX9_isWord_19 : decode cX9_isWord 19 = .ok (.aload_n 0, 1) := by decide +kernel
theorem dX9_isWord_20 : decode cX9_isWord 20 = .ok (.getfield 149, 3) := by decide +kernel
theorem dX9_isWord_23 : decode cX9_isWord 23 = .ok (.bipush 8, 2) := by decide +kernel
theorem dX9_isWord_25 : decode cX9_isWord 25 = .ok (.iadd, 1) := by decide +kernel
theorem dX9_isWord_26 : decode cX9_isWord 26 = .ok (.if_icmp .gt 86, 3) := by decide +kernel
theorem dX9_isWord_29 : decode cX9_isWord 29 = .ok (.aload_n 0, 1) := by decide +kernel
theorem dX9_isWord_30 : decode cX9_isWord 30 = .ok (.iconst 0, 1) := by decide +kernel
theorem dX9_isWord_31 : decode cX9_isWord 31 = .ok (.iload_n 1, 1) := by decide +kernel
theorem dX9_isWord_32 : decode cX9_isWord 32 = .ok (.invokevirtual 174, 3) := by decide +kernel
theorem dX9_isWord_35 : decode cX9_isWord 35 = .ok (.ifCond .eq 77, 3) := by decide +kernel
theorem dX9_isWord_38 : decode cX9_isWord 38 = .ok (.aload_n 0, 1) := by decide +kernel
theorem dX9_isWord_39 : decode cX9_isWord 39 = .ok (.iconst 1, 1) := by decide +kernel
theorem dX9_isWord_40 : decode cX9_isWord 40 = .ok (.iload_n 2, 1) := by decide +kernel
theorem dX9_isWord_41 : decode cX9_isWord 41 = .ok (.invokevirtual 174, 3) := by decide +kernel
theorem dX9_isWord_44 : decode cX9_isWord 44 = .ok (.ifCond .eq 68, 3) := by decide +kernel
theorem dX9_isWord_47 : decode cX9_isWord 47 = .ok (.aload_n 0, 1) := by decide +kernel
theorem dX9_isWord_48 : decode cX9_isWord 48 = .ok (.iconst 2, 1) := by decide +kernel
theorem dX9_isWord_49 : decode cX9_isWord 49 = .ok (.iload_n 3, 1) := by decide +kernel
theorem dX9_isWord_50 : decode cX9_isWord 50 = .ok (.invokevirtual 174, 3) := by decide +kernel
theorem dX9_isWord_53 : decode cX9_isWord 53 = .ok (.ifCond .eq 59, 3) := by decide +kernel
theorem dX9_isWord_56 : decode cX9_isWord 56 = .ok (.aload_n 0, 1) := by decide +kernel
theorem dX9_isWord_57 : decode cX9_isWord 57 = .ok (.iconst 3, 1) := by decide +kernel
theorem dX9_isWord_58 : decode cX9_isWord 58 = .ok (.iload 4, 2) := by decide +kernel
theorem dX9_isWord_60 : decode cX9_isWord 60 = .ok (.invokevirtual 174, 3) := by decide +kernel
theorem dX9_isWord_63 : decode cX9_isWord 63 = .ok (.ifCond .eq 49, 3) := by decide +kernel
theorem dX9_isWord_66 : decode cX9_isWord 66 = .ok (.aload_n 0, 1) := by decide +kernel
theorem dX9_isWord_67 : decode cX9_isWord 67 = .ok (.iconst 4, 1) := by decide +kernel
theorem dX9_isWord_68 : decode cX9_isWord 68 = .ok (.iload 5, 2) := by decide +kernel
theorem dX9_isWord_70 : decode cX9_isWord 70 = .ok (.invokevirtual 174, 3) := by decide +kernel
theorem dX9_isWord_73 : decode cX9_isWord 73 = .ok (.ifCond .eq 39, 3) := by decide +kernel
theorem dX9_isWord_76 : decode cX9_isWord 76 = .ok (.aload_n 0, 1) := by decide +kernel
theorem dX9_isWord_77 : decode cX9_isWord 77 = .ok (.iconst 5, 1) := by decide +kernel
theorem dX9_isWord_78 : decode cX9_isWord 78 = .ok (.iload 6, 2) := by decide +kernel
theorem dX9_isWord_80 : decode cX9_isWord 80 = .ok (.invokevirtual 174, 3) := by decide +kernel
theorem dX9_isWord_83 : decode cX9_isWord 83 = .ok (.ifCond .eq 29, 3) := by decide +kernel
theorem dX9_isWord_86 : decode cX9_isWord 86 = .ok (.aload_n 0, 1) := by decide +kernel
theorem dX9_isWord_87 : decode cX9_isWord 87 = .ok (.bipush 6, 2) := by decide +kernel
theorem dX9_isWord_89 : decode cX9_isWord 89 = .ok (.iload 7, 2) := by decide +kernel
theorem dX9_isWord_91 : decode cX9_isWord 91 = .ok (.invokevirtual 174, 3) := by decide +kernel
theorem dX9_isWord_94 : decode cX9_isWord 94 = .ok (.ifCond .eq 18, 3) := by decide +kernel
theorem dX9_isWord_97 : decode cX9_isWord 97 = .ok (.aload_n 0, 1) := by decide +kernel
theorem dX9_isWord_98 : decode cX9_isWord 98 = .ok (.bipush 7, 2) := by decide +kernel
theorem dX9_isWord_100 : decode cX9_isWord 100 = .ok (.iload 8, 2) := by decide +kernel
theorem dX9_isWord_102 : decode cX9_isWord 102 = .ok (.invokevirtual 174, 3) := by decide +kernel
theorem dX9_isWord_105 : decode cX9_isWord 105 = .ok (.ifCond .eq 7, 3) := by decide +kernel
theorem dX9_isWord_108 : decode cX9_isWord 108 = .ok (.iconst 1, 1) := by decide +kernel
theorem dX9_isWord_109 : decode cX9_isWord 109 = .ok (.goto 4, 3) := by decide +kernel
theorem dX9_isWord_112 : decode cX9_isWord 112 = .ok (.iconst 0, 1) := by decide +kernel
theorem dX9_isWord_113 : decode cX9_isWord 113 = .ok (.ireturn, 1) := by decide +kernel
theorem dX9_isSign_0 : decode cX9_isSign 0 = .ok (.aload_n 0, 1) := by decide +kernel
theorem dX9_isSign_1 : decode cX9_isSign 1 = .ok (.getfield 167, 3) := by decide +kernel
theorem dX9_isSign_4 : decode cX9_isSign 4 = .ok (.ifCond .ne 25, 3) := by decide +kernel
theorem dX9_isSign_7 : decode cX9_isSign 7 = .ok (.aload_n 0, 1) := by decide +kernel
theorem dX9_isSign_8 : decode cX9_isSign 8 = .ok (.getfield 152, 3) := by decide +kernel
theorem dX9_isSign_11 : decode cX9_isSign 11 = .ok (.iconst 3, 1) := by decide +kernel
theorem dX9_isSign_12 : decode cX9_isSign 12 = .ok (.if_icmp .ne 17, 3) := by decide +kernel
theorem dX9_isSign_15 : decode cX9_isSign 15 = .ok (.aload_n 0, 1) := by decide +kernel
theorem dX9_isSign_16 : decode cX9_isSign 16 = .ok (.getfield 163, 3) := by decide +kernel
theorem dX9_isSign_19 : decode cX9_isSign 19 = .ok (.iload_n 1, 1) := by decide +kernel
theorem dX9_isSign_20 : decode cX9_isSign 20 = .ok (.i2l, 1) := by decide +kernel
theorem dX9_isSign_21 : decode cX9_isSign 21 = .ok (.lcmp, 1) := by decide +kernel
theorem dX9_isSign_22 : decode cX9_isSign 22 = .ok (.ifCond .ne 7, 3) := by decide +kernel
theorem dX9_isSign_25 : decode cX9_isSign 25 = .ok (.iconst 1, 1) := by decide +kernel
theorem dX9_isSign_26 : decode cX9_isSign 26 = .ok (.goto 4, 3) := by decide +kernel
theorem dX9_isSign_29 : decode cX9_isSign 29 = .ok (.iconst 0, 1) := by decide +kernel
theorem dX9_isSign_30 : decode cX9_isSign 30 = .ok (.ireturn, 1) := by decide +kernel
theorem dX9_opens_0 : decode cX9_opens 0 = .ok (.aload_n 0, 1) := by decide +kernel
theorem dX9_opens_1 : decode cX9_opens 1 = .ok (.getfield 177, 3) := by decide +kernel
theorem dX9_opens_4 : decode cX9_opens 4 = .ok (.iconst 5, 1) := by decide +kernel
theorem dX9_opens_5 : decode cX9_opens 5 = .ok (.if_icmp .ne 9, 3) := by decide +kernel
theorem dX9_opens_8 : decode cX9_opens 8 = .ok (.aload_n 0, 1) := by decide +kernel
theorem dX9_opens_9 : decode cX9_opens 9 = .ok (.invokevirtual 180, 3) := by decide +kernel
theorem dX9_opens_12 : decode cX9_opens 12 = .ok (.iconst 0, 1) := by decide +kernel
theorem dX9_opens_13 : decode cX9_opens 13 = .ok (.ireturn, 1) := by decide +kernel
theorem dX9_opens_14 : decode cX9_opens 14 = .ok (.aload_n 0, 1) := by decide +kernel
theorem dX9_opens_15 : decode cX9_opens 15 = .ok (.dup, 1) := by decide +kernel
theorem dX9_opens_16 : decode cX9_opens 16 = .ok (.getfield 177, 3) := by decide +kernel
theorem dX9_opens_19 : decode cX9_opens 19 = .ok (.iconst 1, 1) := by decide +kernel
theorem dX9_opens_20 : decode cX9_opens 20 = .ok (.iadd, 1) := by decide +kernel
theorem dX9_opens_21 : decode cX9_opens 21 = .ok (.putfield 177, 3) := by decide +kernel
theorem dX9_opens_24 : decode cX9_opens 24 = .ok (.aload_n 0, 1) := by decide +kernel
theorem dX9_opens_25 : decode cX9_opens 25 = .ok (.invokevirtual 183, 3) := by decide +kernel
theorem dX9_opens_28 : decode cX9_opens 28 = .ok (.iconst 1, 1) := by decide +kernel
theorem dX9_opens_29 : decode cX9_opens 29 = .ok (.ireturn, 1) := by decide +kernel
theorem dX9_name_0 : decode cX9_name 0 = .ok (.aload_n 0, 1) := by decide +kernel
theorem dX9_name_1 : decode cX9_name 1 = .ok (.bipush 116, 2) := by decide +kernel
theorem dX9_name_3 : decode cX9_name 3 = .ok (.bipush 114, 2) := by decide +kernel
theorem dX9_name_5 : decode cX9_name 5 = .ok (.bipush 111, 2) := by decide +kernel
theorem dX9_name_7 : decode cX9_name 7 = .ok (.bipush 117, 2) := by decide +kernel
theorem dX9_name_9 : decode cX9_name 9 = .ok (.bipush 98, 2) := by decide +kernel
theorem dX9_name_11 : decode cX9_name 11 = .ok (.bipush 108, 2) := by decide +kernel
theorem dX9_name_13 : decode cX9_name 13 = .ok (.bipush 101, 2) := by decide +kernel
theorem dX9_name_15 : decode cX9_name 15 = .ok (.iconst 0, 1) := by decide +kernel
theorem dX9_name_16 : decode cX9_name 16 = .ok (.invokevirtual 186, 3) := by decide +kernel
theorem dX9_name_19 : decode cX9_name 19 = .ok (.ifCond .eq 8, 3) := by decide +kernel
theorem dX9_name_22 : decode cX9_name 22 = .ok (.aload_n 0, 1) := by decide +kernel
theorem dX9_name_23 : decode cX9_name 23 = .ok (.getfield 190, 3) := by decide +kernel
theorem dX9_name_26 : decode cX9_name 26 = .ok (.ireturn, 1) := by decide +kernel
theorem dX9_name_27 : decode cX9_name 27 = .ok (.aload_n 0, 1) := by decide +kernel
theorem dX9_name_28 : decode cX9_name 28 = .ok (.bipush 110, 2) := by decide +kernel
theorem dX9_name_30 : decode cX9_name 30 = .ok (.bipush 117, 2) := by decide +kernel
theorem dX9_name_32 : decode cX9_name 32 = .ok (.bipush 109, 2) := by decide +kernel
theorem dX9_name_34 : decode cX9_name 34 = .ok (.bipush 98, 2) := by decide +kernel
theorem dX9_name_36 : decode cX9_name 36 = .ok (.bipush 101, 2) := by decide +kernel
theorem dX9_name_38 : decode cX9_name 38 = .ok (.bipush 114, 2) := by decide +kernel
theorem dX9_name_40 : decode cX9_name 40 = .ok (.iconst 0, 1) := by decide +kernel
theorem dX9_name_41 : decode cX9_name 41 = .ok (.iconst 0, 1) := by decide +kernel
theorem dX9_name_42 : decode cX9_name 42 = .ok (.invokevirtual 186, 3) := by decide +kernel
theorem dX9_name_45 : decode cX9_name 45 = .ok (.ifCond .eq 8, 3) := by decide +kernel
theorem dX9_name_48 : decode cX9_name 48 = .ok (.aload_n 0, 1) := by decide +kernel
theorem dX9_name_49 : decode cX9_name 49 = .ok (.getfield 193, 3) := by decide +kernel
theorem dX9_name_52 : decode cX9_name 52 = .ok (.ireturn, 1) := by decide +kernel
theorem dX9_name_53 : decode cX9_name 53 = .ok (.aload_n 0, 1) := by decide +kernel
theorem dX9_name_54 : decode cX9_name 54 = .ok (.bipush 110, 2) := by decide +kernel
theorem dX9_name_56 : decode cX9_name 56 = .ok (.bipush 105, 2) := by decide +kernel
theorem dX9_name_58 : decode cX9_name 58 = .ok (.bipush 103, 2) := by decide +kernel
theorem dX9_name_60 : decode cX9_name 60 = .ok (.bipush 104, 2) := by decide +kernel
theorem dX9_name_62 : decode cX9_name 62 = .ok (.bipush 116, 2) := by decide +kernel
theorem dX9_name_64 : decode cX9_name 64 = .ok (.iconst 0, 1) := by decide +kernel
theorem dX9_name_65 : decode cX9_name 65 = .ok (.iconst 0, 1) := by decide +kernel
theorem dX9_name_66 : decode cX9_name 66 = .ok (.iconst 0, 1) := by decide +kernel
theorem dX9_name_67 : decode cX9_name 67 = .ok (.invokevirtual 186, 3) := by decide +kernel
theorem dX9_name_70 : decode cX9_name 70 = .ok (.ifCond .eq 8, 3) := by decide +kernel
theorem dX9_name_73 : decode cX9_name 73 = .ok (.aload_n 0, 1) := by decide +kernel
theorem dX9_name_74 : decode cX9_name 74 = .ok (.getfield 196, 3) := by decide +kernel
theorem dX9_name_77 : decode cX9_name 77 = .ok (.ireturn, 1) := by decide +kernel
theorem dX9_name_78 : decode cX9_name 78 = .ok (.aload_n 0, 1) := by decide +kernel
theorem dX9_name_79 : decode cX9_name 79 = .ok (.bipush 110, 2) := by decide +kernel
theorem dX9_name_81 : decode cX9_name 81 = .ok (.bipush 101, 2) := by decide +kernel
theorem dX9_name_83 : decode cX9_name 83 = .ok (.bipush 119, 2) := by decide +kernel
theorem dX9_name_85 : decode cX9_name 85 = .ok (.bipush 115, 2) := by decide +kernel
theorem dX9_name_87 : decode cX9_name 87 = .ok (.iconst 0, 1) := by decide +kernel
theorem dX9_name_88 : decode cX9_name 88 = .ok (.iconst 0, 1) := by decide +kernel
theorem dX9_name_89 : decode cX9_name 89 = .ok (.iconst 0, 1) := by decide +kernel
theorem dX9_name_90 : decode cX9_name 90 = .ok (.iconst 0, 1) := by decide +kernel
theorem dX9_name_91 : decode cX9_name 91 = .ok (.invokevirtual 186, 3) := by decide +kernel
theorem dX9_name_94 : decode cX9_name 94 = .ok (.ifCond .eq 8, 3) := by decide +kernel
theorem dX9_name_97 : decode cX9_name 97 = .ok (.aload_n 0, 1) := by decide +kernel
theorem dX9_name_98 : decode cX9_name 98 = .ok (.getfield 199, 3) := by decide +kernel
theorem dX9_name_101 : decode cX9_name 101 = .ok (.ireturn, 1) := by decide +kernel
theorem dX9_name_102 : decode cX9_name 102 = .ok (.aload_n 0, 1) := by decide +kernel
theorem dX9_name_103 : decode cX9_name 103 = .ok (.bipush 116, 2) := by decide +kernel
theorem dX9_name_105 : decode cX9_name 105 = .ok (.bipush 97, 2) := by decide +kernel
theorem dX9_name_107 : decode cX9_name 107 = .ok (.bipush 115, 2) := by decide +kernel
theorem dX9_name_109 : decode cX9_name 109 = .ok (.bipush 116, 2) := by decide +kernel
theorem dX9_name_111 : decode cX9_name 111 = .ok (.bipush 101, 2) := by decide +kernel
theorem dX9_name_113 : decode cX9_name 113 = .ok (.iconst 0, 1) := by decide +kernel
theorem dX9_name_114 : decode cX9_name 114 = .ok (.iconst 0, 1) := by decide +kernel
theorem dX9_name_115 : decode cX9_name 115 = .ok (.iconst 0, 1) := by decide +kernel
theorem dX9_name_116 : decode cX9_name 116 = .ok (.invokevirtual 186, 3) := by decide +kernel
theorem dX9_name_119 : decode cX9_name 119 = .ok (.ifCond .eq 8, 3) := by decide +kernel
theorem dX9_name_122 : decode cX9_name 122 = .ok (.aload_n 0, 1) := by decide +kernel
theorem dX9_name_123 : decode cX9_name 123 = .ok (.getfield 202, 3) := by decide +kernel
theorem dX9_name_126 : decode cX9_name 126 = .ok (.ireturn, 1) := by decide +kernel
theorem dX9_name_127 : decode cX9_name 127 = .ok (.aload_n 0, 1) := by decide +kernel
theorem dX9_name_128 : decode cX9_name 128 = .ok (.bipush 104, 2) := by decide +kernel
theorem dX9_name_130 : decode cX9_name 130 = .ok (.bipush 111, 2) := by decide +kernel
theorem dX9_name_132 : decode cX9_name 132 = .ok (.bipush 117, 2) := by decide +kernel
theorem dX9_name_134 : decode cX9_name 134 = .ok (.bipush 114, 2) := by decide +kernel
theorem dX9_name_136 : decode cX9_name 136 = .ok (.iconst 0, 1) := by decide +kernel
theorem dX9_name_137 : decode cX9_name 137 = .ok (.iconst 0, 1) := by decide +kernel
theorem dX9_name_138 : decode cX9_name 138 = .ok (.iconst 0, 1) := by decide +kernel
theorem dX9_name_139 : decode cX9_name 139 = .ok (.iconst 0, 1) := by decide +kernel
theorem dX9_name_140 : decode cX9_name 140 = .ok (.invokevirtual 186, 3) := by decide +kernel
theorem dX9_name_143 : decode cX9_name 143 = .ok (.ifCond .eq 8, 3) := by decide +kernel
theorem dX9_name_146 : decode cX9_name 146 = .ok (.aload_n 0, 1) := by decide +kernel
theorem dX9_name_147 : decode cX9_name 147 = .ok (.getfield 205, 3) := by decide +kernel
theorem dX9_name_150 : decode cX9_name 150 = .ok (.ireturn, 1) := by decide +kernel
theorem dX9_name_151 : decode cX9_name 151 = .ok (.aload_n 0, 1) := by decide +kernel
theorem dX9_name_152 : decode cX9_name 152 = .ok (.invokevirtual 180, 3) := by decide +kernel
theorem dX9_name_155 : decode cX9_name 155 = .ok (.iconst 0, 1) := by decide +kernel
theorem dX9_name_156 : decode cX9_name 156 = .ok (.ireturn, 1) := by decide +kernel
theorem dX9_atom_0 : decode cX9_atom 0 = .ok (.iconst 0, 1) := by decide +kernel
theorem dX9_atom_1 : decode cX9_atom 1 = .ok (.istore_n 1, 1) := by decide +kernel
theorem dX9_atom_2 : decode cX9_atom 2 = .ok (.aload_n 0, 1) := by decide +kernel
theorem dX9_atom_3 : decode cX9_atom 3 = .ok (.bipush 45, 2) := by decide +kernel
theorem dX9_atom_5 : decode cX9_atom 5 = .ok (.invokevirtual 208, 3) := by decide +kernel
theorem dX9_atom_8 : decode cX9_atom 8 = .ok (.ifCond .eq 29, 3) := by decide +kernel
theorem dX9_atom_11 : decode cX9_atom 11 = .ok (.aload_n 0, 1) := by decide +kernel
theorem dX9_atom_12 : decode cX9_atom 12 = .ok (.invokevirtual 211, 3) := by decide +kernel
theorem dX9_atom_15 : decode cX9_atom 15 = .ok (.ifCond .eq 146, 3) := by decide +kernel
theorem dX9_atom_18 : decode cX9_atom 18 = .ok (.aload_n 0, 1) := by decide +kernel
theorem dX9_atom_19 : decode cX9_atom 19 = .ok (.invokevirtual 215, 3) := by decide +kernel
theorem dX9_atom_22 : decode cX9_atom 22 = .ok (.ineg, 1) := by decide +kernel
theorem dX9_atom_23 : decode cX9_atom 23 = .ok (.istore_n 1, 1) := by decide +kernel
theorem dX9_atom_24 : decode cX9_atom 24 = .ok (.aload_n 0, 1) := by decide +kernel
theorem dX9_atom_25 : decode cX9_atom 25 = .ok (.dup, 1) := by decide +kernel
theorem dX9_atom_26 : decode cX9_atom 26 = .ok (.getfield 177, 3) := by decide +kernel
theorem dX9_atom_29 : decode cX9_atom 29 = .ok (.iconst 1, 1) := by decide +kernel
theorem dX9_atom_30 : decode cX9_atom 30 = .ok (.isub, 1) := by decide +kernel
theorem dX9_atom_31 : decode cX9_atom 31 = .ok (.putfield 177, 3) := by decide +kernel
theorem dX9_atom_34 : decode cX9_atom 34 = .ok (.goto 127, 3) := by decide +kernel
theorem dX9_atom_37 : decode cX9_atom 37 = .ok (.aload_n 0, 1) := by decide +kernel
theorem dX9_atom_38 : decode cX9_atom 38 = .ok (.bipush 40, 2) := by decide +kernel
theorem dX9_atom_40 : decode cX9_atom 40 = .ok (.invokevirtual 208, 3) := by decide +kernel
theorem dX9_atom_43 : decode cX9_atom 43 = .ok (.ifCond .eq 52, 3) := by decide +kernel
theorem dX9_atom_46 : decode cX9_atom 46 = .ok (.aload_n 0, 1) := by decide +kernel
theorem dX9_atom_47 : decode cX9_atom 47 = .ok (.invokevirtual 211, 3) := by decide +kernel
theorem dX9_atom_50 : decode cX9_atom 50 = .ok (.ifCond .eq 111, 3) := by decide +kernel
theorem dX9_atom_53 : decode cX9_atom 53 = .ok (.aload_n 0, 1) := by decide +kernel
theorem dX9_atom_54 : decode cX9_atom 54 = .ok (.invokevirtual 219, 3) := by decide +kernel
theorem dX9_atom_57 : decode cX9_atom 57 = .ok (.istore_n 1, 1) := by decide +kernel
theorem dX9_atom_58 : decode cX9_atom 58 = .ok (.aload_n 0, 1) := by decide +kernel
theorem dX9_atom_59 : decode cX9_atom 59 = .ok (.bipush 41, 2) := by decide +kernel
theorem dX9_atom_61 : decode cX9_atom 61 = .ok (.invokevirtual 208, 3) := by decide +kernel
theorem dX9_atom_64 : decode cX9_atom 64 = .ok (.ifCond .ne 7, 3) := by decide +kernel
theorem dX9_atom_67 : decode cX9_atom 67 = .ok (.aload_n 0, 1) := by decide +kernel
theorem dX9_atom_68 : decode cX9_atom 68 = .ok (.invokevirtual 180, 3) := by decide +kernel
theorem dX9_atom_71 : decode cX9_atom 71 = .ok (.aload_n 0, 1) := by decide +kernel
theorem dX9_atom_72 : decode cX9_atom 72 = .ok (.dup, 1) := by decide +kernel
theorem dX9_atom_73 : decode cX9_atom 73 = .ok (.getfield 177, 3) := by decide +kernel
theorem dX9_atom_76 : decode cX9_atom 76 = .ok (.iconst 1, 1) := by decide +kernel
theorem dX9_atom_77 : decode cX9_atom 77 = .ok (.isub, 1) := by decide +kernel
theorem dX9_atom_78 : decode cX9_atom 78 = .ok (.putfield 177, 3) := by decide +kernel
theorem dX9_atom_81 : decode cX9_atom 81 = .ok (.aload_n 0, 1) := by decide +kernel
theorem dX9_atom_82 : decode cX9_atom 82 = .ok (.getfield 167, 3) := by decide +kernel
theorem dX9_atom_85 : decode cX9_atom 85 = .ok (.ifCond .ne 76, 3) := by decide +kernel
theorem dX9_atom_88 : decode cX9_atom 88 = .ok (.aload_n 0, 1) := by decide +kernel
theorem dX9_atom_89 : decode cX9_atom 89 = .ok (.invokevirtual 183, 3) := by decide +kernel
theorem dX9_atom_92 : decode cX9_atom 92 = .ok (.goto 69, 3) := by decide +kernel
theorem dX9_atom_95 : decode cX9_atom 95 = .ok (.aload_n 0, 1) := by decide +kernel
theorem dX9_atom_96 : decode cX9_atom 96 = .ok (.getfield 167, 3) := by decide +kernel
theorem dX9_atom_99 : decode cX9_atom 99 = .ok (.ifCond .ne 24, 3) := by decide +kernel
theorem dX9_atom_102 : decode cX9_atom 102 = .ok (.aload_n 0, 1) := by decide +kernel
theorem dX9_atom_103 : decode cX9_atom 103 = .ok (.getfield 152, 3) := by decide +kernel
theorem dX9_atom_106 : decode cX9_atom 106 = .ok (.iconst 2, 1) := by decide +kernel
theorem dX9_atom_107 : decode cX9_atom 107 = .ok (.if_icmp .ne 16, 3) := by decide +kernel
