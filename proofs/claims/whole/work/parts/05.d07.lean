theorem dX9_tells_259 : decode cX9_tells 259 = .ok (.iinc 8 1, 3) := by decide +kernel
theorem dX9_tells_262 : decode cX9_tells 262 = .ok (.iload 10, 2) := by decide +kernel
theorem dX9_tells_264 : decode cX9_tells 264 = .ok (.istore 9, 2) := by decide +kernel
theorem dX9_tells_266 : decode cX9_tells 266 = .ok (.iinc 10 (-1), 3) := by decide +kernel
theorem dX9_tells_269 : decode cX9_tells 269 = .ok (.goto (-54), 3) := by decide +kernel
theorem dX9_tells_272 : decode cX9_tells 272 = .ok (.aload_n 0, 1) := by decide +kernel
theorem dX9_tells_273 : decode cX9_tells 273 = .ok (.iload 4, 2) := by decide +kernel
theorem dX9_tells_275 : decode cX9_tells 275 = .ok (.iload_n 2, 1) := by decide +kernel
theorem dX9_tells_276 : decode cX9_tells 276 = .ok (.iload 5, 2) := by decide +kernel
theorem dX9_tells_278 : decode cX9_tells 278 = .ok (.invokevirtual 107, 3) := by decide +kernel
theorem dX9_tells_281 : decode cX9_tells 281 = .ok (.iload_n 3, 1) := by decide +kernel
theorem dX9_tells_282 : decode cX9_tells 282 = .ok (.iconst 3, 1) := by decide +kernel
theorem dX9_tells_283 : decode cX9_tells 283 = .ok (.if_icmp .ne 8, 3) := by decide +kernel
theorem dX9_tells_286 : decode cX9_tells 286 = .ok (.iload 8, 2) := by decide +kernel
theorem dX9_tells_288 : decode cX9_tells 288 = .ok (.goto 15, 3) := by decide +kernel
theorem dX9_tells_291 : decode cX9_tells 291 = .ok (.iload_n 3, 1) := by decide +kernel
theorem dX9_tells_292 : decode cX9_tells 292 = .ok (.iconst 4, 1) := by decide +kernel
theorem dX9_tells_293 : decode cX9_tells 293 = .ok (.if_icmp .ne 8, 3) := by decide +kernel
theorem dX9_tells_296 : decode cX9_tells 296 = .ok (.iload 9, 2) := by decide +kernel
theorem dX9_tells_298 : decode cX9_tells 298 = .ok (.goto 5, 3) := by decide +kernel
theorem dX9_tells_301 : decode cX9_tells 301 = .ok (.iload 7, 2) := by decide +kernel
theorem dX9_tells_303 : decode cX9_tells 303 = .ok (.ireturn, 1) := by decide +kernel
theorem dX9_film_0 : decode cX9_film 0 = .ok (.iload_n 1, 1) := by decide +kernel
theorem dX9_film_1 : decode cX9_film 1 = .ok (.invokestatic 323, 3) := by decide +kernel
theorem dX9_film_4 : decode cX9_film 4 = .ok (.ifCond .eq 23, 3) := by decide +kernel
theorem dX9_film_7 : decode cX9_film 7 = .ok (.aload_n 0, 1) := by decide +kernel
theorem dX9_film_8 : decode cX9_film 8 = .ok (.iload_n 2, 1) := by decide +kernel
theorem dX9_film_9 : decode cX9_film 9 = .ok (.invokevirtual 90, 3) := by decide +kernel
theorem dX9_film_12 : decode cX9_film 12 = .ok (.ifCond .eq 15, 3) := by decide +kernel
theorem dX9_film_15 : decode cX9_film 15 = .ok (.iload_n 3, 1) := by decide +kernel
theorem dX9_film_16 : decode cX9_film 16 = .ok (.i2l, 1) := by decide +kernel
theorem dX9_film_17 : decode cX9_film 17 = .ok (.lconst 0, 1) := by decide +kernel
theorem dX9_film_18 : decode cX9_film 18 = .ok (.ldc2_w 331, 3) := by decide +kernel
theorem dX9_film_21 : decode cX9_film 21 = .ok (.invokestatic 80, 3) := by decide +kernel
theorem dX9_film_24 : decode cX9_film 24 = .ok (.ifCond .ne 6, 3) := by decide +kernel
theorem dX9_film_27 : decode cX9_film 27 = .ok (.bipush (-2), 2) := by decide +kernel
theorem dX9_film_29 : decode cX9_film 29 = .ok (.ireturn, 1) := by decide +kernel
theorem dX9_film_30 : decode cX9_film 30 = .ok (.aload_n 0, 1) := by decide +kernel
theorem dX9_film_31 : decode cX9_film 31 = .ok (.iload_n 1, 1) := by decide +kernel
theorem dX9_film_32 : decode cX9_film 32 = .ok (.iconst 0, 1) := by decide +kernel
theorem dX9_film_33 : decode cX9_film 33 = .ok (.iload_n 3, 1) := by decide +kernel
theorem dX9_film_34 : decode cX9_film 34 = .ok (.invokevirtual 333, 3) := by decide +kernel
theorem dX9_film_37 : decode cX9_film 37 = .ok (.pop, 1) := by decide +kernel
theorem dX9_film_38 : decode cX9_film 38 = .ok (.aload_n 0, 1) := by decide +kernel
theorem dX9_film_39 : decode cX9_film 39 = .ok (.invokevirtual 288, 3) := by decide +kernel
theorem dX9_film_42 : decode cX9_film 42 = .ok (.iconst 0, 1) := by decide +kernel
theorem dX9_film_43 : decode cX9_film 43 = .ok (.istore 4, 2) := by decide +kernel
theorem dX9_film_45 : decode cX9_film 45 = .ok (.iconst 0, 1) := by decide +kernel
theorem dX9_film_46 : decode cX9_film 46 = .ok (.istore 5, 2) := by decide +kernel
theorem dX9_film_48 : decode cX9_film 48 = .ok (.iload 5, 2) := by decide +kernel
theorem dX9_film_50 : decode cX9_film 50 = .ok (.iload_n 3, 1) := by decide +kernel
theorem dX9_film_51 : decode cX9_film 51 = .ok (.if_icmp .ge 42, 3) := by decide +kernel
theorem dX9_film_54 : decode cX9_film 54 = .ok (.aload_n 0, 1) := by decide +kernel
theorem dX9_film_55 : decode cX9_film 55 = .ok (.iload_n 2, 1) := by decide +kernel
theorem dX9_film_56 : decode cX9_film 56 = .ok (.invokevirtual 126, 3) := by decide +kernel
theorem dX9_film_59 : decode cX9_film 59 = .ok (.istore 6, 2) := by decide +kernel
theorem dX9_film_61 : decode cX9_film 61 = .ok (.aload_n 0, 1) := by decide +kernel
theorem dX9_film_62 : decode cX9_film 62 = .ok (.getfield 67, 3) := by decide +kernel
theorem dX9_film_65 : decode cX9_film 65 = .ok (.bipush 40, 2) := by decide +kernel
theorem dX9_film_67 : decode cX9_film 67 = .ok (.iload_n 1, 1) := by decide +kernel
theorem dX9_film_68 : decode cX9_film 68 = .ok (.imul, 1) := by decide +kernel
theorem dX9_film_69 : decode cX9_film 69 = .ok (.iload 5, 2) := by decide +kernel
theorem dX9_film_71 : decode cX9_film 71 = .ok (.iadd, 1) := by decide +kernel
theorem dX9_film_72 : decode cX9_film 72 = .ok (.iload 6, 2) := by decide +kernel
theorem dX9_film_74 : decode cX9_film 74 = .ok (.iastore, 1) := by decide +kernel
theorem dX9_film_75 : decode cX9_film 75 = .ok (.iload 4, 2) := by decide +kernel
theorem dX9_film_77 : decode cX9_film 77 = .ok (.iload 6, 2) := by decide +kernel
theorem dX9_film_79 : decode cX9_film 79 = .ok (.iadd, 1) := by decide +kernel
theorem dX9_film_80 : decode cX9_film 80 = .ok (.istore 4, 2) := by decide +kernel
theorem dX9_film_82 : decode cX9_film 82 = .ok (.aload_n 0, 1) := by decide +kernel
theorem dX9_film_83 : decode cX9_film 83 = .ok (.invokevirtual 278, 3) := by decide +kernel
theorem dX9_film_86 : decode cX9_film 86 = .ok (.pop, 1) := by decide +kernel
theorem dX9_film_87 : decode cX9_film 87 = .ok (.iinc 5 1, 3) := by decide +kernel
theorem dX9_film_90 : decode cX9_film 90 = .ok (.goto (-42), 3) := by decide +kernel
theorem dX9_film_93 : decode cX9_film 93 = .ok (.aload_n 0, 1) := by decide +kernel
theorem dX9_film_94 : decode cX9_film 94 = .ok (.invokevirtual 291, 3) := by decide +kernel
theorem dX9_film_97 : decode cX9_film 97 = .ok (.iload 4, 2) := by decide +kernel
theorem dX9_film_99 : decode cX9_film 99 = .ok (.ireturn, 1) := by decide +kernel
theorem dX9_pouredDrawn_0 : decode cX9_pouredDrawn 0 = .ok (.aload_n 0, 1) := by decide +kernel
theorem dX9_pouredDrawn_1 : decode cX9_pouredDrawn 1 = .ok (.invokevirtual 288, 3) := by decide +kernel
theorem dX9_pouredDrawn_4 : decode cX9_pouredDrawn 4 = .ok (.iload_n 1, 1) := by decide +kernel
theorem dX9_pouredDrawn_5 : decode cX9_pouredDrawn 5 = .ok (.istore_n 3, 1) := by decide +kernel
theorem dX9_pouredDrawn_6 : decode cX9_pouredDrawn 6 = .ok (.iconst 0, 1) := by decide +kernel
theorem dX9_pouredDrawn_7 : decode cX9_pouredDrawn 7 = .ok (.istore 4, 2) := by decide +kernel
theorem dX9_pouredDrawn_9 : decode cX9_pouredDrawn 9 = .ok (.iconst 0, 1) := by decide +kernel
theorem dX9_pouredDrawn_10 : decode cX9_pouredDrawn 10 = .ok (.istore 5, 2) := by decide +kernel
theorem dX9_pouredDrawn_12 : decode cX9_pouredDrawn 12 = .ok (.iload 5, 2) := by decide +kernel
theorem dX9_pouredDrawn_14 : decode cX9_pouredDrawn 14 = .ok (.iload_n 2, 1) := by decide +kernel
theorem dX9_pouredDrawn_15 : decode cX9_pouredDrawn 15 = .ok (.if_icmp .ge 53, 3) := by decide +kernel
theorem dX9_pouredDrawn_18 : decode cX9_pouredDrawn 18 = .ok (.iload_n 3, 1) := by decide +kernel
theorem dX9_pouredDrawn_19 : decode cX9_pouredDrawn 19 = .ok (.ldc_w 336, 3) := by decide +kernel
theorem dX9_pouredDrawn_22 : decode cX9_pouredDrawn 22 = .ok (.imul, 1) := by decide +kernel
theorem dX9_pouredDrawn_23 : decode cX9_pouredDrawn 23 = .ok (.sipush 12345, 3) := by decide +kernel
theorem dX9_pouredDrawn_26 : decode cX9_pouredDrawn 26 = .ok (.iadd, 1) := by decide +kernel
theorem dX9_pouredDrawn_27 : decode cX9_pouredDrawn 27 = .ok (.istore_n 3, 1) := by decide +kernel
theorem dX9_pouredDrawn_28 : decode cX9_pouredDrawn 28 = .ok (.iload_n 3, 1) := by decide +kernel
theorem dX9_pouredDrawn_29 : decode cX9_pouredDrawn 29 = .ok (.bipush 9, 2) := by decide +kernel
theorem dX9_pouredDrawn_31 : decode cX9_pouredDrawn 31 = .ok (.iushr, 1) := by decide +kernel
theorem dX9_pouredDrawn_32 : decode cX9_pouredDrawn 32 = .ok (.bipush 8, 2) := by decide +kernel
theorem dX9_pouredDrawn_34 : decode cX9_pouredDrawn 34 = .ok (.irem, 1) := by decide +kernel
theorem dX9_pouredDrawn_35 : decode cX9_pouredDrawn 35 = .ok (.istore 6, 2) := by decide +kernel
theorem dX9_pouredDrawn_37 : decode cX9_pouredDrawn 37 = .ok (.aload_n 0, 1) := by decide +kernel
theorem dX9_pouredDrawn_38 : decode cX9_pouredDrawn 38 = .ok (.iload 6, 2) := by decide +kernel
theorem dX9_pouredDrawn_40 : decode cX9_pouredDrawn 40 = .ok (.invokevirtual 90, 3) := by decide +kernel
theorem dX9_pouredDrawn_43 : decode cX9_pouredDrawn 43 = .ok (.ifCond .eq 10, 3) := by decide +kernel
theorem dX9_pouredDrawn_46 : decode cX9_pouredDrawn 46 = .ok (.aload_n 0, 1) := by decide +kernel
theorem dX9_pouredDrawn_47 : decode cX9_pouredDrawn 47 = .ok (.iload 6, 2) := by decide +kernel
theorem dX9_pouredDrawn_49 : decode cX9_pouredDrawn 49 = .ok (.invokevirtual 281, 3) := by decide +kernel
theorem dX9_pouredDrawn_52 : decode cX9_pouredDrawn 52 = .ok (.pop, 1) := by decide +kernel
theorem dX9_pouredDrawn_53 : decode cX9_pouredDrawn 53 = .ok (.iload 4, 2) := by decide +kernel
theorem dX9_pouredDrawn_55 : decode cX9_pouredDrawn 55 = .ok (.aload_n 0, 1) := by decide +kernel
theorem dX9_pouredDrawn_56 : decode cX9_pouredDrawn 56 = .ok (.invokevirtual 278, 3) := by decide +kernel
theorem dX9_pouredDrawn_59 : decode cX9_pouredDrawn 59 = .ok (.iadd, 1) := by decide +kernel
theorem dX9_pouredDrawn_60 : decode cX9_pouredDrawn 60 = .ok (.istore 4, 2) := by decide +kernel
theorem dX9_pouredDrawn_62 : decode cX9_pouredDrawn 62 = .ok (.iinc 5 1, 3) := by decide +kernel
theorem dX9_pouredDrawn_65 : decode cX9_pouredDrawn 65 = .ok (.goto (-53), 3) := by decide +kernel
theorem dX9_pouredDrawn_68 : decode cX9_pouredDrawn 68 = .ok (.aload_n 0, 1) := by decide +kernel
theorem dX9_pouredDrawn_69 : decode cX9_pouredDrawn 69 = .ok (.invokevirtual 291, 3) := by decide +kernel
theorem dX9_pouredDrawn_72 : decode cX9_pouredDrawn 72 = .ok (.iload 4, 2) := by decide +kernel
theorem dX9_pouredDrawn_74 : decode cX9_pouredDrawn 74 = .ok (.ireturn, 1) := by decide +kernel
theorem dX9_drawn_0 : decode cX9_drawn 0 = .ok (.iload_n 2, 1) := by decide +kernel
theorem dX9_drawn_1 : decode cX9_drawn 1 = .ok (.i2l, 1) := by decide +kernel
theorem dX9_drawn_2 : decode cX9_drawn 2 = .ok (.lconst 0, 1) := by decide +kernel
theorem dX9_drawn_3 : decode cX9_drawn 3 = .ok (.ldc2_w 284, 3) := by decide +kernel
theorem dX9_drawn_6 : decode cX9_drawn 6 = .ok (.invokestatic 80, 3) := by decide +kernel
theorem dX9_drawn_9 : decode cX9_drawn 9 = .ok (.ifCond .eq 12, 3) := by decide +kernel
theorem dX9_drawn_12 : decode cX9_drawn 12 = .ok (.aload_n 0, 1) := by decide +kernel
theorem dX9_drawn_13 : decode cX9_drawn 13 = .ok (.iload_n 1, 1) := by decide +kernel
theorem dX9_drawn_14 : decode cX9_drawn 14 = .ok (.iload_n 2, 1) := by decide +kernel
theorem dX9_drawn_15 : decode cX9_drawn 15 = .ok (.invokevirtual 337, 3) := by decide +kernel
theorem dX9_drawn_18 : decode cX9_drawn 18 = .ok (.goto 5, 3) := by decide +kernel
theorem dX9_drawn_21 : decode cX9_drawn 21 = .ok (.bipush (-2), 2) := by decide +kernel
theorem dX9_drawn_23 : decode cX9_drawn 23 = .ok (.ireturn, 1) := by decide +kernel
theorem dX9_chance_0 : decode cX9_chance 0 = .ok (.iload_n 2, 1) := by decide +kernel
theorem dX9_chance_1 : decode cX9_chance 1 = .ok (.i2l, 1) := by decide +kernel
theorem dX9_chance_2 : decode cX9_chance 2 = .ok (.lconst 1, 1) := by decide +kernel
theorem dX9_chance_3 : decode cX9_chance 3 = .ok (.ldc2_w 331, 3) := by decide +kernel
theorem dX9_chance_6 : decode cX9_chance 6 = .ok (.invokestatic 80, 3) := by decide +kernel
theorem dX9_chance_9 : decode cX9_chance 9 = .ok (.ifCond .eq 26, 3) := by decide +kernel
theorem dX9_chance_12 : decode cX9_chance 12 = .ok (.iload_n 3, 1) := by decide +kernel
theorem dX9_chance_13 : decode cX9_chance 13 = .ok (.i2l, 1) := by decide +kernel
theorem dX9_chance_14 : decode cX9_chance 14 = .ok (.lconst 0, 1) := by decide +kernel
theorem dX9_chance_15 : decode cX9_chance 15 = .ok (.ldc2_w 340, 3) := by decide +kernel
theorem dX9_chance_18 : decode cX9_chance 18 = .ok (.invokestatic 80, 3) := by decide +kernel
theorem dX9_chance_21 : decode cX9_chance 21 = .ok (.ifCond .eq 14, 3) := by decide +kernel
theorem dX9_chance_24 : decode cX9_chance 24 = .ok (.iload 4, 2) := by decide +kernel
theorem dX9_chance_26 : decode cX9_chance 26 = .ok (.i2l, 1) := by decide +kernel
theorem dX9_chance_27 : decode cX9_chance 27 = .ok (.lconst 0, 1) := by decide +kernel
theorem dX9_chance_28 : decode cX9_chance 28 = .ok (.lconst 1, 1) := by decide +kernel
theorem dX9_chance_29 : decode cX9_chance 29 = .ok (.invokestatic 80, 3) := by decide +kernel
theorem dX9_chance_32 : decode cX9_chance 32 = .ok (.ifCond .ne 7, 3) := by decide +kernel
theorem dX9_chance_35 : decode cX9_chance 35 = .ok (.ldc2_w 314, 3) := by decide +kernel
theorem dX9_chance_38 : decode cX9_chance 38 = .ok (.lreturn, 1) := by decide +kernel
theorem dX9_chance_39 : decode cX9_chance 39 = .ok (.lconst 0, 1) := by decide +kernel
theorem dX9_chance_40 : decode cX9_chance 40 = .ok (.lstore 5, 2) := by decide +kernel
theorem dX9_chance_42 : decode cX9_chance 42 = .ok (.iconst 0, 1) := by decide +kernel
theorem dX9_chance_43 : decode cX9_chance 43 = .ok (.istore 7, 2) := by decide +kernel
theorem dX9_chance_45 : decode cX9_chance 45 = .ok (.iload 7, 2) := by decide +kernel
theorem dX9_chance_47 : decode cX9_chance 47 = .ok (.iload_n 2, 1) := by decide +kernel
theorem dX9_chance_48 : decode cX9_chance 48 = .ok (.if_icmp .ge 33, 3) := by decide +kernel
theorem dX9_chance_51 : decode cX9_chance 51 = .ok (.lload 5, 2) := by decide +kernel
theorem dX9_chance_53 : decode cX9_chance 53 = .ok (.aload_n 0, 1) := by decide +kernel
theorem dX9_chance_54 : decode cX9_chance 54 = .ok (.iload_n 1, 1) := by decide +kernel
theorem dX9_chance_55 : decode cX9_chance 55 = .ok (.iload 7, 2) := by decide +kernel
theorem dX9_chance_57 : decode cX9_chance 57 = .ok (.iadd, 1) := by decide +kernel
theorem dX9_chance_58 : decode cX9_chance 58 = .ok (.bipush 6, 2) := by decide +kernel
theorem dX9_chance_60 : decode cX9_chance 60 = .ok (.invokevirtual 337, 3) := by decide +kernel
theorem dX9_chance_63 : decode cX9_chance 63 = .ok (.iload_n 3, 1) := by decide +kernel
theorem dX9_chance_64 : decode cX9_chance 64 = .ok (.if_icmp .lt 7, 3) := by decide +kernel
theorem dX9_chance_67 : decode cX9_chance 67 = .ok (.lconst 1, 1) := by decide +kernel
theorem dX9_chance_68 : decode cX9_chance 68 = .ok (.goto 4, 3) := by decide +kernel
theorem dX9_chance_71 : decode cX9_chance 71 = .ok (.lconst 0, 1) := by decide +kernel
theorem dX9_chance_72 : decode cX9_chance 72 = .ok (.ladd, 1) := by decide +kernel
theorem dX9_chance_73 : decode cX9_chance 73 = .ok (.lstore 5, 2) := by decide +kernel
theorem dX9_chance_75 : decode cX9_chance 75 = .ok (.iinc 7 1, 3) := by decide +kernel
theorem dX9_chance_78 : decode cX9_chance 78 = .ok (.goto (-33), 3) := by decide +kernel
theorem dX9_chance_81 : decode cX9_chance 81 = .ok (.lload 5, 2) := by decide +kernel
theorem dX9_chance_83 : decode cX9_chance 83 = .ok (.iload_n 2, 1) := by decide +kernel
theorem dX9_chance_84 : decode cX9_chance 84 = .ok (.i2l, 1) := by decide +kernel
theorem dX9_chance_85 : decode cX9_chance 85 = .ok (.iload 4, 2) := by decide +kernel
theorem dX9_chance_87 : decode cX9_chance 87 = .ok (.invokestatic 316, 3) := by decide +kernel
theorem dX9_chance_90 : decode cX9_chance 90 = .ok (.lreturn, 1) := by decide +kernel
theorem dX9_image_0 : decode cX9_image 0 = .ok (.iconst 0, 1) := by decide +kernel
theorem dX9_image_1 : decode cX9_image 1 = .ok (.istore_n 1, 1) := by decide +kernel
theorem dX9_image_2 : decode cX9_image 2 = .ok (.iload_n 1, 1) := by decide +kernel
theorem dX9_image_3 : decode cX9_image 3 = .ok (.bipush 15, 2) := by decide +kernel
theorem dX9_image_5 : decode cX9_image 5 = .ok (.if_icmp .ge 21, 3) := by decide +kernel
theorem dX9_image_8 : decode cX9_image 8 = .ok (.aload_n 0, 1) := by decide +kernel
theorem dX9_image_9 : decode cX9_image 9 = .ok (.getfield 48, 3) := by decide +kernel
theorem dX9_image_12 : decode cX9_image 12 = .ok (.iload_n 1, 1) := by decide +kernel
theorem dX9_image_13 : decode cX9_image 13 = .ok (.aload_n 0, 1) := by decide +kernel
theorem dX9_image_14 : decode cX9_image 14 = .ok (.getfield 26, 3) := by decide +kernel
theorem dX9_image_17 : decode cX9_image 17 = .ok (.iload_n 1, 1) := by decide +kernel
theorem dX9_image_18 : decode cX9_image 18 = .ok (.iaload, 1) := by decide +kernel
theorem dX9_image_19 : decode cX9_image 19 = .ok (.iastore, 1) := by decide +kernel
theorem dX9_image_20 : decode cX9_image 20 = .ok (.iinc 1 1, 3) := by decide +kernel
theorem dX9_image_23 : decode cX9_image 23 = .ok (.goto (-21), 3) := by decide +kernel
theorem dX9_image_26 : decode cX9_image 26 = .ok (.iconst 0, 1) := by decide +kernel
theorem dX9_image_27 : decode cX9_image 27 = .ok (.istore_n 1, 1) := by decide +kernel
theorem dX9_image_28 : decode cX9_image 28 = .ok (.iload_n 1, 1) := by decide +kernel
theorem dX9_image_29 : decode cX9_image 29 = .ok (.bipush 18, 2) := by decide +kernel
theorem dX9_image_31 : decode cX9_image 31 = .ok (.if_icmp .ge 21, 3) := by decide +kernel
theorem dX9_image_34 : decode cX9_image 34 = .ok (.aload_n 0, 1) := by decide +kernel
theorem dX9_image_35 : decode cX9_image 35 = .ok (.getfield 51, 3) := by decide +kernel
theorem dX9_image_38 : decode cX9_image 38 = .ok (.iload_n 1, 1) := by decide +kernel
theorem dX9_image_39 : decode cX9_image 39 = .ok (.aload_n 0, 1) := by decide +kernel
theorem dX9_image_40 : decode cX9_image 40 = .ok (.getfield 29, 3) := by decide +kernel
theorem dX9_image_43 : decode cX9_image 43 = .ok (.iload_n 1, 1) := by decide +kernel
theorem dX9_image_44 : decode cX9_image 44 = .ok (.iaload, 1) := by decide +kernel
theorem dX9_image_45 : decode cX9_image 45 = .ok (.iastore, 1) := by decide +kernel
theorem dX9_image_46 : decode cX9_image 46 = .ok (.iinc 1 1, 3) := by decide +kernel
theorem dX9_image_49 : decode cX9_image 49 = .ok (.goto (-21), 3) := by decide +kernel
theorem dX9_image_52 : decode cX9_image 52 = .ok (.aload_n 0, 1) := by decide +kernel
theorem dX9_image_53 : decode cX9_image 53 = .ok (.aload_n 0, 1) := by decide +kernel
theorem dX9_image_54 : decode cX9_image 54 = .ok (.getfield 77, 3) := by decide +kernel
theorem dX9_image_57 : decode cX9_image 57 = .ok (.putfield 54, 3) := by decide +kernel
theorem dX9_image_60 : decode cX9_image 60 = .ok (.aload_n 0, 1) := by decide +kernel
theorem dX9_image_61 : decode cX9_image 61 = .ok (.aload_n 0, 1) := by decide +kernel
theorem dX9_image_62 : decode cX9_image 62 = .ok (.getfield 111, 3) := by decide +kernel
theorem dX9_image_65 : decode cX9_image 65 = .ok (.putfield 342, 3) := by decide +kernel
theorem dX9_image_68 : decode cX9_image 68 = .ok (.aload_n 0, 1) := by decide +kernel
theorem dX9_image_69 : decode cX9_image 69 = .ok (.aload_n 0, 1) := by decide +kernel
theorem dX9_image_70 : decode cX9_image 70 = .ok (.getfield 114, 3) := by decide +kernel
theorem dX9_image_73 : decode cX9_image 73 = .ok (.putfield 345, 3) := by decide +kernel
theorem dX9_image_76 : decode cX9_image 76 = .ok (.aload_n 0, 1) := by decide +kernel
theorem dX9_image_77 : decode cX9_image 77 = .ok (.aload_n 0, 1) := by decide +kernel
theorem dX9_image_78 : decode cX9_image 78 = .ok (.getfield 117, 3) := by decide +kernel
theorem dX9_image_81 : decode cX9_image 81 = .ok (.putfield 348, 3) := by decide +kernel
theorem dX9_image_84 : decode cX9_image 84 = .ok (.aload_n 0, 1) := by decide +kernel
theorem dX9_image_85 : decode cX9_image 85 = .ok (.getfield 77, 3) := by decide +kernel
theorem dX9_image_88 : decode cX9_image 88 = .ok (.ireturn, 1) := by decide +kernel
theorem dX9_back_0 : decode cX9_back 0 = .ok (.aload_n 0, 1) := by decide +kernel
theorem dX9_back_1 : decode cX9_back 1 = .ok (.getfield 54, 3) := by decide +kernel
theorem dX9_back_4 : decode cX9_back 4 = .ok (.iconst (-1), 1) := by decide +kernel
theorem dX9_back_5 : decode cX9_back 5 = .ok (.if_icmp .ne 6, 3) := by decide +kernel
theorem dX9_back_8 : decode cX9_back 8 = .ok (.bipush (-3), 2) := by decide +kernel
theorem dX9_back_10 : decode cX9_back 10 = .ok (.ireturn, 1) := by decide +kernel
theorem dX9_back_11 : decode cX9_back 11 = .ok (.iconst 0, 1) := by decide +kernel
theorem dX9_back_12 : decode cX9_back 12 = .ok (.istore_n 1, 1) := by decide +kernel
theorem dX9_back_13 : decode cX9_back 13 = .ok (.iload_n 1, 1) := by decide +kernel
theorem dX9_back_14 : decode cX9_back 14 = .ok (.bipush 15, 2) := by decide +kernel
theorem dX9_back_16 : decode cX9_back 16 = .ok (.if_icmp .ge 21, 3) := by decide +kernel
theorem dX9_back_19 : decode cX9_back 19 = .ok (.aload_n 0, 1) := by decide +kernel
theorem dX9_back_20 : decode cX9_back 20 = .ok (.getfield 26, 3) := by decide +kernel
theorem dX9_back_23 : decode cX9_back 23 = .ok (.iload_n 1, 1) := by decide +kernel
theorem dX9_back_24 : decode cX9_back 24 = .ok (.aload_n 0, 1) := by decide +kernel
theorem dX9_back_25 : decode cX9_back 25 = .ok (.getfield 48, 3) := by decide +kernel
theorem dX9_back_28 : decode cX9_back 28 = .ok (.iload_n 1, 1) := by decide +kernel
theorem dX9_back_29 : decode cX9_back 29 = .ok (.iaload, 1) := by decide +kernel
theorem dX9_back_30 : decode cX9_back 30 = .ok (.iastore, 1) := by decide +kernel
theorem dX9_back_31 : decode cX9_back 31 = .ok (.iinc 1 1, 3) := by decide +kernel
theorem dX9_back_34 : decode cX9_back 34 = .ok (.goto (-21), 3) := by decide +kernel
theorem dX9_back_37 : decode cX9_back 37 = .ok (.iconst 0, 1) := by decide +kernel
theorem dX9_back_38 : decode cX9_back 38 = .ok (.istore_n 1, 1) := by decide +kernel
theorem dX9_back_39 : decode cX9_back 39 = .ok (.iload_n 1, 1) := by decide +kernel
theorem dX9_back_40 : decode cX9_back 40 = .ok (.bipush 18, 2) := by decide +kernel
theorem dX9_back_42 : decode cX9_back 42 = .ok (.if_icmp .ge 21, 3) := by decide +kernel
theorem dX9_back_45 : decode cX9_back 45 = .ok (.aload_n 0, 1) := by decide +kernel
theorem dX9_back_46 : decode cX9_back 46 = .ok (.getfield 29, 3) := by decide +kernel
theorem dX9_back_49 : decode cX9_back 49 = .ok (.iload_n 1, 1) := by decide +kernel
theorem dX9_back_50 : decode cX9_back 50 = .ok (.aload_n 0, 1) := by decide +kernel
theorem dX9_back_51 : decode cX9_back 51 = .ok (.getfield 51, 3) := by decide +kernel
theorem dX9_back_54 : decode cX9_back 54 = .ok (.iload_n 1, 1) := by decide +kernel
theorem dX9_back_55 : decode cX9_back 55 = .ok (.iaload, 1) := by decide +kernel
theorem dX9_back_56 : decode cX9_back 56 = .ok (.iastore, 1) := by decide +kernel
theorem dX9_back_57 : decode cX9_back 57 = .ok (.iinc 1 1, 3) := by decide +kernel
theorem dX9_back_60 : decode cX9_back 60 = .ok (.goto (-21), 3) := by decide +kernel
theorem dX9_back_63 : decode cX9_back 63 = .ok (.aload_n 0, 1) := by decide +kernel
theorem dX9_back_64 : decode cX9_back 64 = .ok (.aload_n 0, 1) := by decide +kernel
theorem dX9_back_65 : decode cX9_back 65 = .ok (.getfield 54, 3) := by decide +kernel
theorem dX9_back_68 : decode cX9_back 68 = .ok (.putfield 77, 3) := by decide +kernel
theorem dX9_back_71 : decode cX9_back 71 = .ok (.aload_n 0, 1) := by decide +kernel
theorem dX9_back_72 : decode cX9_back 72 = .ok (.aload_n 0, 1) := by decide +kernel
theorem dX9_back_73 : decode cX9_back 73 = .ok (.getfield 342, 3) := by decide +kernel
theorem dX9_back_76 : decode cX9_back 76 = .ok (.putfield 111, 3) := by decide +kernel
theorem dX9_back_79 : decode cX9_back 79 = .ok (.aload_n 0, 1) := by decide +kernel
theorem dX9_back_80 : decode cX9_back 80 = .ok (.aload_n 0, 1) := by decide +kernel
theorem dX9_back_81 : decode cX9_back 81 = .ok (.getfield 345, 3) := by decide +kernel
theorem dX9_back_84 : decode cX9_back 84 = .ok (.putfield 114, 3) := by decide +kernel
theorem dX9_back_87 : decode cX9_back 87 = .ok (.aload_n 0, 1) := by decide +kernel
theorem dX9_back_88 : decode cX9_back 88 = .ok (.aload_n 0, 1) := by decide +kernel
theorem dX9_back_89 : decode cX9_back 89 = .ok (.getfield 348, 3) := by decide +kernel
theorem dX9_back_92 : decode cX9_back 92 = .ok (.putfield 117, 3) := by decide +kernel
theorem dX9_back_95 : decode cX9_back 95 = .ok (.aload_n 0, 1) := by decide +kernel
theorem dX9_back_96 : decode cX9_back 96 = .ok (.getfield 77, 3) := by decide +kernel
theorem dX9_back_99 : decode cX9_back 99 = .ok (.ireturn, 1) := by decide +kernel
theorem dX9_count_0 : decode cX9_count 0 = .ok (.iload_n 1, 1) := by decide +kernel
theorem dX9_count_1 : decode cX9_count 1 = .ok (.i2l, 1) := by decide +kernel
theorem dX9_count_2 : decode cX9_count 2 = .ok (.lconst 0, 1) := by decide +kernel
theorem dX9_count_3 : decode cX9_count 3 = .ok (.ldc2_w 84, 3) := by decide +kernel
theorem dX9_count_6 : decode cX9_count 6 = .ok (.invokestatic 80, 3) := by decide +kernel
theorem dX9_count_9 : decode cX9_count 9 = .ok (.ifCond .ne 6, 3) := by decide +kernel
theorem dX9_count_12 : decode cX9_count 12 = .ok (.bipush (-2), 2) := by decide +kernel
theorem dX9_count_14 : decode cX9_count 14 = .ok (.ireturn, 1) := by decide +kernel
theorem dX9_count_15 : decode cX9_count 15 = .ok (.iconst 0, 1) := by decide +kernel
theorem dX9_count_16 : decode cX9_count 16 = .ok (.istore_n 2, 1) := by decide +kernel
theorem dX9_count_17 : decode cX9_count 17 = .ok (.iconst 0, 1) := by decide +kernel
theorem dX9_count_18 : decode cX9_count 18 = .ok (.istore_n 3, 1) := by decide +kernel
theorem dX9_count_19 : decode cX9_count 19 = .ok (.iload_n 3, 1) := by decide +kernel
theorem dX9_count_20 : decode cX9_count 20 = .ok (.bipush 6, 2) := by decide +kernel
theorem dX9_count_22 : decode cX9_count 22 = .ok (.if_icmp .ge 22, 3) := by decide +kernel
theorem dX9_count_25 : decode cX9_count 25 = .ok (.iload_n 2, 1) := by decide +kernel
theorem dX9_count_26 : decode cX9_count 26 = .ok (.aload_n 0, 1) := by decide +kernel
theorem dX9_count_27 : decode cX9_count 27 = .ok (.getfield 29, 3) := by decide +kernel
theorem dX9_count_30 : decode cX9_count 30 = .ok (.iconst 3, 1) := by decide +kernel
theorem dX9_count_31 : decode cX9_count 31 = .ok (.iload_n 3, 1) := by decide +kernel
theorem dX9_count_32 : decode cX9_count 32 = .ok (.imul, 1) := by decide +kernel
theorem dX9_count_33 : decode cX9_count 33 = .ok (.iconst 2, 1) := by decide +kernel
theorem dX9_count_34 : decode cX9_count 34 = .ok (.iadd, 1) := by decide +kernel
theorem dX9_count_35 : decode cX9_count 35 = .ok (.iaload, 1) := by decide +kernel
theorem dX9_count_36 : decode cX9_count 36 = .ok (.iadd, 1) := by decide +kernel
theorem dX9_count_37 : decode cX9_count 37 = .ok (.istore_n 2, 1) := by decide +kernel
theorem dX9_count_38 : decode cX9_count 38 = .ok (.iinc 3 1, 3) := by decide +kernel
theorem dX9_count_41 : decode cX9_count 41 = .ok (.goto (-22), 3) := by decide +kernel
theorem dX9_count_44 : decode cX9_count 44 = .ok (.iload_n 1, 1) := by decide +kernel
theorem dX9_count_45 : decode cX9_count 45 = .ok (.ifCond .ne 10, 3) := by decide +kernel
theorem dX9_count_48 : decode cX9_count 48 = .ok (.aload_n 0, 1) := by decide +kernel
theorem dX9_count_49 : decode cX9_count 49 = .ok (.getfield 77, 3) := by decide +kernel
theorem dX9_count_52 : decode cX9_count 52 = .ok (.goto 52, 3) := by decide +kernel
theorem dX9_count_55 : decode cX9_count 55 = .ok (.iload_n 1, 1) := by decide +kernel
theorem dX9_count_56 : decode cX9_count 56 = .ok (.iconst 1, 1) := by decide +kernel
theorem dX9_count_57 : decode cX9_count 57 = .ok (.if_icmp .ne 7, 3) := by decide +kernel
theorem dX9_count_60 : decode cX9_count 60 = .ok (.iload_n 2, 1) := by decide +kernel
theorem dX9_count_61 : decode cX9_count 61 = .ok (.goto 43, 3) := by decide +kernel
theorem dX9_count_64 : decode cX9_count 64 = .ok (.iload_n 1, 1) := by decide +kernel
theorem dX9_count_65 : decode cX9_count 65 = .ok (.iconst 2, 1) := by decide +kernel
theorem dX9_count_66 : decode cX9_count 66 = .ok (.if_icmp .ne 10, 3) := by decide +kernel
theorem dX9_count_69 : decode cX9_count 69 = .ok (.aload_n 0, 1) := by decide +kernel
theorem dX9_count_70 : decode cX9_count 70 = .ok (.getfield 111, 3) := by decide +kernel
theorem dX9_count_73 : decode cX9_count 73 = .ok (.goto 31, 3) := by decide +kernel
theorem dX9_count_76 : decode cX9_count 76 = .ok (.iload_n 1, 1) := by decide +kernel
theorem dX9_count_77 : decode cX9_count 77 = .ok (.iconst 3, 1) := by decide +kernel
theorem dX9_count_78 : decode cX9_count 78 = .ok (.if_icmp .ne 10, 3) := by decide +kernel
theorem dX9_count_81 : decode cX9_count 81 = .ok (.aload_n 0, 1) := by decide +kernel
theorem dX9_count_82 : decode cX9_count 82 = .ok (.getfield 74, 3) := by decide +kernel
theorem dX9_count_85 : decode cX9_count 85 = .ok (.goto 19, 3) := by decide +kernel
theorem dX9_count_88 : decode cX9_count 88 = .ok (.iload_n 1, 1) := by decide +kernel
theorem dX9_count_89 : decode cX9_count 89 = .ok (.iconst 4, 1) := by decide +kernel
theorem dX9_count_90 : decode cX9_count 90 = .ok (.if_icmp .ne 10, 3) := by decide +kernel
theorem dX9_count_93 : decode cX9_count 93 = .ok (.aload_n 0, 1) := by decide +kernel
theorem dX9_count_94 : decode cX9_count 94 = .ok (.getfield 134, 3) := by decide +kernel
theorem dX9_count_97 : decode cX9_count 97 = .ok (.goto 7, 3) := by decide +kernel
theorem dX9_count_100 : decode cX9_count 100 = .ok (.aload_n 0, 1) := by decide +kernel
theorem dX9_count_101 : decode cX9_count 101 = .ok (.getfield 117, 3) := by decide +kernel
theorem dX9_count_104 : decode cX9_count 104 = .ok (.ireturn, 1) := by decide +kernel
theorem dX9_isSheet_0 : decode cX9_isSheet 0 = .ok (.iload_n 0, 1) := by decide +kernel
theorem dX9_isSheet_1 : decode cX9_isSheet 1 = .ok (.i2l, 1) := by decide +kernel
theorem dX9_isSheet_2 : decode cX9_isSheet 2 = .ok (.lconst 0, 1) := by decide +kernel
theorem dX9_isSheet_3 : decode cX9_isSheet 3 = .ok (.ldc2_w 255, 3) := by decide +kernel
theorem dX9_isSheet_6 : decode cX9_isSheet 6 = .ok (.invokestatic 80, 3) := by decide +kernel
theorem dX9_isSheet_9 : decode cX9_isSheet 9 = .ok (.ireturn, 1) := by decide +kernel
theorem dX9_sheet_0 : decode cX9_sheet 0 = .ok (.iload_n 1, 1) := by decide +kernel
theorem dX9_sheet_1 : decode cX9_sheet 1 = .ok (.invokestatic 323, 3) := by decide +kernel
theorem dX9_sheet_4 : decode cX9_sheet 4 = .ok (.ifCond .eq 27, 3) := by decide +kernel
theorem dX9_sheet_7 : decode cX9_sheet 7 = .ok (.iload_n 2, 1) := by decide +kernel
theorem dX9_sheet_8 : decode cX9_sheet 8 = .ok (.i2l, 1) := by decide +kernel
theorem dX9_sheet_9 : decode cX9_sheet 9 = .ok (.ldc2_w 351, 3) := by decide +kernel
theorem dX9_sheet_12 : decode cX9_sheet 12 = .ok (.ldc2_w 286, 3) := by decide +kernel
theorem dX9_sheet_15 : decode cX9_sheet 15 = .ok (.invokestatic 80, 3) := by decide +kernel
theorem dX9_sheet_18 : decode cX9_sheet 18 = .ok (.ifCond .eq 13, 3) := by decide +kernel
theorem dX9_sheet_21 : decode cX9_sheet 21 = .ok (.iload_n 2, 1) := by decide +kernel
theorem dX9_sheet_22 : decode cX9_sheet 22 = .ok (.ifCond .lt 12, 3) := by decide +kernel
theorem dX9_sheet_25 : decode cX9_sheet 25 = .ok (.iload_n 3, 1) := by decide +kernel
theorem dX9_sheet_26 : decode cX9_sheet 26 = .ok (.bipush 40, 2) := by decide +kernel
theorem dX9_sheet_28 : decode cX9_sheet 28 = .ok (.if_icmp .le 6, 3) := by decide +kernel
theorem dX9_sheet_31 : decode cX9_sheet 31 = .ok (.bipush (-2), 2) := by decide +kernel
theorem dX9_sheet_33 : decode cX9_sheet 33 = .ok (.ireturn, 1) := by decide +kernel
theorem dX9_sheet_34 : decode cX9_sheet 34 = .ok (.iload_n 2, 1) := by decide +kernel
theorem dX9_sheet_35 : decode cX9_sheet 35 = .ok (.ifCond .lt 10, 3) := by decide +kernel
theorem dX9_sheet_38 : decode cX9_sheet 38 = .ok (.iload_n 3, 1) := by decide +kernel
theorem dX9_sheet_39 : decode cX9_sheet 39 = .ok (.ifCond .ge 6, 3) := by decide +kernel
theorem dX9_sheet_42 : decode cX9_sheet 42 = .ok (.bipush (-14), 2) := by decide +kernel
theorem dX9_sheet_44 : decode cX9_sheet 44 = .ok (.ireturn, 1) := by decide +kernel
theorem dX9_sheet_45 : decode cX9_sheet 45 = .ok (.aload_n 0, 1) := by decide +kernel
theorem dX9_sheet_46 : decode cX9_sheet 46 = .ok (.getfield 57, 3) := by decide +kernel
theorem dX9_sheet_49 : decode cX9_sheet 49 = .ok (.iload_n 1, 1) := by decide +kernel
theorem dX9_sheet_50 : decode cX9_sheet 50 = .ok (.iload_n 2, 1) := by decide +kernel
theorem dX9_sheet_51 : decode cX9_sheet 51 = .ok (.ifCond .lt 7, 3) := by decide +kernel
theorem dX9_sheet_54 : decode cX9_sheet 54 = .ok (.iconst 1, 1) := by decide +kernel
theorem dX9_sheet_55 : decode cX9_sheet 55 = .ok (.goto 4, 3) := by decide +kernel
theorem dX9_sheet_58 : decode cX9_sheet 58 = .ok (.iconst 0, 1) := by decide +kernel
theorem dX9_sheet_59 : decode cX9_sheet 59 = .ok (.bastore, 1) := by decide +kernel
theorem dX9_sheet_60 : decode cX9_sheet 60 = .ok (.aload_n 0, 1) := by decide +kernel
theorem dX9_sheet_61 : decode cX9_sheet 61 = .ok (.getfield 61, 3) := by decide +kernel
theorem dX9_sheet_64 : decode cX9_sheet 64 = .ok (.iload_n 1, 1) := by decide +kernel
theorem dX9_sheet_65 : decode cX9_sheet 65 = .ok (.iload_n 2, 1) := by decide +kernel
theorem dX9_sheet_66 : decode cX9_sheet 66 = .ok (.iastore, 1) := by decide +kernel
theorem dX9_sheet_67 : decode cX9_sheet 67 = .ok (.aload_n 0, 1) := by decide +kernel
theorem dX9_sheet_68 : decode cX9_sheet 68 = .ok (.getfield 64, 3) := by decide +kernel
theorem dX9_sheet_71 : decode cX9_sheet 71 = .ok (.iload_n 1, 1) := by decide +kernel
theorem dX9_sheet_72 : decode cX9_sheet 72 = .ok (.iload_n 3, 1) := by decide +kernel
theorem dX9_sheet_73 : decode cX9_sheet 73 = .ok (.iastore, 1) := by decide +kernel
theorem dX9_sheet_74 : decode cX9_sheet 74 = .ok (.iconst 0, 1) := by decide +kernel
theorem dX9_sheet_75 : decode cX9_sheet 75 = .ok (.istore 4, 2) := by decide +kernel
theorem dX9_sheet_77 : decode cX9_sheet 77 = .ok (.iload 4, 2) := by decide +kernel
theorem dX9_sheet_79 : decode cX9_sheet 79 = .ok (.iload_n 3, 1) := by decide +kernel
theorem dX9_sheet_80 : decode cX9_sheet 80 = .ok (.if_icmp .ge 26, 3) := by decide +kernel
theorem dX9_sheet_83 : decode cX9_sheet 83 = .ok (.iload_n 2, 1) := by decide +kernel
theorem dX9_sheet_84 : decode cX9_sheet 84 = .ok (.ifCond .lt 22, 3) := by decide +kernel
theorem dX9_sheet_87 : decode cX9_sheet 87 = .ok (.aload_n 0, 1) := by decide +kernel
theorem dX9_sheet_88 : decode cX9_sheet 88 = .ok (.getfield 67, 3) := by decide +kernel
theorem dX9_sheet_91 : decode cX9_sheet 91 = .ok (.bipush 40, 2) := by decide +kernel
theorem dX9_sheet_93 : decode cX9_sheet 93 = .ok (.iload_n 1, 1) := by decide +kernel
theorem dX9_sheet_94 : decode cX9_sheet 94 = .ok (.imul, 1) := by decide +kernel
theorem dX9_sheet_95 : decode cX9_sheet 95 = .ok (.iload 4, 2) := by decide +kernel
theorem dX9_sheet_97 : decode cX9_sheet 97 = .ok (.iadd, 1) := by decide +kernel
theorem dX9_sheet_98 : decode cX9_sheet 98 = .ok (.iconst 0, 1) := by decide +kernel
theorem dX9_sheet_99 : decode cX9_sheet 99 = .ok (.iastore, 1) := by decide +kernel
theorem dX9_sheet_100 : decode cX9_sheet 100 = .ok (.iinc 4 1, 3) := by decide +kernel
theorem dX9_sheet_103 : decode cX9_sheet 103 = .ok (.goto (-26), 3) := by decide +kernel
theorem dX9_sheet_106 : decode cX9_sheet 106 = .ok (.iconst 1, 1) := by decide +kernel
theorem dX9_sheet_107 : decode cX9_sheet 107 = .ok (.ireturn, 1) := by decide +kernel
theorem dX9_cell_0 : decode cX9_cell 0 = .ok (.iload_n 1, 1) := by decide +kernel
theorem dX9_cell_1 : decode cX9_cell 1 = .ok (.invokestatic 323, 3) := by decide +kernel
theorem dX9_cell_4 : decode cX9_cell 4 = .ok (.ifCond .ne 6, 3) := by decide +kernel
theorem dX9_cell_7 : decode cX9_cell 7 = .ok (.bipush (-2), 2) := by decide +kernel
theorem dX9_cell_9 : decode cX9_cell 9 = .ok (.ireturn, 1) := by decide +kernel
theorem dX9_cell_10 : decode cX9_cell 10 = .ok (.aload_n 0, 1) := by decide +kernel
theorem dX9_cell_11 : decode cX9_cell 11 = .ok (.getfield 57, 3) := by decide +kernel
theorem dX9_cell_14 : decode cX9_cell 14 = .ok (.iload_n 1, 1) := by decide +kernel
theorem dX9_cell_15 : decode cX9_cell 15 = .ok (.baload, 1) := by decide +kernel
theorem dX9_cell_16 : decode cX9_cell 16 = .ok (.ifCond .ne 6, 3) := by decide +kernel
theorem dX9_cell_19 : decode cX9_cell 19 = .ok (.bipush (-11), 2) := by decide +kernel
theorem dX9_cell_21 : decode cX9_cell 21 = .ok (.ireturn, 1) := by decide +kernel
theorem dX9_cell_22 : decode cX9_cell 22 = .ok (.iload_n 2, 1) := by decide +kernel
theorem dX9_cell_23 : decode cX9_cell 23 = .ok (.i2l, 1) := by decide +kernel
theorem dX9_cell_24 : decode cX9_cell 24 = .ok (.lconst 0, 1) := by decide +kernel
theorem dX9_cell_25 : decode cX9_cell 25 = .ok (.aload_n 0, 1) := by decide +kernel
theorem dX9_cell_26 : decode cX9_cell 26 = .ok (.getfield 64, 3) := by decide +kernel
theorem dX9_cell_29 : decode cX9_cell 29 = .ok (.iload_n 1, 1) := by decide +kernel
theorem dX9_cell_30 : decode cX9_cell 30 = .ok (.iaload, 1) := by decide +kernel
theorem dX9_cell_31 : decode cX9_cell 31 = .ok (.iconst 1, 1) := by decide +kernel
theorem dX9_cell_32 : decode cX9_cell 32 = .ok (.isub, 1) := by decide +kernel
theorem dX9_cell_33 : decode cX9_cell 33 = .ok (.i2l, 1) := by decide +kernel
theorem dX9_cell_34 : decode cX9_cell 34 = .ok (.invokestatic 80, 3) := by decide +kernel
theorem dX9_cell_37 : decode cX9_cell 37 = .ok (.ifCond .ne 6, 3) := by decide +kernel
theorem dX9_cell_40 : decode cX9_cell 40 = .ok (.bipush (-12), 2) := by decide +kernel
theorem dX9_cell_42 : decode cX9_cell 42 = .ok (.ireturn, 1) := by decide +kernel
theorem dX9_cell_43 : decode cX9_cell 43 = .ok (.aload_n 0, 1) := by decide +kernel
theorem dX9_cell_44 : decode cX9_cell 44 = .ok (.getfield 67, 3) := by decide +kernel
theorem dX9_cell_47 : decode cX9_cell 47 = .ok (.bipush 40, 2) := by decide +kernel
theorem dX9_cell_49 : decode cX9_cell 49 = .ok (.iload_n 1, 1) := by decide +kernel
theorem dX9_cell_50 : decode cX9_cell 50 = .ok (.imul, 1) := by decide +kernel
theorem dX9_cell_51 : decode cX9_cell 51 = .ok (.iload_n 2, 1) := by decide +kernel
theorem dX9_cell_52 : decode cX9_cell 52 = .ok (.iadd, 1) := by decide +kernel
theorem dX9_cell_53 : decode cX9_cell 53 = .ok (.aload_n 0, 1) := by decide +kernel
theorem dX9_cell_54 : decode cX9_cell 54 = .ok (.getfield 61, 3) := by decide +kernel
theorem dX9_cell_57 : decode cX9_cell 57 = .ok (.iload_n 1, 1) := by decide +kernel
theorem dX9_cell_58 : decode cX9_cell 58 = .ok (.iaload, 1) := by decide +kernel
theorem dX9_cell_59 : decode cX9_cell 59 = .ok (.ifCond .ne 8, 3) := by decide +kernel
theorem dX9_cell_62 : decode cX9_cell 62 = .ok (.iload_n 3, 1) := by decide +kernel
theorem dX9_cell_63 : decode cX9_cell 63 = .ok (.i2b, 1) := by decide +kernel
theorem dX9_cell_64 : decode cX9_cell 64 = .ok (.goto 19, 3) := by decide +kernel
theorem dX9_cell_67 : decode cX9_cell 67 = .ok (.aload_n 0, 1) := by decide +kernel
theorem dX9_cell_68 : decode cX9_cell 68 = .ok (.getfield 61, 3) := by decide +kernel
theorem dX9_cell_71 : decode cX9_cell 71 = .ok (.iload_n 1, 1) := by decide +kernel
theorem dX9_cell_72 : decode cX9_cell 72 = .ok (.iaload, 1) := by decide +kernel
theorem dX9_cell_73 : decode cX9_cell 73 = .ok (.iconst 1, 1) := by decide +kernel
theorem dX9_cell_74 : decode cX9_cell 74 = .ok (.if_icmp .ne 8, 3) := by decide +kernel
theorem dX9_cell_77 : decode cX9_cell 77 = .ok (.iload_n 3, 1) := by decide +kernel
theorem dX9_cell_78 : decode cX9_cell 78 = .ok (.i2s, 1) := by decide +kernel
theorem dX9_cell_79 : decode cX9_cell 79 = .ok (.goto 4, 3) := by decide +kernel
theorem dX9_cell_82 : decode cX9_cell 82 = .ok (.iload_n 3, 1) := by decide +kernel
theorem dX9_cell_83 : decode cX9_cell 83 = .ok (.iastore, 1) := by decide +kernel
theorem dX9_cell_84 : decode cX9_cell 84 = .ok (.iconst 1, 1) := by decide +kernel
theorem dX9_cell_85 : decode cX9_cell 85 = .ok (.ireturn, 1) := by decide +kernel
theorem dX9_copy_0 : decode cX9_copy 0 = .ok (.iload_n 1, 1) := by decide +kernel
theorem dX9_copy_1 : decode cX9_copy 1 = .ok (.invokestatic 323, 3) := by decide +kernel
theorem dX9_copy_4 : decode cX9_copy 4 = .ok (.ifCond .eq 10, 3) := by decide +kernel
theorem dX9_copy_7 : decode cX9_copy 7 = .ok (.iload_n 3, 1) := by decide +kernel
theorem dX9_copy_8 : decode cX9_copy 8 = .ok (.invokestatic 323, 3) := by decide +kernel
theorem dX9_copy_11 : decode cX9_copy 11 = .ok (.ifCond .ne 6, 3) := by decide +kernel
theorem dX9_copy_14 : decode cX9_copy 14 = .ok (.bipush (-2), 2) := by decide +kernel
theorem dX9_copy_16 : decode cX9_copy 16 = .ok (.ireturn, 1) := by decide +kernel
theorem dX9_copy_17 : decode cX9_copy 17 = .ok (.aload_n 0, 1) := by decide +kernel
theorem dX9_copy_18 : decode cX9_copy 18 = .ok (.getfield 57, 3) := by decide +kernel
theorem dX9_copy_21 : decode cX9_copy 21 = .ok (.iload_n 1, 1) := by decide +kernel
theorem dX9_copy_22 : decode cX9_copy 22 = .ok (.baload, 1) := by decide +kernel
theorem dX9_copy_23 : decode cX9_copy 23 = .ok (.ifCond .eq 12, 3) := by decide +kernel
theorem dX9_copy_26 : decode cX9_copy 26 = .ok (.aload_n 0, 1) := by decide +kernel
theorem dX9_copy_27 : decode cX9_copy 27 = .ok (.getfield 57, 3) := by decide +kernel
theorem dX9_copy_30 : decode cX9_copy 30 = .ok (.iload_n 3, 1) := by decide +kernel
theorem dX9_copy_31 : decode cX9_copy 31 = .ok (.baload, 1) := by decide +kernel
theorem dX9_copy_32 : decode cX9_copy 32 = .ok (.ifCond .ne 6, 3) := by decide +kernel
theorem dX9_copy_35 : decode cX9_copy 35 = .ok (.bipush (-11), 2) := by decide +kernel
theorem dX9_copy_37 : decode cX9_copy 37 = .ok (.ireturn, 1) := by decide +kernel
theorem dX9_copy_38 : decode cX9_copy 38 = .ok (.aload_n 0, 1) := by decide +kernel
theorem dX9_copy_39 : decode cX9_copy 39 = .ok (.getfield 61, 3) := by decide +kernel
theorem dX9_copy_42 : decode cX9_copy 42 = .ok (.iload_n 1, 1) := by decide +kernel
theorem dX9_copy_43 : decode cX9_copy 43 = .ok (.iaload, 1) := by decide +kernel
theorem dX9_copy_44 : decode cX9_copy 44 = .ok (.aload_n 0, 1) := by decide +kernel
theorem dX9_copy_45 : decode cX9_copy 45 = .ok (.getfield 61, 3) := by decide +kernel
theorem dX9_copy_48 : decode cX9_copy 48 = .ok (.iload_n 3, 1) := by decide +kernel
theorem dX9_copy_49 : decode cX9_copy 49 = .ok (.iaload, 1) := by decide +kernel
theorem dX9_copy_50 : decode cX9_copy 50 = .ok (.if_icmp .eq 6, 3) := by decide +kernel
theorem dX9_copy_53 : decode cX9_copy 53 = .ok (.bipush (-13), 2) := by decide +kernel
theorem dX9_copy_55 : decode cX9_copy 55 = .ok (.ireturn, 1) := by decide +kernel
theorem dX9_copy_56 : decode cX9_copy 56 = .ok (.iload 5, 2) := by decide +kernel
theorem dX9_copy_58 : decode cX9_copy 58 = .ok (.ifCond .lt 39, 3) := by decide +kernel
theorem dX9_copy_61 : decode cX9_copy 61 = .ok (.iload_n 2, 1) := by decide +kernel
theorem dX9_copy_62 : decode cX9_copy 62 = .ok (.ifCond .lt 35, 3) := by decide +kernel
theorem dX9_copy_65 : decode cX9_copy 65 = .ok (.iload 4, 2) := by decide +kernel
theorem dX9_copy_67 : decode cX9_copy 67 = .ok (.ifCond .lt 30, 3) := by decide +kernel
theorem dX9_copy_70 : decode cX9_copy 70 = .ok (.iload_n 2, 1) := by decide +kernel
theorem dX9_copy_71 : decode cX9_copy 71 = .ok (.aload_n 0, 1) := by decide +kernel
theorem dX9_copy_72 : decode cX9_copy 72 = .ok (.getfield 64, 3) := by decide +kernel
theorem dX9_copy_75 : decode cX9_copy 75 = .ok (.iload_n 1, 1) := by decide +kernel
theorem dX9_copy_76 : decode cX9_copy 76 = .ok (.iaload, 1) := by decide +kernel
theorem dX9_copy_77 : decode cX9_copy 77 = .ok (.iload 5, 2) := by decide +kernel
theorem dX9_copy_79 : decode cX9_copy 79 = .ok (.isub, 1) := by decide +kernel
theorem dX9_copy_80 : decode cX9_copy 80 = .ok (.if_icmp .gt 17, 3) := by decide +kernel
theorem dX9_copy_83 : decode cX9_copy 83 = .ok (.iload 4, 2) := by decide +kernel
theorem dX9_copy_85 : decode cX9_copy 85 = .ok (.aload_n 0, 1) := by decide +kernel
theorem dX9_copy_86 : decode cX9_copy 86 = .ok (.getfield 64, 3) := by decide +kernel
theorem dX9_copy_89 : decode cX9_copy 89 = .ok (.iload_n 3, 1) := by decide +kernel
theorem dX9_copy_90 : decode cX9_copy 90 = .ok (.iaload, 1) := by decide +kernel
theorem dX9_copy_91 : decode cX9_copy 91 = .ok (.iload 5, 2) := by decide +kernel
theorem dX9_copy_93 : decode cX9_copy 93 = .ok (.isub, 1) := by decide +kernel
theorem dX9_copy_94 : decode cX9_copy 94 = .ok (.if_icmp .le 6, 3) := by decide +kernel
theorem dX9_copy_97 : decode cX9_copy 97 = .ok (.bipush (-12), 2) := by decide +kernel
theorem dX9_copy_99 : decode cX9_copy 99 = .ok (.ireturn, 1) := by decide +kernel
theorem dX9_copy_100 : decode cX9_copy 100 = .ok (.iload_n 1, 1) := by decide +kernel
theorem dX9_copy_101 : decode cX9_copy 101 = .ok (.iload_n 3, 1) := by decide +kernel
theorem dX9_copy_102 : decode cX9_copy 102 = .ok (.if_icmp .ne 13, 3) := by decide +kernel
theorem dX9_copy_105 : decode cX9_copy 105 = .ok (.iload_n 2, 1) := by decide +kernel
theorem dX9_copy_106 : decode cX9_copy 106 = .ok (.iload 4, 2) := by decide +kernel
theorem dX9_copy_108 : decode cX9_copy 108 = .ok (.if_icmp .ge 7, 3) := by decide +kernel
theorem dX9_copy_111 : decode cX9_copy 111 = .ok (.iconst 1, 1) := by decide +kernel
theorem dX9_copy_112 : decode cX9_copy 112 = .ok (.goto 4, 3) := by decide +kernel
theorem dX9_copy_115 : decode cX9_copy 115 = .ok (.iconst 0, 1) := by decide +kernel
theorem dX9_copy_116 : decode cX9_copy 116 = .ok (.istore 6, 2) := by decide +kernel
theorem dX9_copy_118 : decode cX9_copy 118 = .ok (.iconst 0, 1) := by decide +kernel
theorem dX9_copy_119 : decode cX9_copy 119 = .ok (.istore 7, 2) := by decide +kernel
theorem dX9_copy_121 : decode cX9_copy 121 = .ok (.iload 7, 2) := by decide +kernel
theorem dX9_copy_123 : decode cX9_copy 123 = .ok (.iload 5, 2) := by decide +kernel
theorem dX9_copy_125 : decode cX9_copy 125 = .ok (.if_icmp .ge 57, 3) := by decide +kernel
theorem dX9_copy_128 : decode cX9_copy 128 = .ok (.iload 6, 2) := by decide +kernel
theorem dX9_copy_130 : decode cX9_copy 130 = .ok (.ifCond .eq 13, 3) := by decide +kernel
theorem dX9_copy_133 : decode cX9_copy 133 = .ok (.iload 5, 2) := by decide +kernel
theorem dX9_copy_135 : decode cX9_copy 135 = .ok (.iconst 1, 1) := by decide +kernel
theorem dX9_copy_136 : decode cX9_copy 136 = .ok (.isub, 1) := by decide +kernel
theorem dX9_copy_137 : decode cX9_copy 137 = .ok (.iload 7, 2) := by decide +kernel
theorem dX9_copy_139 : decode cX9_copy 139 = .ok (.isub, 1) := by decide +kernel
theorem dX9_copy_140 : decode cX9_copy 140 = .ok (.goto 5, 3) := by decide +kernel
theorem dX9_copy_143 : decode cX9_copy 143 = .ok (.iload 7, 2) := by decide +kernel
theorem dX9_copy_145 : decode cX9_copy 145 = .ok (.istore 8, 2) := by decide +kernel
theorem dX9_copy_147 : decode cX9_copy 147 = .ok (.aload_n 0, 1) := by decide +kernel
theorem dX9_copy_148 : decode cX9_copy 148 = .ok (.getfield 67, 3) := by decide +kernel
theorem dX9_copy_151 : decode cX9_copy 151 = .ok (.bipush 40, 2) := by decide +kernel
theorem dX9_copy_153 : decode cX9_copy 153 = .ok (.iload_n 3, 1) := by decide +kernel
theorem dX9_copy_154 : decode cX9_copy 154 = .ok (.imul, 1) := by decide +kernel
theorem dX9_copy_155 : decode cX9_copy 155 = .ok (.iload 4, 2) := by decide +kernel
theorem dX9_copy_157 : decode cX9_copy 157 = .ok (.iadd, 1) := by decide +kernel
theorem dX9_copy_158 : decode cX9_copy 158 = .ok (.iload 8, 2) := by decide +kernel
theorem dX9_copy_160 : decode cX9_copy 160 = .ok (.iadd, 1) := by decide +kernel
theorem dX9_copy_161 : decode cX9_copy 161 = .ok (.aload_n 0, 1) := by decide +kernel
theorem dX9_copy_162 : decode cX9_copy 162 = .ok (.getfield 67, 3) := by decide +kernel
theorem dX9_copy_165 : decode cX9_copy 165 = .ok (.bipush 40, 2) := by decide +kernel
theorem dX9_copy_167 : decode cX9_copy 167 = .ok (.iload_n 1, 1) := by decide +kernel
theorem dX9_copy_168 : decode cX9_copy 168 = .ok (.imul, 1) := by decide +kernel
theorem dX9_copy_169 : decode cX9_copy 169 = .ok (.iload_n 2, 1) := by decide +kernel
theorem dX9_copy_170 : decode cX9_copy 170 = .ok (.iadd, 1) := by decide +kernel
theorem dX9_copy_171 : decode cX9_copy 171 = .ok (.iload 8, 2) := by decide +kernel
theorem dX9_copy_173 : decode cX9_copy 173 = .ok (.iadd, 1) := by decide +kernel
theorem dX9_copy_174 : decode cX9_copy 174 = .ok (.iaload, 1) := by decide +kernel
theorem dX9_copy_175 : decode cX9_copy 175 = .ok (.iastore, 1) := by decide +kernel
theorem dX9_copy_176 : decode cX9_copy 176 = .ok (.iinc 7 1, 3) := by decide +kernel
theorem dX9_copy_179 : decode cX9_copy 179 = .ok (.goto (-58), 3) := by decide +kernel
theorem dX9_copy_182 : decode cX9_copy 182 = .ok (.iload 5, 2) := by decide +kernel
theorem dX9_copy_184 : decode cX9_copy 184 = .ok (.ireturn, 1) := by decide +kernel
theorem dX9_house_0 : decode cX9_house 0 = .ok (.iload_n 1, 1) := by decide +kernel
theorem dX9_house_1 : decode cX9_house 1 = .ok (.invokestatic 323, 3) := by decide +kernel
theorem dX9_house_4 : decode cX9_house 4 = .ok (.ifCond .eq 28, 3) := by decide +kernel
theorem dX9_house_7 : decode cX9_house 7 = .ok (.iload_n 2, 1) := by decide +kernel
theorem dX9_house_8 : decode cX9_house 8 = .ok (.i2l, 1) := by decide +kernel
theorem dX9_house_9 : decode cX9_house 9 = .ok (.lconst 0, 1) := by decide +kernel
theorem dX9_house_10 : decode cX9_house 10 = .ok (.ldc2_w 286, 3) := by decide +kernel
theorem dX9_house_13 : decode cX9_house 13 = .ok (.invokestatic 80, 3) := by decide +kernel
theorem dX9_house_16 : decode cX9_house 16 = .ok (.ifCond .eq 16, 3) := by decide +kernel
theorem dX9_house_19 : decode cX9_house 19 = .ok (.iload 4, 2) := by decide +kernel
theorem dX9_house_21 : decode cX9_house 21 = .ok (.i2l, 1) := by decide +kernel
theorem dX9_house_22 : decode cX9_house 22 = .ok (.lconst 0, 1) := by decide +kernel
theorem dX9_house_23 : decode cX9_house 23 = .ok (.ldc2_w 84, 3) := by decide +kernel
theorem dX9_house_26 : decode cX9_house 26 = .ok (.invokestatic 80, 3) := by decide +kernel
theorem dX9_house_29 : decode cX9_house 29 = .ok (.ifCond .ne 6, 3) := by decide +kernel
theorem dX9_house_32 : decode cX9_house 32 = .ok (.bipush (-2), 2) := by decide +kernel
theorem dX9_house_34 : decode cX9_house 34 = .ok (.ireturn, 1) := by decide +kernel
theorem dX9_house_35 : decode cX9_house 35 = .ok (.aload_n 0, 1) := by decide +kernel
theorem dX9_house_36 : decode cX9_house 36 = .ok (.getfield 57, 3) := by decide +kernel
theorem dX9_house_39 : decode cX9_house 39 = .ok (.iload_n 1, 1) := by decide +kernel
theorem dX9_house_40 : decode cX9_house 40 = .ok (.baload, 1) := by decide +kernel
theorem dX9_house_41 : decode cX9_house 41 = .ok (.ifCond .eq 16, 3) := by decide +kernel
theorem dX9_house_44 : decode cX9_house 44 = .ok (.aload_n 0, 1) := by decide +kernel
theorem dX9_house_45 : decode cX9_house 45 = .ok (.getfield 61, 3) := by decide +kernel
theorem dX9_house_48 : decode cX9_house 48 = .ok (.iload_n 1, 1) := by decide +kernel
theorem dX9_house_49 : decode cX9_house 49 = .ok (.iaload, 1) := by decide +kernel
theorem dX9_house_50 : decode cX9_house 50 = .ok (.iload_n 2, 1) := by decide +kernel
theorem dX9_house_51 : decode cX9_house 51 = .ok (.if_icmp .eq 6, 3) := by decide +kernel
theorem dX9_house_54 : decode cX9_house 54 = .ok (.bipush (-13), 2) := by decide +kernel
theorem dX9_house_56 : decode cX9_house 56 = .ok (.ireturn, 1) := by decide +kernel
theorem dX9_house_57 : decode cX9_house 57 = .ok (.aload_n 0, 1) := by decide +kernel
theorem dX9_house_58 : decode cX9_house 58 = .ok (.getfield 57, 3) := by decide +kernel
theorem dX9_house_61 : decode cX9_house 61 = .ok (.iload_n 1, 1) := by decide +kernel
theorem dX9_house_62 : decode cX9_house 62 = .ok (.baload, 1) := by decide +kernel
theorem dX9_house_63 : decode cX9_house 63 = .ok (.ifCond .ne 6, 3) := by decide +kernel
theorem dX9_house_66 : decode cX9_house 66 = .ok (.bipush (-11), 2) := by decide +kernel
theorem dX9_house_68 : decode cX9_house 68 = .ok (.ireturn, 1) := by decide +kernel
theorem dX9_house_69 : decode cX9_house 69 = .ok (.iconst 0, 1) := by decide +kernel
theorem dX9_house_70 : decode cX9_house 70 = .ok (.istore 5, 2) := by decide +kernel
theorem dX9_house_72 : decode cX9_house 72 = .ok (.iconst 0, 1) := by decide +kernel
theorem dX9_house_73 : decode cX9_house 73 = .ok (.istore 6, 2) := by decide +kernel
theorem dX9_house_75 : decode cX9_house 75 = .ok (.iload 6, 2) := by decide +kernel
theorem dX9_house_77 : decode cX9_house 77 = .ok (.iload 4, 2) := by decide +kernel
theorem dX9_house_79 : decode cX9_house 79 = .ok (.if_icmp .ge 88, 3) := by decide +kernel
theorem dX9_house_82 : decode cX9_house 82 = .ok (.iload_n 3, 1) := by decide +kernel
theorem dX9_house_83 : decode cX9_house 83 = .ok (.ifCond .lt 20, 3) := by decide +kernel
theorem dX9_house_86 : decode cX9_house 86 = .ok (.iload_n 3, 1) := by decide +kernel
theorem dX9_house_87 : decode cX9_house 87 = .ok (.aload_n 0, 1) := by decide +kernel
theorem dX9_house_88 : decode cX9_house 88 = .ok (.getfield 64, 3) := by decide +kernel
theorem dX9_house_91 : decode cX9_house 91 = .ok (.iload_n 1, 1) := by decide +kernel
theorem dX9_house_92 : decode cX9_house 92 = .ok (.iaload, 1) := by decide +kernel
theorem dX9_house_93 : decode cX9_house 93 = .ok (.iconst 3, 1) := by decide +kernel
theorem dX9_house_94 : decode cX9_house 94 = .ok (.iload 6, 2) := by decide +kernel
theorem dX9_house_96 : decode cX9_house 96 = .ok (.imul, 1) := by decide +kernel
theorem dX9_house_97 : decode cX9_house 97 = .ok (.isub, 1) := by decide +kernel
theorem dX9_house_98 : decode cX9_house 98 = .ok (.iconst 3, 1) := by decide +kernel
theorem dX9_house_99 : decode cX9_house 99 = .ok (.isub, 1) := by decide +kernel
theorem dX9_house_100 : decode cX9_house 100 = .ok (.if_icmp .le 6, 3) := by decide +kernel
theorem dX9_house_103 : decode cX9_house 103 = .ok (.bipush (-12), 2) := by decide +kernel
theorem dX9_house_105 : decode cX9_house 105 = .ok (.ireturn, 1) := by decide +kernel
theorem dX9_house_106 : decode cX9_house 106 = .ok (.bipush 40, 2) := by decide +kernel
theorem dX9_house_108 : decode cX9_house 108 = .ok (.iload_n 1, 1) := by decide +kernel
theorem dX9_house_109 : decode cX9_house 109 = .ok (.imul, 1) := by decide +kernel
theorem dX9_house_110 : decode cX9_house 110 = .ok (.iload_n 3, 1) := by decide +kernel
theorem dX9_house_111 : decode cX9_house 111 = .ok (.iadd, 1) := by decide +kernel
theorem dX9_house_112 : decode cX9_house 112 = .ok (.iconst 3, 1) := by decide +kernel
theorem dX9_house_113 : decode cX9_house 113 = .ok (.iload 6, 2) := by decide +kernel
theorem dX9_house_115 : decode cX9_house 115 = .ok (.imul, 1) := by decide +kernel
theorem dX9_house_116 : decode cX9_house 116 = .ok (.iadd, 1) := by decide +kernel
theorem dX9_house_117 : decode cX9_house 117 = .ok (.istore 7, 2) := by decide +kernel
theorem dX9_house_119 : decode cX9_house 119 = .ok (.iload 5, 2) := by decide +kernel
theorem dX9_house_121 : decode cX9_house 121 = .ok (.aload_n 0, 1) := by decide +kernel
theorem dX9_house_122 : decode cX9_house 122 = .ok (.aload_n 0, 1) := by decide +kernel
theorem dX9_house_123 : decode cX9_house 123 = .ok (.getfield 67, 3) := by decide +kernel
theorem dX9_house_126 : decode cX9_house 126 = .ok (.iload 7, 2) := by decide +kernel
theorem dX9_house_128 : decode cX9_house 128 = .ok (.iaload, 1) := by decide +kernel
theorem dX9_house_129 : decode cX9_house 129 = .ok (.aload_n 0, 1) := by decide +kernel
theorem dX9_house_130 : decode cX9_house 130 = .ok (.getfield 67, 3) := by decide +kernel
theorem dX9_house_133 : decode cX9_house 133 = .ok (.iload 7, 2) := by decide +kernel
theorem dX9_house_135 : decode cX9_house 135 = .ok (.iconst 1, 1) := by decide +kernel
theorem dX9_house_136 : decode cX9_house 136 = .ok (.iadd, 1) := by decide +kernel
theorem dX9_house_137 : decode cX9_house 137 = .ok (.iaload, 1) := by decide +kernel
theorem dX9_house_138 : decode cX9_house 138 = .ok (.aload_n 0, 1) := by decide +kernel
theorem dX9_house_139 : decode cX9_house 139 = .ok (.getfield 67, 3) := by decide +kernel
theorem dX9_house_142 : decode cX9_house 142 = .ok (.iload 7, 2) := by decide +kernel
theorem dX9_house_144 : decode cX9_house 144 = .ok (.iconst 2, 1) := by decide +kernel
theorem dX9_house_145 : decode cX9_house 145 = .ok (.iadd, 1) := by decide +kernel
theorem dX9_house_146 : decode cX9_house 146 = .ok (.iaload, 1) := by decide +kernel
theorem dX9_house_147 : decode cX9_house 147 = .ok (.invokevirtual 353, 3) := by decide +kernel
theorem dX9_house_150 : decode cX9_house 150 = .ok (.ifCond .lt 7, 3) := by decide +kernel
theorem dX9_house_153 : decode cX9_house 153 = .ok (.iconst 1, 1) := by decide +kernel
theorem dX9_house_154 : decode cX9_house 154 = .ok (.goto 4, 3) := by decide +kernel
theorem dX9_house_157 : decode cX9_house 157 = .ok (.iconst 0, 1) := by decide +kernel
theorem dX9_house_158 : decode cX9_house 158 = .ok (.iadd, 1) := by decide +kernel
theorem dX9_house_159 : decode cX9_house 159 = .ok (.istore 5, 2) := by decide +kernel
theorem dX9_house_161 : decode cX9_house 161 = .ok (.iinc 6 1, 3) := by decide +kernel
theorem dX9_house_164 : decode cX9_house 164 = .ok (.goto (-89), 3) := by decide +kernel
theorem dX9_house_167 : decode cX9_house 167 = .ok (.iload 5, 2) := by decide +kernel
theorem dX9_house_169 : decode cX9_house 169 = .ok (.ireturn, 1) := by decide +kernel
theorem dX9_over_0 : decode cX9_over 0 = .ok (.iload_n 0, 1) := by decide +kernel
theorem dX9_over_1 : decode cX9_over 1 = .ok (.ifCond .ne 7, 3) := by decide +kernel
theorem dX9_over_4 : decode cX9_over 4 = .ok (.iconst (-1), 1) := by decide +kernel
theorem dX9_over_5 : decode cX9_over 5 = .ok (.goto 22, 3) := by decide +kernel
theorem dX9_over_8 : decode cX9_over 8 = .ok (.iload_n 0, 1) := by decide +kernel
theorem dX9_over_9 : decode cX9_over 9 = .ok (.iconst 3, 1) := by decide +kernel
theorem dX9_over_10 : decode cX9_over 10 = .ok (.if_icmp .ne 7, 3) := by decide +kernel
theorem dX9_over_13 : decode cX9_over 13 = .ok (.iconst 1, 1) := by decide +kernel
theorem dX9_over_14 : decode cX9_over 14 = .ok (.goto 13, 3) := by decide +kernel
theorem dX9_over_17 : decode cX9_over 17 = .ok (.iload_n 0, 1) := by decide +kernel
theorem dX9_over_18 : decode cX9_over 18 = .ok (.iconst 4, 1) := by decide +kernel
theorem dX9_over_19 : decode cX9_over 19 = .ok (.if_icmp .ne 7, 3) := by decide +kernel
theorem dX9_over_22 : decode cX9_over 22 = .ok (.iconst 2, 1) := by decide +kernel
theorem dX9_over_23 : decode cX9_over 23 = .ok (.goto 4, 3) := by decide +kernel
theorem dX9_over_26 : decode cX9_over 26 = .ok (.iconst 0, 1) := by decide +kernel
theorem dX9_over_27 : decode cX9_over 27 = .ok (.ireturn, 1) := by decide +kernel
theorem dX9_taken_0 : decode cX9_taken 0 = .ok (.iload_n 2, 1) := by decide +kernel
theorem dX9_taken_1 : decode cX9_taken 1 = .ok (.i2l, 1) := by decide +kernel
theorem dX9_taken_2 : decode cX9_taken 2 = .ok (.lconst 0, 1) := by decide +kernel
theorem dX9_taken_3 : decode cX9_taken 3 = .ok (.ldc2_w 84, 3) := by decide +kernel
theorem dX9_taken_6 : decode cX9_taken 6 = .ok (.invokestatic 80, 3) := by decide +kernel
theorem dX9_taken_9 : decode cX9_taken 9 = .ok (.ifCond .ne 6, 3) := by decide +kernel
theorem dX9_taken_12 : decode cX9_taken 12 = .ok (.bipush (-2), 2) := by decide +kernel
theorem dX9_taken_14 : decode cX9_taken 14 = .ok (.ireturn, 1) := by decide +kernel
theorem dX9_taken_15 : decode cX9_taken 15 = .ok (.aload_n 0, 1) := by decide +kernel
theorem dX9_taken_16 : decode cX9_taken 16 = .ok (.iload_n 1, 1) := by decide +kernel
theorem dX9_taken_17 : decode cX9_taken 17 = .ok (.invokevirtual 90, 3) := by decide +kernel
theorem dX9_taken_20 : decode cX9_taken 20 = .ok (.ifCond .ne 6, 3) := by decide +kernel
theorem dX9_taken_23 : decode cX9_taken 23 = .ok (.bipush (-11), 2) := by decide +kernel
theorem dX9_taken_25 : decode cX9_taken 25 = .ok (.ireturn, 1) := by decide +kernel
theorem dX9_taken_26 : decode cX9_taken 26 = .ok (.aload_n 0, 1) := by decide +kernel
theorem dX9_taken_27 : decode cX9_taken 27 = .ok (.getfield 23, 3) := by decide +kernel
theorem dX9_taken_30 : decode cX9_taken 30 = .ok (.iload_n 1, 1) := by decide +kernel
theorem dX9_taken_31 : decode cX9_taken 31 = .ok (.iaload, 1) := by decide +kernel
theorem dX9_taken_32 : decode cX9_taken 32 = .ok (.istore_n 3, 1) := by decide +kernel
theorem dX9_taken_33 : decode cX9_taken 33 = .ok (.iload_n 3, 1) := by decide +kernel
theorem dX9_taken_34 : decode cX9_taken 34 = .ok (.iconst (-1), 1) := by decide +kernel
theorem dX9_taken_35 : decode cX9_taken 35 = .ok (.if_icmp .eq 16, 3) := by decide +kernel
theorem dX9_taken_38 : decode cX9_taken 38 = .ok (.iload_n 3, 1) := by decide +kernel
theorem dX9_taken_39 : decode cX9_taken 39 = .ok (.iload_n 2, 1) := by decide +kernel
theorem dX9_taken_40 : decode cX9_taken 40 = .ok (.if_icmp .eq 11, 3) := by decide +kernel
theorem dX9_taken_43 : decode cX9_taken 43 = .ok (.iload_n 3, 1) := by decide +kernel
theorem dX9_taken_44 : decode cX9_taken 44 = .ok (.invokestatic 356, 3) := by decide +kernel
theorem dX9_taken_47 : decode cX9_taken 47 = .ok (.istore_n 3, 1) := by decide +kernel
theorem dX9_taken_48 : decode cX9_taken 48 = .ok (.goto (-15), 3) := by decide +kernel
theorem dX9_taken_51 : decode cX9_taken 51 = .ok (.iload_n 3, 1) := by decide +kernel
theorem dX9_taken_52 : decode cX9_taken 52 = .ok (.iload_n 2, 1) := by decide +kernel
theorem dX9_taken_53 : decode cX9_taken 53 = .ok (.if_icmp .ne 14, 3) := by decide +kernel
theorem dX9_taken_56 : decode cX9_taken 56 = .ok (.aload_n 0, 1) := by decide +kernel
theorem dX9_taken_57 : decode cX9_taken 57 = .ok (.getfield 26, 3) := by decide +kernel
theorem dX9_taken_60 : decode cX9_taken 60 = .ok (.iconst 3, 1) := by decide +kernel
theorem dX9_taken_61 : decode cX9_taken 61 = .ok (.iload_n 1, 1) := by decide +kernel
theorem dX9_taken_62 : decode cX9_taken 62 = .ok (.imul, 1) := by decide +kernel
theorem dX9_taken_63 : decode cX9_taken 63 = .ok (.iaload, 1) := by decide +kernel
theorem dX9_taken_64 : decode cX9_taken 64 = .ok (.goto 5, 3) := by decide +kernel
theorem dX9_taken_67 : decode cX9_taken 67 = .ok (.bipush (-13), 2) := by decide +kernel
theorem dX9_taken_69 : decode cX9_taken 69 = .ok (.ireturn, 1) := by decide +kernel
