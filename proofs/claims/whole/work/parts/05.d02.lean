theorem dX5_become_6 : decode cX5_become 6 = .ok (.iconst 0, 1) := by decide +kernel
theorem dX5_become_7 : decode cX5_become 7 = .ok (.bipush 40, 2) := by decide +kernel
theorem dX5_become_9 : decode cX5_become 9 = .ok (.iload_n 2, 1) := by decide +kernel
theorem dX5_become_10 : decode cX5_become 10 = .ok (.invokestatic 17, 3) := by decide +kernel
theorem dX5_become_13 : decode cX5_become 13 = .ok (.invokestatic 23, 3) := by decide +kernel
theorem dX5_become_16 : decode cX5_become 16 = .ok (.putfield 26, 3) := by decide +kernel
theorem dX5_become_19 : decode cX5_become 19 = .ok (.iconst 0, 1) := by decide +kernel
theorem dX5_become_20 : decode cX5_become 20 = .ok (.istore_n 3, 1) := by decide +kernel
theorem dX5_become_21 : decode cX5_become 21 = .ok (.iload_n 3, 1) := by decide +kernel
theorem dX5_become_22 : decode cX5_become 22 = .ok (.bipush 40, 2) := by decide +kernel
theorem dX5_become_24 : decode cX5_become 24 = .ok (.if_icmp .ge 16, 3) := by decide +kernel
theorem dX5_become_27 : decode cX5_become 27 = .ok (.aload_n 0, 1) := by decide +kernel
theorem dX5_become_28 : decode cX5_become 28 = .ok (.getfield 13, 3) := by decide +kernel
theorem dX5_become_31 : decode cX5_become 31 = .ok (.iload_n 3, 1) := by decide +kernel
theorem dX5_become_32 : decode cX5_become 32 = .ok (.iconst 0, 1) := by decide +kernel
theorem dX5_become_33 : decode cX5_become 33 = .ok (.iastore, 1) := by decide +kernel
theorem dX5_become_34 : decode cX5_become 34 = .ok (.iinc 3 1, 3) := by decide +kernel
theorem dX5_become_37 : decode cX5_become 37 = .ok (.goto (-16), 3) := by decide +kernel
theorem dX5_become_40 : decode cX5_become 40 = .ok (.return_, 1) := by decide +kernel
theorem dX5_hasRange_0 : decode cX5_hasRange 0 = .ok (.iload_n 1, 1) := by decide +kernel
theorem dX5_hasRange_1 : decode cX5_hasRange 1 = .ok (.ifCond .lt 21, 3) := by decide +kernel
theorem dX5_hasRange_4 : decode cX5_hasRange 4 = .ok (.iload_n 2, 1) := by decide +kernel
theorem dX5_hasRange_5 : decode cX5_hasRange 5 = .ok (.ifCond .lt 17, 3) := by decide +kernel
theorem dX5_hasRange_8 : decode cX5_hasRange 8 = .ok (.iload_n 1, 1) := by decide +kernel
theorem dX5_hasRange_9 : decode cX5_hasRange 9 = .ok (.aload_n 0, 1) := by decide +kernel
theorem dX5_hasRange_10 : decode cX5_hasRange 10 = .ok (.getfield 26, 3) := by decide +kernel
theorem dX5_hasRange_13 : decode cX5_hasRange 13 = .ok (.iload_n 2, 1) := by decide +kernel
theorem dX5_hasRange_14 : decode cX5_hasRange 14 = .ok (.isub, 1) := by decide +kernel
theorem dX5_hasRange_15 : decode cX5_hasRange 15 = .ok (.if_icmp .gt 7, 3) := by decide +kernel
theorem dX5_hasRange_18 : decode cX5_hasRange 18 = .ok (.iconst 1, 1) := by decide +kernel
theorem dX5_hasRange_19 : decode cX5_hasRange 19 = .ok (.goto 4, 3) := by decide +kernel
theorem dX5_hasRange_22 : decode cX5_hasRange 22 = .ok (.iconst 0, 1) := by decide +kernel
theorem dX5_hasRange_23 : decode cX5_hasRange 23 = .ok (.ireturn, 1) := by decide +kernel
theorem dX5_put_0 : decode cX5_put 0 = .ok (.aload_n 0, 1) := by decide +kernel
theorem dX5_put_1 : decode cX5_put 1 = .ok (.iload_n 1, 1) := by decide +kernel
theorem dX5_put_2 : decode cX5_put 2 = .ok (.iconst 1, 1) := by decide +kernel
theorem dX5_put_3 : decode cX5_put 3 = .ok (.invokevirtual 29, 3) := by decide +kernel
theorem dX5_put_6 : decode cX5_put 6 = .ok (.ifCond .ne 5, 3) := by decide +kernel
theorem dX5_put_9 : decode cX5_put 9 = .ok (.iconst 0, 1) := by decide +kernel
theorem dX5_put_10 : decode cX5_put 10 = .ok (.ireturn, 1) := by decide +kernel
theorem dX5_put_11 : decode cX5_put 11 = .ok (.aload_n 0, 1) := by decide +kernel
theorem dX5_put_12 : decode cX5_put 12 = .ok (.getfield 9, 3) := by decide +kernel
theorem dX5_put_15 : decode cX5_put 15 = .ok (.ifCond .ne 14, 3) := by decide +kernel
theorem dX5_put_18 : decode cX5_put 18 = .ok (.aload_n 0, 1) := by decide +kernel
theorem dX5_put_19 : decode cX5_put 19 = .ok (.getfield 13, 3) := by decide +kernel
theorem dX5_put_22 : decode cX5_put 22 = .ok (.iload_n 1, 1) := by decide +kernel
theorem dX5_put_23 : decode cX5_put 23 = .ok (.iload_n 2, 1) := by decide +kernel
theorem dX5_put_24 : decode cX5_put 24 = .ok (.i2b, 1) := by decide +kernel
theorem dX5_put_25 : decode cX5_put 25 = .ok (.iastore, 1) := by decide +kernel
theorem dX5_put_26 : decode cX5_put 26 = .ok (.goto 23, 3) := by decide +kernel
theorem dX5_put_29 : decode cX5_put 29 = .ok (.aload_n 0, 1) := by decide +kernel
theorem dX5_put_30 : decode cX5_put 30 = .ok (.getfield 13, 3) := by decide +kernel
theorem dX5_put_33 : decode cX5_put 33 = .ok (.iload_n 1, 1) := by decide +kernel
theorem dX5_put_34 : decode cX5_put 34 = .ok (.aload_n 0, 1) := by decide +kernel
theorem dX5_put_35 : decode cX5_put 35 = .ok (.getfield 9, 3) := by decide +kernel
theorem dX5_put_38 : decode cX5_put 38 = .ok (.iconst 1, 1) := by decide +kernel
theorem dX5_put_39 : decode cX5_put 39 = .ok (.if_icmp .ne 8, 3) := by decide +kernel
theorem dX5_put_42 : decode cX5_put 42 = .ok (.iload_n 2, 1) := by decide +kernel
theorem dX5_put_43 : decode cX5_put 43 = .ok (.i2s, 1) := by decide +kernel
theorem dX5_put_44 : decode cX5_put 44 = .ok (.goto 4, 3) := by decide +kernel
theorem dX5_put_47 : decode cX5_put 47 = .ok (.iload_n 2, 1) := by decide +kernel
theorem dX5_put_48 : decode cX5_put 48 = .ok (.iastore, 1) := by decide +kernel
theorem dX5_put_49 : decode cX5_put 49 = .ok (.iconst 1, 1) := by decide +kernel
theorem dX5_put_50 : decode cX5_put 50 = .ok (.ireturn, 1) := by decide +kernel
theorem dX6_init_0 : decode cX6_init 0 = .ok (.aload_n 0, 1) := by decide +kernel
theorem dX6_init_1 : decode cX6_init 1 = .ok (.invokespecial 3, 3) := by decide +kernel
theorem dX6_init_4 : decode cX6_init 4 = .ok (.aload_n 0, 1) := by decide +kernel
theorem dX6_init_5 : decode cX6_init 5 = .ok (.sipush 160, 3) := by decide +kernel
theorem dX6_init_8 : decode cX6_init 8 = .ok (.newarray .int, 2) := by decide +kernel
theorem dX6_init_10 : decode cX6_init 10 = .ok (.putfield 9, 3) := by decide +kernel
theorem dX6_init_13 : decode cX6_init 13 = .ok (.aload_n 0, 1) := by decide +kernel
theorem dX6_init_14 : decode cX6_init 14 = .ok (.iconst 3, 1) := by decide +kernel
theorem dX6_init_15 : decode cX6_init 15 = .ok (.newarray .int, 2) := by decide +kernel
theorem dX6_init_17 : decode cX6_init 17 = .ok (.putfield 15, 3) := by decide +kernel
theorem dX6_init_20 : decode cX6_init 20 = .ok (.return_, 1) := by decide +kernel
theorem dX6_clear_0 : decode cX6_clear 0 = .ok (.aload_n 0, 1) := by decide +kernel
theorem dX6_clear_1 : decode cX6_clear 1 = .ok (.iconst 0, 1) := by decide +kernel
theorem dX6_clear_2 : decode cX6_clear 2 = .ok (.putfield 18, 3) := by decide +kernel
theorem dX6_clear_5 : decode cX6_clear 5 = .ok (.return_, 1) := by decide +kernel
theorem dX6_add_0 : decode cX6_add 0 = .ok (.aload_n 0, 1) := by decide +kernel
theorem dX6_add_1 : decode cX6_add 1 = .ok (.getfield 18, 3) := by decide +kernel
theorem dX6_add_4 : decode cX6_add 4 = .ok (.sipush 160, 3) := by decide +kernel
theorem dX6_add_7 : decode cX6_add 7 = .ok (.if_icmp .ge 23, 3) := by decide +kernel
theorem dX6_add_10 : decode cX6_add 10 = .ok (.aload_n 0, 1) := by decide +kernel
theorem dX6_add_11 : decode cX6_add 11 = .ok (.getfield 9, 3) := by decide +kernel
theorem dX6_add_14 : decode cX6_add 14 = .ok (.aload_n 0, 1) := by decide +kernel
theorem dX6_add_15 : decode cX6_add 15 = .ok (.getfield 18, 3) := by decide +kernel
theorem dX6_add_18 : decode cX6_add 18 = .ok (.iload_n 1, 1) := by decide +kernel
theorem dX6_add_19 : decode cX6_add 19 = .ok (.iastore, 1) := by decide +kernel
theorem dX6_add_20 : decode cX6_add 20 = .ok (.aload_n 0, 1) := by decide +kernel
theorem dX6_add_21 : decode cX6_add 21 = .ok (.dup, 1) := by decide +kernel
theorem dX6_add_22 : decode cX6_add 22 = .ok (.getfield 18, 3) := by decide +kernel
theorem dX6_add_25 : decode cX6_add 25 = .ok (.iconst 1, 1) := by decide +kernel
theorem dX6_add_26 : decode cX6_add 26 = .ok (.iadd, 1) := by decide +kernel
theorem dX6_add_27 : decode cX6_add 27 = .ok (.putfield 18, 3) := by decide +kernel
theorem dX6_add_30 : decode cX6_add 30 = .ok (.return_, 1) := by decide +kernel
theorem dX6_endPart_0 : decode cX6_endPart 0 = .ok (.iload_n 1, 1) := by decide +kernel
theorem dX6_endPart_1 : decode cX6_endPart 1 = .ok (.ifCond .lt 18, 3) := by decide +kernel
theorem dX6_endPart_4 : decode cX6_endPart 4 = .ok (.iload_n 1, 1) := by decide +kernel
theorem dX6_endPart_5 : decode cX6_endPart 5 = .ok (.iconst 3, 1) := by decide +kernel
theorem dX6_endPart_6 : decode cX6_endPart 6 = .ok (.if_icmp .ge 13, 3) := by decide +kernel
theorem dX6_endPart_9 : decode cX6_endPart 9 = .ok (.aload_n 0, 1) := by decide +kernel
theorem dX6_endPart_10 : decode cX6_endPart 10 = .ok (.getfield 15, 3) := by decide +kernel
theorem dX6_endPart_13 : decode cX6_endPart 13 = .ok (.iload_n 1, 1) := by decide +kernel
theorem dX6_endPart_14 : decode cX6_endPart 14 = .ok (.aload_n 0, 1) := by decide +kernel
theorem dX6_endPart_15 : decode cX6_endPart 15 = .ok (.getfield 18, 3) := by decide +kernel
theorem dX6_endPart_18 : decode cX6_endPart 18 = .ok (.iastore, 1) := by decide +kernel
theorem dX6_endPart_19 : decode cX6_endPart 19 = .ok (.return_, 1) := by decide +kernel
theorem dX6_beFirst_0 : decode cX6_beFirst 0 = .ok (.aload_n 0, 1) := by decide +kernel
theorem dX6_beFirst_1 : decode cX6_beFirst 1 = .ok (.invokevirtual 22, 3) := by decide +kernel
theorem dX6_beFirst_4 : decode cX6_beFirst 4 = .ok (.aload_n 0, 1) := by decide +kernel
theorem dX6_beFirst_5 : decode cX6_beFirst 5 = .ok (.iconst 1, 1) := by decide +kernel
theorem dX6_beFirst_6 : decode cX6_beFirst 6 = .ok (.invokevirtual 25, 3) := by decide +kernel
theorem dX6_beFirst_9 : decode cX6_beFirst 9 = .ok (.aload_n 0, 1) := by decide +kernel
theorem dX6_beFirst_10 : decode cX6_beFirst 10 = .ok (.sipush (-262), 3) := by decide +kernel
theorem dX6_beFirst_13 : decode cX6_beFirst 13 = .ok (.invokevirtual 25, 3) := by decide +kernel
theorem dX6_beFirst_16 : decode cX6_beFirst 16 = .ok (.aload_n 0, 1) := by decide +kernel
theorem dX6_beFirst_17 : decode cX6_beFirst 17 = .ok (.bipush (-43), 2) := by decide +kernel
theorem dX6_beFirst_19 : decode cX6_beFirst 19 = .ok (.invokevirtual 25, 3) := by decide +kernel
theorem dX6_beFirst_22 : decode cX6_beFirst 22 = .ok (.aload_n 0, 1) := by decide +kernel
theorem dX6_beFirst_23 : decode cX6_beFirst 23 = .ok (.iconst 0, 1) := by decide +kernel
theorem dX6_beFirst_24 : decode cX6_beFirst 24 = .ok (.invokevirtual 31, 3) := by decide +kernel
theorem dX6_beFirst_27 : decode cX6_beFirst 27 = .ok (.aload_n 0, 1) := by decide +kernel
theorem dX6_beFirst_28 : decode cX6_beFirst 28 = .ok (.iconst 1, 1) := by decide +kernel
theorem dX6_beFirst_29 : decode cX6_beFirst 29 = .ok (.invokevirtual 25, 3) := by decide +kernel
theorem dX6_beFirst_32 : decode cX6_beFirst 32 = .ok (.aload_n 0, 1) := by decide +kernel
theorem dX6_beFirst_33 : decode cX6_beFirst 33 = .ok (.iconst 1, 1) := by decide +kernel
theorem dX6_beFirst_34 : decode cX6_beFirst 34 = .ok (.invokevirtual 31, 3) := by decide +kernel
theorem dX6_beFirst_37 : decode cX6_beFirst 37 = .ok (.aload_n 0, 1) := by decide +kernel
theorem dX6_beFirst_38 : decode cX6_beFirst 38 = .ok (.iconst 0, 1) := by decide +kernel
theorem dX6_beFirst_39 : decode cX6_beFirst 39 = .ok (.invokevirtual 25, 3) := by decide +kernel
theorem dX6_beFirst_42 : decode cX6_beFirst 42 = .ok (.aload_n 0, 1) := by decide +kernel
theorem dX6_beFirst_43 : decode cX6_beFirst 43 = .ok (.iconst 2, 1) := by decide +kernel
theorem dX6_beFirst_44 : decode cX6_beFirst 44 = .ok (.invokevirtual 31, 3) := by decide +kernel
theorem dX6_beFirst_47 : decode cX6_beFirst 47 = .ok (.return_, 1) := by decide +kernel
theorem dX6_value_0 : decode cX6_value 0 = .ok (.iload_n 1, 1) := by decide +kernel
theorem dX6_value_1 : decode cX6_value 1 = .ok (.ifCond .lt 24, 3) := by decide +kernel
theorem dX6_value_4 : decode cX6_value 4 = .ok (.iload_n 1, 1) := by decide +kernel
theorem dX6_value_5 : decode cX6_value 5 = .ok (.iconst 3, 1) := by decide +kernel
theorem dX6_value_6 : decode cX6_value 6 = .ok (.if_icmp .ge 19, 3) := by decide +kernel
theorem dX6_value_9 : decode cX6_value 9 = .ok (.aload 5, 2) := by decide +kernel
theorem dX6_value_11 : decode cX6_value 11 = .ok (.arraylength, 1) := by decide +kernel
theorem dX6_value_12 : decode cX6_value 12 = .ok (.bipush 32, 2) := by decide +kernel
theorem dX6_value_14 : decode cX6_value 14 = .ok (.if_icmp .lt 11, 3) := by decide +kernel
theorem dX6_value_17 : decode cX6_value 17 = .ok (.aload_n 2, 1) := by decide +kernel
theorem dX6_value_18 : decode cX6_value 18 = .ok (.iload_n 3, 1) := by decide +kernel
theorem dX6_value_19 : decode cX6_value 19 = .ok (.invokevirtual 34, 3) := by decide +kernel
theorem dX6_value_22 : decode cX6_value 22 = .ok (.ifCond .ne 5, 3) := by decide +kernel
theorem dX6_value_25 : decode cX6_value 25 = .ok (.iconst 0, 1) := by decide +kernel
theorem dX6_value_26 : decode cX6_value 26 = .ok (.ireturn, 1) := by decide +kernel
theorem dX6_value_27 : decode cX6_value 27 = .ok (.iconst 0, 1) := by decide +kernel
theorem dX6_value_28 : decode cX6_value 28 = .ok (.istore 6, 2) := by decide +kernel
theorem dX6_value_30 : decode cX6_value 30 = .ok (.iload_n 1, 1) := by decide +kernel
theorem dX6_value_31 : decode cX6_value 31 = .ok (.ifCond .ne 7, 3) := by decide +kernel
theorem dX6_value_34 : decode cX6_value 34 = .ok (.iconst 0, 1) := by decide +kernel
theorem dX6_value_35 : decode cX6_value 35 = .ok (.goto 11, 3) := by decide +kernel
theorem dX6_value_38 : decode cX6_value 38 = .ok (.aload_n 0, 1) := by decide +kernel
theorem dX6_value_39 : decode cX6_value 39 = .ok (.getfield 15, 3) := by decide +kernel
theorem dX6_value_42 : decode cX6_value 42 = .ok (.iload_n 1, 1) := by decide +kernel
theorem dX6_value_43 : decode cX6_value 43 = .ok (.iconst 1, 1) := by decide +kernel
theorem dX6_value_44 : decode cX6_value 44 = .ok (.isub, 1) := by decide +kernel
theorem dX6_value_45 : decode cX6_value 45 = .ok (.iaload, 1) := by decide +kernel
theorem dX6_value_46 : decode cX6_value 46 = .ok (.istore 7, 2) := by decide +kernel
theorem dX6_value_48 : decode cX6_value 48 = .ok (.iload 7, 2) := by decide +kernel
theorem dX6_value_50 : decode cX6_value 50 = .ok (.aload_n 0, 1) := by decide +kernel
theorem dX6_value_51 : decode cX6_value 51 = .ok (.getfield 15, 3) := by decide +kernel
theorem dX6_value_54 : decode cX6_value 54 = .ok (.iload_n 1, 1) := by decide +kernel
theorem dX6_value_55 : decode cX6_value 55 = .ok (.iaload, 1) := by decide +kernel
theorem dX6_value_56 : decode cX6_value 56 = .ok (.if_icmp .ge 148, 3) := by decide +kernel
theorem dX6_value_59 : decode cX6_value 59 = .ok (.aload_n 0, 1) := by decide +kernel
theorem dX6_value_60 : decode cX6_value 60 = .ok (.getfield 9, 3) := by decide +kernel
theorem dX6_value_63 : decode cX6_value 63 = .ok (.iload 7, 2) := by decide +kernel
theorem dX6_value_65 : decode cX6_value 65 = .ok (.iaload, 1) := by decide +kernel
theorem dX6_value_66 : decode cX6_value 66 = .ok (.istore 8, 2) := by decide +kernel
theorem dX6_value_68 : decode cX6_value 68 = .ok (.iload 8, 2) := by decide +kernel
theorem dX6_value_70 : decode cX6_value 70 = .ok (.ifCond .ge 12, 3) := by decide +kernel
theorem dX6_value_73 : decode cX6_value 73 = .ok (.iload 8, 2) := by decide +kernel
theorem dX6_value_75 : decode cX6_value 75 = .ok (.ineg, 1) := by decide +kernel
theorem dX6_value_76 : decode cX6_value 76 = .ok (.invokestatic 40, 3) := by decide +kernel
theorem dX6_value_79 : decode cX6_value 79 = .ok (.ifCond .eq 41, 3) := by decide +kernel
theorem dX6_value_82 : decode cX6_value 82 = .ok (.iload 6, 2) := by decide +kernel
theorem dX6_value_84 : decode cX6_value 84 = .ok (.bipush 32, 2) := by decide +kernel
theorem dX6_value_86 : decode cX6_value 86 = .ok (.if_icmp .ge 112, 3) := by decide +kernel
theorem dX6_value_89 : decode cX6_value 89 = .ok (.aload 5, 2) := by decide +kernel
theorem dX6_value_91 : decode cX6_value 91 = .ok (.iload 6, 2) := by decide +kernel
theorem dX6_value_93 : decode cX6_value 93 = .ok (.iload 8, 2) := by decide +kernel
theorem dX6_value_95 : decode cX6_value 95 = .ok (.ifCond .lt 8, 3) := by decide +kernel
theorem dX6_value_98 : decode cX6_value 98 = .ok (.iload 8, 2) := by decide +kernel
theorem dX6_value_100 : decode cX6_value 100 = .ok (.goto 13, 3) := by decide +kernel
theorem dX6_value_103 : decode cX6_value 103 = .ok (.iload 8, 2) := by decide +kernel
theorem dX6_value_105 : decode cX6_value 105 = .ok (.ineg, 1) := by decide +kernel
theorem dX6_value_106 : decode cX6_value 106 = .ok (.aload_n 2, 1) := by decide +kernel
theorem dX6_value_107 : decode cX6_value 107 = .ok (.iload_n 3, 1) := by decide +kernel
theorem dX6_value_108 : decode cX6_value 108 = .ok (.iload 4, 2) := by decide +kernel
theorem dX6_value_110 : decode cX6_value 110 = .ok (.invokestatic 43, 3) := by decide +kernel
theorem dX6_value_113 : decode cX6_value 113 = .ok (.iastore, 1) := by decide +kernel
theorem dX6_value_114 : decode cX6_value 114 = .ok (.iinc 6 1, 3) := by decide +kernel
theorem dX6_value_117 : decode cX6_value 117 = .ok (.goto 81, 3) := by decide +kernel
theorem dX6_value_120 : decode cX6_value 120 = .ok (.iload 8, 2) := by decide +kernel
theorem dX6_value_122 : decode cX6_value 122 = .ok (.sipush (-261), 3) := by decide +kernel
theorem dX6_value_125 : decode cX6_value 125 = .ok (.if_icmp .eq 11, 3) := by decide +kernel
theorem dX6_value_128 : decode cX6_value 128 = .ok (.iload 8, 2) := by decide +kernel
theorem dX6_value_130 : decode cX6_value 130 = .ok (.sipush (-271), 3) := by decide +kernel
theorem dX6_value_133 : decode cX6_value 133 = .ok (.if_icmp .ne 31, 3) := by decide +kernel
theorem dX6_value_136 : decode cX6_value 136 = .ok (.iload 6, 2) := by decide +kernel
theorem dX6_value_138 : decode cX6_value 138 = .ok (.iconst 1, 1) := by decide +kernel
theorem dX6_value_139 : decode cX6_value 139 = .ok (.if_icmp .lt 59, 3) := by decide +kernel
theorem dX6_value_142 : decode cX6_value 142 = .ok (.aload 5, 2) := by decide +kernel
theorem dX6_value_144 : decode cX6_value 144 = .ok (.iload 6, 2) := by decide +kernel
theorem dX6_value_146 : decode cX6_value 146 = .ok (.iconst 1, 1) := by decide +kernel
theorem dX6_value_147 : decode cX6_value 147 = .ok (.isub, 1) := by decide +kernel
theorem dX6_value_148 : decode cX6_value 148 = .ok (.iload 8, 2) := by decide +kernel
theorem dX6_value_150 : decode cX6_value 150 = .ok (.aload 5, 2) := by decide +kernel
theorem dX6_value_152 : decode cX6_value 152 = .ok (.iload 6, 2) := by decide +kernel
theorem dX6_value_154 : decode cX6_value 154 = .ok (.iconst 1, 1) := by decide +kernel
theorem dX6_value_155 : decode cX6_value 155 = .ok (.isub, 1) := by decide +kernel
theorem dX6_value_156 : decode cX6_value 156 = .ok (.iaload, 1) := by decide +kernel
theorem dX6_value_157 : decode cX6_value 157 = .ok (.invokestatic 47, 3) := by decide +kernel
theorem dX6_value_160 : decode cX6_value 160 = .ok (.iastore, 1) := by decide +kernel
theorem dX6_value_161 : decode cX6_value 161 = .ok (.goto 37, 3) := by decide +kernel
theorem dX6_value_164 : decode cX6_value 164 = .ok (.iload 6, 2) := by decide +kernel
theorem dX6_value_166 : decode cX6_value 166 = .ok (.iconst 2, 1) := by decide +kernel
theorem dX6_value_167 : decode cX6_value 167 = .ok (.if_icmp .lt 31, 3) := by decide +kernel
theorem dX6_value_170 : decode cX6_value 170 = .ok (.iinc 6 (-1), 3) := by decide +kernel
theorem dX6_value_173 : decode cX6_value 173 = .ok (.aload 5, 2) := by decide +kernel
theorem dX6_value_175 : decode cX6_value 175 = .ok (.iload 6, 2) := by decide +kernel
theorem dX6_value_177 : decode cX6_value 177 = .ok (.iconst 1, 1) := by decide +kernel
theorem dX6_value_178 : decode cX6_value 178 = .ok (.isub, 1) := by decide +kernel
theorem dX6_value_179 : decode cX6_value 179 = .ok (.iload 8, 2) := by decide +kernel
theorem dX6_value_181 : decode cX6_value 181 = .ok (.ineg, 1) := by decide +kernel
theorem dX6_value_182 : decode cX6_value 182 = .ok (.aload 5, 2) := by decide +kernel
theorem dX6_value_184 : decode cX6_value 184 = .ok (.iload 6, 2) := by decide +kernel
theorem dX6_value_186 : decode cX6_value 186 = .ok (.iconst 1, 1) := by decide +kernel
theorem dX6_value_187 : decode cX6_value 187 = .ok (.isub, 1) := by decide +kernel
theorem dX6_value_188 : decode cX6_value 188 = .ok (.iaload, 1) := by decide +kernel
theorem dX6_value_189 : decode cX6_value 189 = .ok (.aload 5, 2) := by decide +kernel
theorem dX6_value_191 : decode cX6_value 191 = .ok (.iload 6, 2) := by decide +kernel
theorem dX6_value_193 : decode cX6_value 193 = .ok (.iaload, 1) := by decide +kernel
theorem dX6_value_194 : decode cX6_value 194 = .ok (.invokestatic 51, 3) := by decide +kernel
theorem dX6_value_197 : decode cX6_value 197 = .ok (.iastore, 1) := by decide +kernel
theorem dX6_value_198 : decode cX6_value 198 = .ok (.iinc 7 1, 3) := by decide +kernel
theorem dX6_value_201 : decode cX6_value 201 = .ok (.goto (-153), 3) := by decide +kernel
theorem dX6_value_204 : decode cX6_value 204 = .ok (.iload 6, 2) := by decide +kernel
theorem dX6_value_206 : decode cX6_value 206 = .ok (.iconst 1, 1) := by decide +kernel
theorem dX6_value_207 : decode cX6_value 207 = .ok (.if_icmp .ne 10, 3) := by decide +kernel
theorem dX6_value_210 : decode cX6_value 210 = .ok (.aload 5, 2) := by decide +kernel
theorem dX6_value_212 : decode cX6_value 212 = .ok (.iconst 0, 1) := by decide +kernel
theorem dX6_value_213 : decode cX6_value 213 = .ok (.iaload, 1) := by decide +kernel
theorem dX6_value_214 : decode cX6_value 214 = .ok (.goto 4, 3) := by decide +kernel
theorem dX6_value_217 : decode cX6_value 217 = .ok (.iconst 0, 1) := by decide +kernel
theorem dX6_value_218 : decode cX6_value 218 = .ok (.ireturn, 1) := by decide +kernel
theorem dX6_named_0 : decode cX6_named 0 = .ok (.iload_n 0, 1) := by decide +kernel
theorem dX6_named_1 : decode cX6_named 1 = .ok (.tableswitch 63 262 266 #[35, 42, 49, 54, 61], 35) := by decide +kernel
theorem dX6_named_36 : decode cX6_named 36 = .ok (.aload_n 1, 1) := by decide +kernel
theorem dX6_named_37 : decode cX6_named 37 = .ok (.getfield 55, 3) := by decide +kernel
theorem dX6_named_40 : decode cX6_named 40 = .ok (.iload_n 2, 1) := by decide +kernel
theorem dX6_named_41 : decode cX6_named 41 = .ok (.iaload, 1) := by decide +kernel
theorem dX6_named_42 : decode cX6_named 42 = .ok (.ireturn, 1) := by decide +kernel
theorem dX6_named_43 : decode cX6_named 43 = .ok (.aload_n 1, 1) := by decide +kernel
theorem dX6_named_44 : decode cX6_named 44 = .ok (.getfield 58, 3) := by decide +kernel
theorem dX6_named_47 : decode cX6_named 47 = .ok (.iload_n 2, 1) := by decide +kernel
theorem dX6_named_48 : decode cX6_named 48 = .ok (.iaload, 1) := by decide +kernel
theorem dX6_named_49 : decode cX6_named 49 = .ok (.ireturn, 1) := by decide +kernel
theorem dX6_named_50 : decode cX6_named 50 = .ok (.aload_n 1, 1) := by decide +kernel
theorem dX6_named_51 : decode cX6_named 51 = .ok (.getfield 61, 3) := by decide +kernel
theorem dX6_named_54 : decode cX6_named 54 = .ok (.ireturn, 1) := by decide +kernel
theorem dX6_named_55 : decode cX6_named 55 = .ok (.aload_n 1, 1) := by decide +kernel
theorem dX6_named_56 : decode cX6_named 56 = .ok (.getfield 64, 3) := by decide +kernel
theorem dX6_named_59 : decode cX6_named 59 = .ok (.iload_n 2, 1) := by decide +kernel
theorem dX6_named_60 : decode cX6_named 60 = .ok (.iaload, 1) := by decide +kernel
theorem dX6_named_61 : decode cX6_named 61 = .ok (.ireturn, 1) := by decide +kernel
theorem dX6_named_62 : decode cX6_named 62 = .ok (.iload_n 3, 1) := by decide +kernel
theorem dX6_named_63 : decode cX6_named 63 = .ok (.ireturn, 1) := by decide +kernel
theorem dX6_named_64 : decode cX6_named 64 = .ok (.aload_n 1, 1) := by decide +kernel
theorem dX6_named_65 : decode cX6_named 65 = .ok (.getfield 67, 3) := by decide +kernel
theorem dX6_named_68 : decode cX6_named 68 = .ok (.ireturn, 1) := by decide +kernel
theorem dX6_ofOne_0 : decode cX6_ofOne 0 = .ok (.iload_n 0, 1) := by decide +kernel
theorem dX6_ofOne_1 : decode cX6_ofOne 1 = .ok (.sipush (-271), 3) := by decide +kernel
theorem dX6_ofOne_4 : decode cX6_ofOne 4 = .ok (.if_icmp .ne 8, 3) := by decide +kernel
theorem dX6_ofOne_7 : decode cX6_ofOne 7 = .ok (.iload_n 1, 1) := by decide +kernel
theorem dX6_ofOne_8 : decode cX6_ofOne 8 = .ok (.ineg, 1) := by decide +kernel
theorem dX6_ofOne_9 : decode cX6_ofOne 9 = .ok (.goto 12, 3) := by decide +kernel
theorem dX6_ofOne_12 : decode cX6_ofOne 12 = .ok (.iload_n 1, 1) := by decide +kernel
theorem dX6_ofOne_13 : decode cX6_ofOne 13 = .ok (.ifCond .ne 7, 3) := by decide +kernel
theorem dX6_ofOne_16 : decode cX6_ofOne 16 = .ok (.iconst 1, 1) := by decide +kernel
theorem dX6_ofOne_17 : decode cX6_ofOne 17 = .ok (.goto 4, 3) := by decide +kernel
theorem dX6_ofOne_20 : decode cX6_ofOne 20 = .ok (.iconst 0, 1) := by decide +kernel
theorem dX6_ofOne_21 : decode cX6_ofOne 21 = .ok (.ireturn, 1) := by decide +kernel
theorem dX6_ofTwo_0 : decode cX6_ofTwo 0 = .ok (.iload_n 0, 1) := by decide +kernel
theorem dX6_ofTwo_1 : decode cX6_ofTwo 1 = .ok (.lookupswitch 107 #[(42, 67), (43, 59), (45, 63), (60, 71), (61, 82), (260, 93)], 59) := by decide +kernel
theorem dX6_ofTwo_60 : decode cX6_ofTwo 60 = .ok (.iload_n 1, 1) := by decide +kernel
theorem dX6_ofTwo_61 : decode cX6_ofTwo 61 = .ok (.iload_n 2, 1) := by decide +kernel
theorem dX6_ofTwo_62 : decode cX6_ofTwo 62 = .ok (.iadd, 1) := by decide +kernel
theorem dX6_ofTwo_63 : decode cX6_ofTwo 63 = .ok (.ireturn, 1) := by decide +kernel
theorem dX6_ofTwo_64 : decode cX6_ofTwo 64 = .ok (.iload_n 1, 1) := by decide +kernel
theorem dX6_ofTwo_65 : decode cX6_ofTwo 65 = .ok (.iload_n 2, 1) := by decide +kernel
theorem dX6_ofTwo_66 : decode cX6_ofTwo 66 = .ok (.isub, 1) := by decide +kernel
theorem dX6_ofTwo_67 : decode cX6_ofTwo 67 = .ok (.ireturn, 1) := by decide +kernel
theorem dX6_ofTwo_68 : decode cX6_ofTwo 68 = .ok (.iload_n 1, 1) := by decide +kernel
theorem dX6_ofTwo_69 : decode cX6_ofTwo 69 = .ok (.iload_n 2, 1) := by decide +kernel
theorem dX6_ofTwo_70 : decode cX6_ofTwo 70 = .ok (.imul, 1) := by decide +kernel
theorem dX6_ofTwo_71 : decode cX6_ofTwo 71 = .ok (.ireturn, 1) := by decide +kernel
theorem dX6_ofTwo_72 : decode cX6_ofTwo 72 = .ok (.iload_n 1, 1) := by decide +kernel
theorem dX6_ofTwo_73 : decode cX6_ofTwo 73 = .ok (.iload_n 2, 1) := by decide +kernel
theorem dX6_ofTwo_74 : decode cX6_ofTwo 74 = .ok (.if_icmp .ge 7, 3) := by decide +kernel
theorem dX6_ofTwo_77 : decode cX6_ofTwo 77 = .ok (.iconst 1, 1) := by decide +kernel
theorem dX6_ofTwo_78 : decode cX6_ofTwo 78 = .ok (.goto 4, 3) := by decide +kernel
theorem dX6_ofTwo_81 : decode cX6_ofTwo 81 = .ok (.iconst 0, 1) := by decide +kernel
theorem dX6_ofTwo_82 : decode cX6_ofTwo 82 = .ok (.ireturn, 1) := by decide +kernel
theorem dX6_ofTwo_83 : decode cX6_ofTwo 83 = .ok (.iload_n 1, 1) := by decide +kernel
theorem dX6_ofTwo_84 : decode cX6_ofTwo 84 = .ok (.iload_n 2, 1) := by decide +kernel
theorem dX6_ofTwo_85 : decode cX6_ofTwo 85 = .ok (.if_icmp .ne 7, 3) := by decide +kernel
theorem dX6_ofTwo_88 : decode cX6_ofTwo 88 = .ok (.iconst 1, 1) := by decide +kernel
theorem dX6_ofTwo_89 : decode cX6_ofTwo 89 = .ok (.goto 4, 3) := by decide +kernel
theorem dX6_ofTwo_92 : decode cX6_ofTwo 92 = .ok (.iconst 0, 1) := by decide +kernel
theorem dX6_ofTwo_93 : decode cX6_ofTwo 93 = .ok (.ireturn, 1) := by decide +kernel
theorem dX6_ofTwo_94 : decode cX6_ofTwo 94 = .ok (.iload_n 1, 1) := by decide +kernel
theorem dX6_ofTwo_95 : decode cX6_ofTwo 95 = .ok (.ifCond .eq 11, 3) := by decide +kernel
theorem dX6_ofTwo_98 : decode cX6_ofTwo 98 = .ok (.iload_n 2, 1) := by decide +kernel
theorem dX6_ofTwo_99 : decode cX6_ofTwo 99 = .ok (.ifCond .eq 7, 3) := by decide +kernel
theorem dX6_ofTwo_102 : decode cX6_ofTwo 102 = .ok (.iconst 1, 1) := by decide +kernel
theorem dX6_ofTwo_103 : decode cX6_ofTwo 103 = .ok (.goto 4, 3) := by decide +kernel
theorem dX6_ofTwo_106 : decode cX6_ofTwo 106 = .ok (.iconst 0, 1) := by decide +kernel
theorem dX6_ofTwo_107 : decode cX6_ofTwo 107 = .ok (.ireturn, 1) := by decide +kernel
theorem dX6_ofTwo_108 : decode cX6_ofTwo 108 = .ok (.iload_n 1, 1) := by decide +kernel
theorem dX6_ofTwo_109 : decode cX6_ofTwo 109 = .ok (.ifCond .ne 7, 3) := by decide +kernel
theorem dX6_ofTwo_112 : decode cX6_ofTwo 112 = .ok (.iload_n 2, 1) := by decide +kernel
theorem dX6_ofTwo_113 : decode cX6_ofTwo 113 = .ok (.ifCond .eq 7, 3) := by decide +kernel
theorem dX6_ofTwo_116 : decode cX6_ofTwo 116 = .ok (.iconst 1, 1) := by decide +kernel
theorem dX6_ofTwo_117 : decode cX6_ofTwo 117 = .ok (.goto 4, 3) := by decide +kernel
theorem dX6_ofTwo_120 : decode cX6_ofTwo 120 = .ok (.iconst 0, 1) := by decide +kernel
theorem dX6_ofTwo_121 : decode cX6_ofTwo 121 = .ok (.ireturn, 1) := by decide +kernel
theorem dX7_spelling_0 : decode cX7_spelling 0 = .ok (.iload_n 0, 1) := by decide +kernel
theorem dX7_spelling_1 : decode cX7_spelling 1 = .ok (.tableswitch 99 256 267 #[63, 66, 69, 72, 75, 78, 81, 84, 87, 90, 93, 96], 63) := by decide +kernel
theorem dX7_spelling_64 : decode cX7_spelling 64 = .ok (.ldc 7, 2) := by decide +kernel
theorem dX7_spelling_66 : decode cX7_spelling 66 = .ok (.areturn, 1) := by decide +kernel
theorem dX7_spelling_67 : decode cX7_spelling 67 = .ok (.ldc 9, 2) := by decide +kernel
theorem dX7_spelling_69 : decode cX7_spelling 69 = .ok (.areturn, 1) := by decide +kernel
theorem dX7_spelling_70 : decode cX7_spelling 70 = .ok (.ldc 11, 2) := by decide +kernel
theorem dX7_spelling_72 : decode cX7_spelling 72 = .ok (.areturn, 1) := by decide +kernel
theorem dX7_spelling_73 : decode cX7_spelling 73 = .ok (.ldc 13, 2) := by decide +kernel
theorem dX7_spelling_75 : decode cX7_spelling 75 = .ok (.areturn, 1) := by decide +kernel
theorem dX7_spelling_76 : decode cX7_spelling 76 = .ok (.ldc 15, 2) := by decide +kernel
theorem dX7_spelling_78 : decode cX7_spelling 78 = .ok (.areturn, 1) := by decide +kernel
theorem dX7_spelling_79 : decode cX7_spelling 79 = .ok (.ldc 17, 2) := by decide +kernel
theorem dX7_spelling_81 : decode cX7_spelling 81 = .ok (.areturn, 1) := by decide +kernel
theorem dX7_spelling_82 : decode cX7_spelling 82 = .ok (.ldc 19, 2) := by decide +kernel
theorem dX7_spelling_84 : decode cX7_spelling 84 = .ok (.areturn, 1) := by decide +kernel
theorem dX7_spelling_85 : decode cX7_spelling 85 = .ok (.ldc 21, 2) := by decide +kernel
theorem dX7_spelling_87 : decode cX7_spelling 87 = .ok (.areturn, 1) := by decide +kernel
theorem dX7_spelling_88 : decode cX7_spelling 88 = .ok (.ldc 23, 2) := by decide +kernel
theorem dX7_spelling_90 : decode cX7_spelling 90 = .ok (.areturn, 1) := by decide +kernel
theorem dX7_spelling_91 : decode cX7_spelling 91 = .ok (.ldc 25, 2) := by decide +kernel
theorem dX7_spelling_93 : decode cX7_spelling 93 = .ok (.areturn, 1) := by decide +kernel
theorem dX7_spelling_94 : decode cX7_spelling 94 = .ok (.ldc 27, 2) := by decide +kernel
theorem dX7_spelling_96 : decode cX7_spelling 96 = .ok (.areturn, 1) := by decide +kernel
theorem dX7_spelling_97 : decode cX7_spelling 97 = .ok (.ldc 29, 2) := by decide +kernel
theorem dX7_spelling_99 : decode cX7_spelling 99 = .ok (.areturn, 1) := by decide +kernel
theorem dX7_spelling_100 : decode cX7_spelling 100 = .ok (.ldc 31, 2) := by decide +kernel
theorem dX7_spelling_102 : decode cX7_spelling 102 = .ok (.areturn, 1) := by decide +kernel
theorem dX7_isName_0 : decode cX7_isName 0 = .ok (.iload_n 0, 1) := by decide +kernel
theorem dX7_isName_1 : decode cX7_isName 1 = .ok (.sipush 262, 3) := by decide +kernel
theorem dX7_isName_4 : decode cX7_isName 4 = .ok (.if_icmp .lt 14, 3) := by decide +kernel
theorem dX7_isName_7 : decode cX7_isName 7 = .ok (.iload_n 0, 1) := by decide +kernel
theorem dX7_isName_8 : decode cX7_isName 8 = .ok (.sipush 267, 3) := by decide +kernel
theorem dX7_isName_11 : decode cX7_isName 11 = .ok (.if_icmp .gt 7, 3) := by decide +kernel
theorem dX7_isName_14 : decode cX7_isName 14 = .ok (.iconst 1, 1) := by decide +kernel
theorem dX7_isName_15 : decode cX7_isName 15 = .ok (.goto 4, 3) := by decide +kernel
theorem dX7_isName_18 : decode cX7_isName 18 = .ok (.iconst 0, 1) := by decide +kernel
theorem dX7_isName_19 : decode cX7_isName 19 = .ok (.ireturn, 1) := by decide +kernel
theorem dX8_init_0 : decode cX8_init 0 = .ok (.aload_n 0, 1) := by decide +kernel
theorem dX8_init_1 : decode cX8_init 1 = .ok (.invokespecial 1, 3) := by decide +kernel
theorem dX8_init_4 : decode cX8_init 4 = .ok (.aload_n 0, 1) := by decide +kernel
theorem dX8_init_5 : decode cX8_init 5 = .ok (.new 7, 3) := by decide +kernel
theorem dX8_init_8 : decode cX8_init 8 = .ok (.dup, 1) := by decide +kernel
theorem dX8_init_9 : decode cX8_init 9 = .ok (.invokespecial 9, 3) := by decide +kernel
theorem dX8_init_12 : decode cX8_init 12 = .ok (.putfield 10, 3) := by decide +kernel
theorem dX8_init_15 : decode cX8_init 15 = .ok (.aload_n 0, 1) := by decide +kernel
theorem dX8_init_16 : decode cX8_init 16 = .ok (.new 7, 3) := by decide +kernel
theorem dX8_init_19 : decode cX8_init 19 = .ok (.dup, 1) := by decide +kernel
theorem dX8_init_20 : decode cX8_init 20 = .ok (.invokespecial 9, 3) := by decide +kernel
theorem dX8_init_23 : decode cX8_init 23 = .ok (.putfield 16, 3) := by decide +kernel
theorem dX8_init_26 : decode cX8_init 26 = .ok (.aload_n 0, 1) := by decide +kernel
theorem dX8_init_27 : decode cX8_init 27 = .ok (.new 7, 3) := by decide +kernel
theorem dX8_init_30 : decode cX8_init 30 = .ok (.dup, 1) := by decide +kernel
theorem dX8_init_31 : decode cX8_init 31 = .ok (.invokespecial 9, 3) := by decide +kernel
theorem dX8_init_34 : decode cX8_init 34 = .ok (.putfield 19, 3) := by decide +kernel
theorem dX8_init_37 : decode cX8_init 37 = .ok (.aload_n 0, 1) := by decide +kernel
theorem dX8_init_38 : decode cX8_init 38 = .ok (.new 22, 3) := by decide +kernel
theorem dX8_init_41 : decode cX8_init 41 = .ok (.dup, 1) := by decide +kernel
theorem dX8_init_42 : decode cX8_init 42 = .ok (.invokespecial 24, 3) := by decide +kernel
theorem dX8_init_45 : decode cX8_init 45 = .ok (.putfield 25, 3) := by decide +kernel
theorem dX8_init_48 : decode cX8_init 48 = .ok (.aload_n 0, 1) := by decide +kernel
theorem dX8_init_49 : decode cX8_init 49 = .ok (.new 29, 3) := by decide +kernel
theorem dX8_init_52 : decode cX8_init 52 = .ok (.dup, 1) := by decide +kernel
theorem dX8_init_53 : decode cX8_init 53 = .ok (.invokespecial 31, 3) := by decide +kernel
theorem dX8_init_56 : decode cX8_init 56 = .ok (.putfield 32, 3) := by decide +kernel
theorem dX8_init_59 : decode cX8_init 59 = .ok (.aload_n 0, 1) := by decide +kernel
theorem dX8_init_60 : decode cX8_init 60 = .ok (.new 36, 3) := by decide +kernel
theorem dX8_init_63 : decode cX8_init 63 = .ok (.dup, 1) := by decide +kernel
theorem dX8_init_64 : decode cX8_init 64 = .ok (.invokespecial 38, 3) := by decide +kernel
theorem dX8_init_67 : decode cX8_init 67 = .ok (.putfield 39, 3) := by decide +kernel
theorem dX8_init_70 : decode cX8_init 70 = .ok (.aload_n 0, 1) := by decide +kernel
theorem dX8_init_71 : decode cX8_init 71 = .ok (.new 43, 3) := by decide +kernel
theorem dX8_init_74 : decode cX8_init 74 = .ok (.dup, 1) := by decide +kernel
theorem dX8_init_75 : decode cX8_init 75 = .ok (.invokespecial 45, 3) := by decide +kernel
theorem dX8_init_78 : decode cX8_init 78 = .ok (.putfield 46, 3) := by decide +kernel
theorem dX8_init_81 : decode cX8_init 81 = .ok (.aload_n 0, 1) := by decide +kernel
theorem dX8_init_82 : decode cX8_init 82 = .ok (.iconst 4, 1) := by decide +kernel
theorem dX8_init_83 : decode cX8_init 83 = .ok (.anewarray 50, 3) := by decide +kernel
theorem dX8_init_86 : decode cX8_init 86 = .ok (.putfield 52, 3) := by decide +kernel
theorem dX8_init_89 : decode cX8_init 89 = .ok (.iconst 0, 1) := by decide +kernel
theorem dX8_init_90 : decode cX8_init 90 = .ok (.istore_n 1, 1) := by decide +kernel
theorem dX8_init_91 : decode cX8_init 91 = .ok (.iload_n 1, 1) := by decide +kernel
theorem dX8_init_92 : decode cX8_init 92 = .ok (.iconst 4, 1) := by decide +kernel
theorem dX8_init_93 : decode cX8_init 93 = .ok (.if_icmp .ge 22, 3) := by decide +kernel
theorem dX8_init_96 : decode cX8_init 96 = .ok (.aload_n 0, 1) := by decide +kernel
theorem dX8_init_97 : decode cX8_init 97 = .ok (.getfield 52, 3) := by decide +kernel
theorem dX8_init_100 : decode cX8_init 100 = .ok (.iload_n 1, 1) := by decide +kernel
theorem dX8_init_101 : decode cX8_init 101 = .ok (.new 50, 3) := by decide +kernel
theorem dX8_init_104 : decode cX8_init 104 = .ok (.dup, 1) := by decide +kernel
theorem dX8_init_105 : decode cX8_init 105 = .ok (.invokespecial 56, 3) := by decide +kernel
theorem dX8_init_108 : decode cX8_init 108 = .ok (.aastore, 1) := by decide +kernel
theorem dX8_init_109 : decode cX8_init 109 = .ok (.iinc 1 1, 3) := by decide +kernel
theorem dX8_init_112 : decode cX8_init 112 = .ok (.goto (-21), 3) := by decide +kernel
theorem dX8_init_115 : decode cX8_init 115 = .ok (.return_, 1) := by decide +kernel
theorem dX8_set_0 : decode cX8_set 0 = .ok (.iload_n 1, 1) := by decide +kernel
theorem dX8_set_1 : decode cX8_set 1 = .ok (.bipush 6, 2) := by decide +kernel
theorem dX8_set_3 : decode cX8_set 3 = .ok (.if_icmp .gt 27, 3) := by decide +kernel
theorem dX8_set_6 : decode cX8_set 6 = .ok (.aload_n 0, 1) := by decide +kernel
theorem dX8_set_7 : decode cX8_set 7 = .ok (.getfield 10, 3) := by decide +kernel
theorem dX8_set_10 : decode cX8_set 10 = .ok (.iload_n 1, 1) := by decide +kernel
theorem dX8_set_11 : decode cX8_set 11 = .ok (.iload_n 2, 1) := by decide +kernel
theorem dX8_set_12 : decode cX8_set 12 = .ok (.invokevirtual 57, 3) := by decide +kernel
theorem dX8_set_15 : decode cX8_set 15 = .ok (.ifCond .eq 15, 3) := by decide +kernel
theorem dX8_set_18 : decode cX8_set 18 = .ok (.iload_n 3, 1) := by decide +kernel
theorem dX8_set_19 : decode cX8_set 19 = .ok (.ifCond .lt 11, 3) := by decide +kernel
theorem dX8_set_22 : decode cX8_set 22 = .ok (.iload_n 3, 1) := by decide +kernel
theorem dX8_set_23 : decode cX8_set 23 = .ok (.iload_n 1, 1) := by decide +kernel
theorem dX8_set_24 : decode cX8_set 24 = .ok (.invokestatic 61, 3) := by decide +kernel
theorem dX8_set_27 : decode cX8_set 27 = .ok (.if_icmp .le 6, 3) := by decide +kernel
theorem dX8_set_30 : decode cX8_set 30 = .ok (.bipush (-2), 2) := by decide +kernel
theorem dX8_set_32 : decode cX8_set 32 = .ok (.ireturn, 1) := by decide +kernel
theorem dX8_set_33 : decode cX8_set 33 = .ok (.aload_n 0, 1) := by decide +kernel
theorem dX8_set_34 : decode cX8_set 34 = .ok (.getfield 10, 3) := by decide +kernel
theorem dX8_set_37 : decode cX8_set 37 = .ok (.iload_n 1, 1) := by decide +kernel
theorem dX8_set_38 : decode cX8_set 38 = .ok (.iload_n 2, 1) := by decide +kernel
theorem dX8_set_39 : decode cX8_set 39 = .ok (.invokevirtual 65, 3) := by decide +kernel
theorem dX8_set_42 : decode cX8_set 42 = .ok (.istore 4, 2) := by decide +kernel
theorem dX8_set_44 : decode cX8_set 44 = .ok (.aload_n 0, 1) := by decide +kernel
theorem dX8_set_45 : decode cX8_set 45 = .ok (.getfield 10, 3) := by decide +kernel
theorem dX8_set_48 : decode cX8_set 48 = .ok (.iload_n 1, 1) := by decide +kernel
theorem dX8_set_49 : decode cX8_set 49 = .ok (.iload_n 2, 1) := by decide +kernel
theorem dX8_set_50 : decode cX8_set 50 = .ok (.iload_n 3, 1) := by decide +kernel
theorem dX8_set_51 : decode cX8_set 51 = .ok (.invokevirtual 69, 3) := by decide +kernel
theorem dX8_set_54 : decode cX8_set 54 = .ok (.iload 4, 2) := by decide +kernel
theorem dX8_set_56 : decode cX8_set 56 = .ok (.ireturn, 1) := by decide +kernel
theorem dX8_wakes_0 : decode cX8_wakes 0 = .ok (.aload_n 0, 1) := by decide +kernel
theorem dX8_wakes_1 : decode cX8_wakes 1 = .ok (.getfield 10, 3) := by decide +kernel
theorem dX8_wakes_4 : decode cX8_wakes 4 = .ok (.iload_n 1, 1) := by decide +kernel
theorem dX8_wakes_5 : decode cX8_wakes 5 = .ok (.iload_n 2, 1) := by decide +kernel
theorem dX8_wakes_6 : decode cX8_wakes 6 = .ok (.iload_n 3, 1) := by decide +kernel
theorem dX8_wakes_7 : decode cX8_wakes 7 = .ok (.invokevirtual 73, 3) := by decide +kernel
theorem dX8_wakes_10 : decode cX8_wakes 10 = .ok (.ireturn, 1) := by decide +kernel
theorem dX8_told_0 : decode cX8_told 0 = .ok (.iload_n 2, 1) := by decide +kernel
theorem dX8_told_1 : decode cX8_told 1 = .ok (.bipush 8, 2) := by decide +kernel
theorem dX8_told_3 : decode cX8_told 3 = .ok (.if_icmp .ne 32, 3) := by decide +kernel
theorem dX8_told_6 : decode cX8_told 6 = .ok (.aload_n 0, 1) := by decide +kernel
theorem dX8_told_7 : decode cX8_told 7 = .ok (.getfield 10, 3) := by decide +kernel
theorem dX8_told_10 : decode cX8_told 10 = .ok (.iload_n 1, 1) := by decide +kernel
theorem dX8_told_11 : decode cX8_told 11 = .ok (.invokevirtual 77, 3) := by decide +kernel
theorem dX8_told_14 : decode cX8_told 14 = .ok (.ifCond .eq 18, 3) := by decide +kernel
theorem dX8_told_17 : decode cX8_told 17 = .ok (.aload_n 0, 1) := by decide +kernel
theorem dX8_told_18 : decode cX8_told 18 = .ok (.getfield 32, 3) := by decide +kernel
theorem dX8_told_21 : decode cX8_told 21 = .ok (.aload_n 0, 1) := by decide +kernel
theorem dX8_told_22 : decode cX8_told 22 = .ok (.getfield 10, 3) := by decide +kernel
theorem dX8_told_25 : decode cX8_told 25 = .ok (.iload_n 1, 1) := by decide +kernel
theorem dX8_told_26 : decode cX8_told 26 = .ok (.invokevirtual 81, 3) := by decide +kernel
theorem dX8_told_29 : decode cX8_told 29 = .ok (.goto 5, 3) := by decide +kernel
theorem dX8_told_32 : decode cX8_told 32 = .ok (.bipush (-2), 2) := by decide +kernel
theorem dX8_told_34 : decode cX8_told 34 = .ok (.ireturn, 1) := by decide +kernel
theorem dX8_told_35 : decode cX8_told 35 = .ok (.iload_n 2, 1) := by decide +kernel
theorem dX8_told_36 : decode cX8_told 36 = .ok (.bipush 9, 2) := by decide +kernel
theorem dX8_told_38 : decode cX8_told 38 = .ok (.if_icmp .ne 32, 3) := by decide +kernel
theorem dX8_told_41 : decode cX8_told 41 = .ok (.aload_n 0, 1) := by decide +kernel
theorem dX8_told_42 : decode cX8_told 42 = .ok (.getfield 10, 3) := by decide +kernel
theorem dX8_told_45 : decode cX8_told 45 = .ok (.iload_n 1, 1) := by decide +kernel
theorem dX8_told_46 : decode cX8_told 46 = .ok (.invokevirtual 77, 3) := by decide +kernel
theorem dX8_told_49 : decode cX8_told 49 = .ok (.ifCond .eq 18, 3) := by decide +kernel
theorem dX8_told_52 : decode cX8_told 52 = .ok (.aload_n 0, 1) := by decide +kernel
theorem dX8_told_53 : decode cX8_told 53 = .ok (.getfield 32, 3) := by decide +kernel
theorem dX8_told_56 : decode cX8_told 56 = .ok (.aload_n 0, 1) := by decide +kernel
theorem dX8_told_57 : decode cX8_told 57 = .ok (.getfield 10, 3) := by decide +kernel
theorem dX8_told_60 : decode cX8_told 60 = .ok (.iload_n 1, 1) := by decide +kernel
theorem dX8_told_61 : decode cX8_told 61 = .ok (.invokevirtual 85, 3) := by decide +kernel
theorem dX8_told_64 : decode cX8_told 64 = .ok (.goto 5, 3) := by decide +kernel
theorem dX8_told_67 : decode cX8_told 67 = .ok (.bipush (-2), 2) := by decide +kernel
theorem dX8_told_69 : decode cX8_told 69 = .ok (.ireturn, 1) := by decide +kernel
theorem dX8_told_70 : decode cX8_told 70 = .ok (.iload_n 2, 1) := by decide +kernel
theorem dX8_told_71 : decode cX8_told 71 = .ok (.bipush 10, 2) := by decide +kernel
theorem dX8_told_73 : decode cX8_told 73 = .ok (.if_icmp .gt 27, 3) := by decide +kernel
theorem dX8_told_76 : decode cX8_told 76 = .ok (.aload_n 0, 1) := by decide +kernel
theorem dX8_told_77 : decode cX8_told 77 = .ok (.getfield 10, 3) := by decide +kernel
theorem dX8_told_80 : decode cX8_told 80 = .ok (.iload_n 2, 1) := by decide +kernel
theorem dX8_told_81 : decode cX8_told 81 = .ok (.iload_n 1, 1) := by decide +kernel
theorem dX8_told_82 : decode cX8_told 82 = .ok (.invokevirtual 57, 3) := by decide +kernel
theorem dX8_told_85 : decode cX8_told 85 = .ok (.ifCond .eq 15, 3) := by decide +kernel
theorem dX8_told_88 : decode cX8_told 88 = .ok (.aload_n 0, 1) := by decide +kernel
theorem dX8_told_89 : decode cX8_told 89 = .ok (.getfield 10, 3) := by decide +kernel
theorem dX8_told_92 : decode cX8_told 92 = .ok (.iload_n 2, 1) := by decide +kernel
theorem dX8_told_93 : decode cX8_told 93 = .ok (.iload_n 1, 1) := by decide +kernel
theorem dX8_told_94 : decode cX8_told 94 = .ok (.invokevirtual 65, 3) := by decide +kernel
theorem dX8_told_97 : decode cX8_told 97 = .ok (.goto 5, 3) := by decide +kernel
theorem dX8_told_100 : decode cX8_told 100 = .ok (.bipush (-2), 2) := by decide +kernel
theorem dX8_told_102 : decode cX8_told 102 = .ok (.ireturn, 1) := by decide +kernel
theorem dX8_eased_0 : decode cX8_eased 0 = .ok (.aload_n 0, 1) := by decide +kernel
theorem dX8_eased_1 : decode cX8_eased 1 = .ok (.getfield 10, 3) := by decide +kernel
theorem dX8_eased_4 : decode cX8_eased 4 = .ok (.iload_n 1, 1) := by decide +kernel
theorem dX8_eased_5 : decode cX8_eased 5 = .ok (.invokevirtual 77, 3) := by decide +kernel
theorem dX8_eased_8 : decode cX8_eased 8 = .ok (.ifCond .eq 18, 3) := by decide +kernel
theorem dX8_eased_11 : decode cX8_eased 11 = .ok (.aload_n 0, 1) := by decide +kernel
theorem dX8_eased_12 : decode cX8_eased 12 = .ok (.getfield 32, 3) := by decide +kernel
theorem dX8_eased_15 : decode cX8_eased 15 = .ok (.aload_n 0, 1) := by decide +kernel
theorem dX8_eased_16 : decode cX8_eased 16 = .ok (.getfield 10, 3) := by decide +kernel
theorem dX8_eased_19 : decode cX8_eased 19 = .ok (.iload_n 1, 1) := by decide +kernel
theorem dX8_eased_20 : decode cX8_eased 20 = .ok (.invokevirtual 88, 3) := by decide +kernel
theorem dX8_eased_23 : decode cX8_eased 23 = .ok (.goto 6, 3) := by decide +kernel
theorem dX8_eased_26 : decode cX8_eased 26 = .ok (.sipush (-1000), 3) := by decide +kernel
theorem dX8_eased_29 : decode cX8_eased 29 = .ok (.ireturn, 1) := by decide +kernel
theorem dX8_feed_0 : decode cX8_feed 0 = .ok (.iload_n 1, 1) := by decide +kernel
theorem dX8_feed_1 : decode cX8_feed 1 = .ok (.ifCond .lt 10, 3) := by decide +kernel
theorem dX8_feed_4 : decode cX8_feed 4 = .ok (.iload_n 1, 1) := by decide +kernel
theorem dX8_feed_5 : decode cX8_feed 5 = .ok (.sipush 255, 3) := by decide +kernel
theorem dX8_feed_8 : decode cX8_feed 8 = .ok (.if_icmp .le 6, 3) := by decide +kernel
theorem dX8_feed_11 : decode cX8_feed 11 = .ok (.bipush (-2), 2) := by decide +kernel
theorem dX8_feed_13 : decode cX8_feed 13 = .ok (.ireturn, 1) := by decide +kernel
theorem dX8_feed_14 : decode cX8_feed 14 = .ok (.aload_n 0, 1) := by decide +kernel
theorem dX8_feed_15 : decode cX8_feed 15 = .ok (.getfield 25, 3) := by decide +kernel
theorem dX8_feed_18 : decode cX8_feed 18 = .ok (.iload_n 1, 1) := by decide +kernel
theorem dX8_feed_19 : decode cX8_feed 19 = .ok (.invokevirtual 91, 3) := by decide +kernel
theorem dX8_feed_22 : decode cX8_feed 22 = .ok (.ifCond .eq 13, 3) := by decide +kernel
theorem dX8_feed_25 : decode cX8_feed 25 = .ok (.aload_n 0, 1) := by decide +kernel
theorem dX8_feed_26 : decode cX8_feed 26 = .ok (.getfield 25, 3) := by decide +kernel
theorem dX8_feed_29 : decode cX8_feed 29 = .ok (.getfield 94, 3) := by decide +kernel
theorem dX8_feed_32 : decode cX8_feed 32 = .ok (.goto 5, 3) := by decide +kernel
theorem dX8_feed_35 : decode cX8_feed 35 = .ok (.bipush (-4), 2) := by decide +kernel
theorem dX8_feed_37 : decode cX8_feed 37 = .ok (.ireturn, 1) := by decide +kernel
theorem dX8_text_0 : decode cX8_text 0 = .ok (.aload_n 0, 1) := by decide +kernel
theorem dX8_text_1 : decode cX8_text 1 = .ok (.getfield 32, 3) := by decide +kernel
theorem dX8_text_4 : decode cX8_text 4 = .ok (.invokevirtual 98, 3) := by decide +kernel
theorem dX8_text_7 : decode cX8_text 7 = .ok (.ifCond .eq 6, 3) := by decide +kernel
theorem dX8_text_10 : decode cX8_text 10 = .ok (.bipush (-4), 2) := by decide +kernel
theorem dX8_text_12 : decode cX8_text 12 = .ok (.ireturn, 1) := by decide +kernel
theorem dX8_text_13 : decode cX8_text 13 = .ok (.aload_n 0, 1) := by decide +kernel
theorem dX8_text_14 : decode cX8_text 14 = .ok (.getfield 25, 3) := by decide +kernel
theorem dX8_text_17 : decode cX8_text 17 = .ok (.aload_n 0, 1) := by decide +kernel
theorem dX8_text_18 : decode cX8_text 18 = .ok (.getfield 32, 3) := by decide +kernel
theorem dX8_text_21 : decode cX8_text 21 = .ok (.invokevirtual 102, 3) := by decide +kernel
theorem dX8_text_24 : decode cX8_text 24 = .ok (.invokevirtual 106, 3) := by decide +kernel
theorem dX8_text_27 : decode cX8_text 27 = .ok (.istore_n 1, 1) := by decide +kernel
theorem dX8_text_28 : decode cX8_text 28 = .ok (.iload_n 1, 1) := by decide +kernel
theorem dX8_text_29 : decode cX8_text 29 = .ok (.iconst (-1), 1) := by decide +kernel
theorem dX8_text_30 : decode cX8_text 30 = .ok (.if_icmp .ne 13, 3) := by decide +kernel
theorem dX8_text_33 : decode cX8_text 33 = .ok (.aload_n 0, 1) := by decide +kernel
theorem dX8_text_34 : decode cX8_text 34 = .ok (.getfield 32, 3) := by decide +kernel
theorem dX8_text_37 : decode cX8_text 37 = .ok (.invokevirtual 109, 3) := by decide +kernel
theorem dX8_text_40 : decode cX8_text 40 = .ok (.goto 7, 3) := by decide +kernel
theorem dX8_text_43 : decode cX8_text 43 = .ok (.bipush (-100), 2) := by decide +kernel
theorem dX8_text_45 : decode cX8_text 45 = .ok (.iload_n 1, 1) := by decide +kernel
theorem dX8_text_46 : decode cX8_text 46 = .ok (.isub, 1) := by decide +kernel
theorem dX8_text_47 : decode cX8_text 47 = .ok (.ireturn, 1) := by decide +kernel
theorem dX8_force_0 : decode cX8_force 0 = .ok (.aload_n 0, 1) := by decide +kernel
theorem dX8_force_1 : decode cX8_force 1 = .ok (.getfield 32, 3) := by decide +kernel
theorem dX8_force_4 : decode cX8_force 4 = .ok (.iload_n 1, 1) := by decide +kernel
theorem dX8_force_5 : decode cX8_force 5 = .ok (.invokevirtual 113, 3) := by decide +kernel
theorem dX8_force_8 : decode cX8_force 8 = .ok (.ifCond .ne 6, 3) := by decide +kernel
theorem dX8_force_11 : decode cX8_force 11 = .ok (.bipush (-2), 2) := by decide +kernel
theorem dX8_force_13 : decode cX8_force 13 = .ok (.ireturn, 1) := by decide +kernel
theorem dX8_force_14 : decode cX8_force 14 = .ok (.aload_n 0, 1) := by decide +kernel
theorem dX8_force_15 : decode cX8_force 15 = .ok (.getfield 10, 3) := by decide +kernel
theorem dX8_force_18 : decode cX8_force 18 = .ok (.getfield 116, 3) := by decide +kernel
theorem dX8_force_21 : decode cX8_force 21 = .ok (.istore_n 2, 1) := by decide +kernel
theorem dX8_force_22 : decode cX8_force 22 = .ok (.aload_n 0, 1) := by decide +kernel
theorem dX8_force_23 : decode cX8_force 23 = .ok (.getfield 10, 3) := by decide +kernel
theorem dX8_force_26 : decode cX8_force 26 = .ok (.iload_n 1, 1) := by decide +kernel
theorem dX8_force_27 : decode cX8_force 27 = .ok (.putfield 116, 3) := by decide +kernel
theorem dX8_force_30 : decode cX8_force 30 = .ok (.iload_n 2, 1) := by decide +kernel
theorem dX8_force_31 : decode cX8_force 31 = .ok (.ireturn, 1) := by decide +kernel
theorem dX8_night_0 : decode cX8_night 0 = .ok (.aload_n 0, 1) := by decide +kernel
theorem dX8_night_1 : decode cX8_night 1 = .ok (.getfield 10, 3) := by decide +kernel
theorem dX8_night_4 : decode cX8_night 4 = .ok (.getfield 119, 3) := by decide +kernel
theorem dX8_night_7 : decode cX8_night 7 = .ok (.sipush 999, 3) := by decide +kernel
theorem dX8_night_10 : decode cX8_night 10 = .ok (.if_icmp .lt 8, 3) := by decide +kernel
theorem dX8_night_13 : decode cX8_night 13 = .ok (.bipush (-3), 2) := by decide +kernel
theorem dX8_night_15 : decode cX8_night 15 = .ok (.goto 18, 3) := by decide +kernel
theorem dX8_night_18 : decode cX8_night 18 = .ok (.aload_n 0, 1) := by decide +kernel
theorem dX8_night_19 : decode cX8_night 19 = .ok (.getfield 39, 3) := by decide +kernel
theorem dX8_night_22 : decode cX8_night 22 = .ok (.aload_n 0, 1) := by decide +kernel
theorem dX8_night_23 : decode cX8_night 23 = .ok (.getfield 32, 3) := by decide +kernel
theorem dX8_night_26 : decode cX8_night 26 = .ok (.aload_n 0, 1) := by decide +kernel
theorem dX8_night_27 : decode cX8_night 27 = .ok (.getfield 10, 3) := by decide +kernel
theorem dX8_night_30 : decode cX8_night 30 = .ok (.invokevirtual 122, 3) := by decide +kernel
theorem dX8_night_33 : decode cX8_night 33 = .ok (.ireturn, 1) := by decide +kernel
theorem dX8_news_0 : decode cX8_news 0 = .ok (.aload_n 0, 1) := by decide +kernel
theorem dX8_news_1 : decode cX8_news 1 = .ok (.getfield 10, 3) := by decide +kernel
theorem dX8_news_4 : decode cX8_news 4 = .ok (.iload_n 1, 1) := by decide +kernel
theorem dX8_news_5 : decode cX8_news 5 = .ok (.invokevirtual 77, 3) := by decide +kernel
theorem dX8_news_8 : decode cX8_news 8 = .ok (.ifCond .ne 6, 3) := by decide +kernel
theorem dX8_news_11 : decode cX8_news 11 = .ok (.bipush (-2), 2) := by decide +kernel
theorem dX8_news_13 : decode cX8_news 13 = .ok (.ireturn, 1) := by decide +kernel
theorem dX8_news_14 : decode cX8_news 14 = .ok (.aload_n 0, 1) := by decide +kernel
theorem dX8_news_15 : decode cX8_news 15 = .ok (.getfield 10, 3) := by decide +kernel
theorem dX8_news_18 : decode cX8_news 18 = .ok (.getfield 126, 3) := by decide +kernel
theorem dX8_news_21 : decode cX8_news 21 = .ok (.iload_n 1, 1) := by decide +kernel
theorem dX8_news_22 : decode cX8_news 22 = .ok (.iaload, 1) := by decide +kernel
theorem dX8_news_23 : decode cX8_news 23 = .ok (.istore_n 2, 1) := by decide +kernel
theorem dX8_news_24 : decode cX8_news 24 = .ok (.aload_n 0, 1) := by decide +kernel
theorem dX8_news_25 : decode cX8_news 25 = .ok (.getfield 10, 3) := by decide +kernel
theorem dX8_news_28 : decode cX8_news 28 = .ok (.iload_n 1, 1) := by decide +kernel
theorem dX8_news_29 : decode cX8_news 29 = .ok (.invokevirtual 130, 3) := by decide +kernel
theorem dX8_news_32 : decode cX8_news 32 = .ok (.iload_n 2, 1) := by decide +kernel
theorem dX8_news_33 : decode cX8_news 33 = .ok (.ireturn, 1) := by decide +kernel
theorem dX8_run_0 : decode cX8_run 0 = .ok (.aload_n 0, 1) := by decide +kernel
theorem dX8_run_1 : decode cX8_run 1 = .ok (.getfield 10, 3) := by decide +kernel
theorem dX8_run_4 : decode cX8_run 4 = .ok (.iload_n 1, 1) := by decide +kernel
theorem dX8_run_5 : decode cX8_run 5 = .ok (.invokevirtual 77, 3) := by decide +kernel
theorem dX8_run_8 : decode cX8_run 8 = .ok (.ifCond .eq 31, 3) := by decide +kernel
theorem dX8_run_11 : decode cX8_run 11 = .ok (.iload_n 2, 1) := by decide +kernel
theorem dX8_run_12 : decode cX8_run 12 = .ok (.invokestatic 134, 3) := by decide +kernel
theorem dX8_run_15 : decode cX8_run 15 = .ok (.ifCond .eq 24, 3) := by decide +kernel
theorem dX8_run_18 : decode cX8_run 18 = .ok (.iload_n 3, 1) := by decide +kernel
theorem dX8_run_19 : decode cX8_run 19 = .ok (.ifCond .lt 20, 3) := by decide +kernel
theorem dX8_run_22 : decode cX8_run 22 = .ok (.iload_n 3, 1) := by decide +kernel
theorem dX8_run_23 : decode cX8_run 23 = .ok (.bipush 40, 2) := by decide +kernel
theorem dX8_run_25 : decode cX8_run 25 = .ok (.if_icmp .gt 14, 3) := by decide +kernel
theorem dX8_run_28 : decode cX8_run 28 = .ok (.iload 4, 2) := by decide +kernel
theorem dX8_run_30 : decode cX8_run 30 = .ok (.ifCond .lt 9, 3) := by decide +kernel
theorem dX8_run_33 : decode cX8_run 33 = .ok (.iload 4, 2) := by decide +kernel
theorem dX8_run_35 : decode cX8_run 35 = .ok (.iconst 2, 1) := by decide +kernel
theorem dX8_run_36 : decode cX8_run 36 = .ok (.if_icmp .le 6, 3) := by decide +kernel
theorem dX8_run_39 : decode cX8_run 39 = .ok (.bipush (-2), 2) := by decide +kernel
theorem dX8_run_41 : decode cX8_run 41 = .ok (.ireturn, 1) := by decide +kernel
theorem dX8_run_42 : decode cX8_run 42 = .ok (.aload_n 0, 1) := by decide +kernel
theorem dX8_run_43 : decode cX8_run 43 = .ok (.getfield 16, 3) := by decide +kernel
theorem dX8_run_46 : decode cX8_run 46 = .ok (.aload_n 0, 1) := by decide +kernel
theorem dX8_run_47 : decode cX8_run 47 = .ok (.getfield 10, 3) := by decide +kernel
theorem dX8_run_50 : decode cX8_run 50 = .ok (.invokevirtual 137, 3) := by decide +kernel
theorem dX8_run_53 : decode cX8_run 53 = .ok (.iconst 0, 1) := by decide +kernel
theorem dX8_run_54 : decode cX8_run 54 = .ok (.istore 5, 2) := by decide +kernel
theorem dX8_run_56 : decode cX8_run 56 = .ok (.iconst 0, 1) := by decide +kernel
theorem dX8_run_57 : decode cX8_run 57 = .ok (.istore 6, 2) := by decide +kernel
theorem dX8_run_59 : decode cX8_run 59 = .ok (.iload 6, 2) := by decide +kernel
theorem dX8_run_61 : decode cX8_run 61 = .ok (.iload_n 3, 1) := by decide +kernel
theorem dX8_run_62 : decode cX8_run 62 = .ok (.if_icmp .ge 29, 3) := by decide +kernel
theorem dX8_run_65 : decode cX8_run 65 = .ok (.iload 5, 2) := by decide +kernel
theorem dX8_run_67 : decode cX8_run 67 = .ok (.aload_n 0, 1) := by decide +kernel
theorem dX8_run_68 : decode cX8_run 68 = .ok (.getfield 39, 3) := by decide +kernel
theorem dX8_run_71 : decode cX8_run 71 = .ok (.aload_n 0, 1) := by decide +kernel
theorem dX8_run_72 : decode cX8_run 72 = .ok (.getfield 32, 3) := by decide +kernel
theorem dX8_run_75 : decode cX8_run 75 = .ok (.aload_n 0, 1) := by decide +kernel
theorem dX8_run_76 : decode cX8_run 76 = .ok (.getfield 16, 3) := by decide +kernel
theorem dX8_run_79 : decode cX8_run 79 = .ok (.invokevirtual 122, 3) := by decide +kernel
theorem dX8_run_82 : decode cX8_run 82 = .ok (.iadd, 1) := by decide +kernel
theorem dX8_run_83 : decode cX8_run 83 = .ok (.istore 5, 2) := by decide +kernel
theorem dX8_run_85 : decode cX8_run 85 = .ok (.iinc 6 1, 3) := by decide +kernel
theorem dX8_run_88 : decode cX8_run 88 = .ok (.goto (-29), 3) := by decide +kernel
theorem dX8_run_91 : decode cX8_run 91 = .ok (.iload 4, 2) := by decide +kernel
theorem dX8_run_93 : decode cX8_run 93 = .ok (.ifCond .ne 13, 3) := by decide +kernel
theorem dX8_run_96 : decode cX8_run 96 = .ok (.aload_n 0, 1) := by decide +kernel
theorem dX8_run_97 : decode cX8_run 97 = .ok (.getfield 16, 3) := by decide +kernel
theorem dX8_run_100 : decode cX8_run 100 = .ok (.getfield 126, 3) := by decide +kernel
theorem dX8_run_103 : decode cX8_run 103 = .ok (.iload_n 1, 1) := by decide +kernel
theorem dX8_run_104 : decode cX8_run 104 = .ok (.iaload, 1) := by decide +kernel
theorem dX8_run_105 : decode cX8_run 105 = .ok (.ireturn, 1) := by decide +kernel
theorem dX8_run_106 : decode cX8_run 106 = .ok (.iload 4, 2) := by decide +kernel
theorem dX8_run_108 : decode cX8_run 108 = .ok (.iconst 1, 1) := by decide +kernel
theorem dX8_run_109 : decode cX8_run 109 = .ok (.if_icmp .ne 8, 3) := by decide +kernel
theorem dX8_run_112 : decode cX8_run 112 = .ok (.iload 5, 2) := by decide +kernel
theorem dX8_run_114 : decode cX8_run 114 = .ok (.goto 12, 3) := by decide +kernel
theorem dX8_run_117 : decode cX8_run 117 = .ok (.aload_n 0, 1) := by decide +kernel
theorem dX8_run_118 : decode cX8_run 118 = .ok (.getfield 16, 3) := by decide +kernel
theorem dX8_run_121 : decode cX8_run 121 = .ok (.getfield 141, 3) := by decide +kernel
theorem dX8_run_124 : decode cX8_run 124 = .ok (.iload_n 2, 1) := by decide +kernel
theorem dX8_run_125 : decode cX8_run 125 = .ok (.iaload, 1) := by decide +kernel
theorem dX8_run_126 : decode cX8_run 126 = .ok (.ireturn, 1) := by decide +kernel
theorem dX8_sleeps_0 : decode cX8_sleeps 0 = .ok (.aload_n 0, 1) := by decide +kernel
theorem dX8_sleeps_1 : decode cX8_sleeps 1 = .ok (.getfield 10, 3) := by decide +kernel
theorem dX8_sleeps_4 : decode cX8_sleeps 4 = .ok (.iload_n 1, 1) := by decide +kernel
theorem dX8_sleeps_5 : decode cX8_sleeps 5 = .ok (.invokevirtual 77, 3) := by decide +kernel
theorem dX8_sleeps_8 : decode cX8_sleeps 8 = .ok (.ifCond .ne 6, 3) := by decide +kernel
theorem dX8_sleeps_11 : decode cX8_sleeps 11 = .ok (.bipush (-2), 2) := by decide +kernel
theorem dX8_sleeps_13 : decode cX8_sleeps 13 = .ok (.ireturn, 1) := by decide +kernel
theorem dX8_sleeps_14 : decode cX8_sleeps 14 = .ok (.aload_n 0, 1) := by decide +kernel
theorem dX8_sleeps_15 : decode cX8_sleeps 15 = .ok (.getfield 16, 3) := by decide +kernel
theorem dX8_sleeps_18 : decode cX8_sleeps 18 = .ok (.aload_n 0, 1) := by decide +kernel
theorem dX8_sleeps_19 : decode cX8_sleeps 19 = .ok (.getfield 10, 3) := by decide +kernel
theorem dX8_sleeps_22 : decode cX8_sleeps 22 = .ok (.invokevirtual 137, 3) := by decide +kernel
theorem dX8_sleeps_25 : decode cX8_sleeps 25 = .ok (.iconst 0, 1) := by decide +kernel
theorem dX8_sleeps_26 : decode cX8_sleeps 26 = .ok (.istore_n 2, 1) := by decide +kernel
theorem dX8_sleeps_27 : decode cX8_sleeps 27 = .ok (.iload_n 2, 1) := by decide +kernel
theorem dX8_sleeps_28 : decode cX8_sleeps 28 = .ok (.bipush 60, 2) := by decide +kernel
theorem dX8_sleeps_30 : decode cX8_sleeps 30 = .ok (.if_icmp .gt 48, 3) := by decide +kernel
theorem dX8_sleeps_33 : decode cX8_sleeps 33 = .ok (.aload_n 0, 1) := by decide +kernel
theorem dX8_sleeps_34 : decode cX8_sleeps 34 = .ok (.getfield 16, 3) := by decide +kernel
theorem dX8_sleeps_37 : decode cX8_sleeps 37 = .ok (.getfield 126, 3) := by decide +kernel
theorem dX8_sleeps_40 : decode cX8_sleeps 40 = .ok (.iload_n 1, 1) := by decide +kernel
theorem dX8_sleeps_41 : decode cX8_sleeps 41 = .ok (.iaload, 1) := by decide +kernel
theorem dX8_sleeps_42 : decode cX8_sleeps 42 = .ok (.ifCond .ne 5, 3) := by decide +kernel
theorem dX8_sleeps_45 : decode cX8_sleeps 45 = .ok (.iload_n 2, 1) := by decide +kernel
theorem dX8_sleeps_46 : decode cX8_sleeps 46 = .ok (.ireturn, 1) := by decide +kernel
theorem dX8_sleeps_47 : decode cX8_sleeps 47 = .ok (.aload_n 0, 1) := by decide +kernel
theorem dX8_sleeps_48 : decode cX8_sleeps 48 = .ok (.getfield 32, 3) := by decide +kernel
theorem dX8_sleeps_51 : decode cX8_sleeps 51 = .ok (.aload_n 0, 1) := by decide +kernel
theorem dX8_sleeps_52 : decode cX8_sleeps 52 = .ok (.getfield 16, 3) := by decide +kernel
theorem dX8_sleeps_55 : decode cX8_sleeps 55 = .ok (.iload_n 1, 1) := by decide +kernel
theorem dX8_sleeps_56 : decode cX8_sleeps 56 = .ok (.invokevirtual 144, 3) := by decide +kernel
theorem dX8_sleeps_59 : decode cX8_sleeps 59 = .ok (.aload_n 0, 1) := by decide +kernel
theorem dX8_sleeps_60 : decode cX8_sleeps 60 = .ok (.getfield 16, 3) := by decide +kernel
theorem dX8_sleeps_63 : decode cX8_sleeps 63 = .ok (.dup, 1) := by decide +kernel
theorem dX8_sleeps_64 : decode cX8_sleeps 64 = .ok (.getfield 119, 3) := by decide +kernel
theorem dX8_sleeps_67 : decode cX8_sleeps 67 = .ok (.iconst 1, 1) := by decide +kernel
theorem dX8_sleeps_68 : decode cX8_sleeps 68 = .ok (.iadd, 1) := by decide +kernel
theorem dX8_sleeps_69 : decode cX8_sleeps 69 = .ok (.putfield 119, 3) := by decide +kernel
theorem dX8_sleeps_72 : decode cX8_sleeps 72 = .ok (.iinc 2 1, 3) := by decide +kernel
theorem dX8_sleeps_75 : decode cX8_sleeps 75 = .ok (.goto (-48), 3) := by decide +kernel
theorem dX8_sleeps_78 : decode cX8_sleeps 78 = .ok (.iconst (-1), 1) := by decide +kernel
theorem dX8_sleeps_79 : decode cX8_sleeps 79 = .ok (.ireturn, 1) := by decide +kernel
theorem dX8_pour_0 : decode cX8_pour 0 = .ok (.aload_n 0, 1) := by decide +kernel
theorem dX8_pour_1 : decode cX8_pour 1 = .ok (.getfield 16, 3) := by decide +kernel
theorem dX8_pour_4 : decode cX8_pour 4 = .ok (.aload_n 0, 1) := by decide +kernel
theorem dX8_pour_5 : decode cX8_pour 5 = .ok (.getfield 10, 3) := by decide +kernel
theorem dX8_pour_8 : decode cX8_pour 8 = .ok (.invokevirtual 137, 3) := by decide +kernel
theorem dX8_pour_11 : decode cX8_pour 11 = .ok (.aload_n 0, 1) := by decide +kernel
theorem dX8_pour_12 : decode cX8_pour 12 = .ok (.getfield 46, 3) := by decide +kernel
theorem dX8_pour_15 : decode cX8_pour 15 = .ok (.aload_n 0, 1) := by decide +kernel
theorem dX8_pour_16 : decode cX8_pour 16 = .ok (.getfield 32, 3) := by decide +kernel
theorem dX8_pour_19 : decode cX8_pour 19 = .ok (.aload_n 0, 1) := by decide +kernel
theorem dX8_pour_20 : decode cX8_pour 20 = .ok (.getfield 10, 3) := by decide +kernel
theorem dX8_pour_23 : decode cX8_pour 23 = .ok (.invokevirtual 148, 3) := by decide +kernel
theorem dX8_pour_26 : decode cX8_pour 26 = .ok (.iload_n 1, 1) := by decide +kernel
theorem dX8_pour_27 : decode cX8_pour 27 = .ok (.tableswitch 125 0 5 #[37, 45, 53, 77, 93, 117], 37) := by decide +kernel
theorem dX8_pour_64 : decode cX8_pour 64 = .ok (.aload_n 0, 1) := by decide +kernel
theorem dX8_pour_65 : decode cX8_pour 65 = .ok (.getfield 46, 3) := by decide +kernel
theorem dX8_pour_68 : decode cX8_pour 68 = .ok (.invokevirtual 152, 3) := by decide +kernel
theorem dX8_pour_71 : decode cX8_pour 71 = .ok (.ireturn, 1) := by decide +kernel
theorem dX8_pour_72 : decode cX8_pour 72 = .ok (.aload_n 0, 1) := by decide +kernel
theorem dX8_pour_73 : decode cX8_pour 73 = .ok (.getfield 46, 3) := by decide +kernel
theorem dX8_pour_76 : decode cX8_pour 76 = .ok (.invokevirtual 155, 3) := by decide +kernel
theorem dX8_pour_79 : decode cX8_pour 79 = .ok (.ireturn, 1) := by decide +kernel
theorem dX8_pour_80 : decode cX8_pour 80 = .ok (.aload_n 0, 1) := by decide +kernel
theorem dX8_pour_81 : decode cX8_pour 81 = .ok (.getfield 46, 3) := by decide +kernel
theorem dX8_pour_84 : decode cX8_pour 84 = .ok (.invokevirtual 152, 3) := by decide +kernel
theorem dX8_pour_87 : decode cX8_pour 87 = .ok (.aload_n 0, 1) := by decide +kernel
theorem dX8_pour_88 : decode cX8_pour 88 = .ok (.getfield 39, 3) := by decide +kernel
theorem dX8_pour_91 : decode cX8_pour 91 = .ok (.aload_n 0, 1) := by decide +kernel
theorem dX8_pour_92 : decode cX8_pour 92 = .ok (.getfield 32, 3) := by decide +kernel
theorem dX8_pour_95 : decode cX8_pour 95 = .ok (.aload_n 0, 1) := by decide +kernel
theorem dX8_pour_96 : decode cX8_pour 96 = .ok (.getfield 16, 3) := by decide +kernel
theorem dX8_pour_99 : decode cX8_pour 99 = .ok (.invokevirtual 158, 3) := by decide +kernel
theorem dX8_pour_102 : decode cX8_pour 102 = .ok (.isub, 1) := by decide +kernel
theorem dX8_pour_103 : decode cX8_pour 103 = .ok (.ireturn, 1) := by decide +kernel
theorem dX8_pour_104 : decode cX8_pour 104 = .ok (.aload_n 0, 1) := by decide +kernel
theorem dX8_pour_105 : decode cX8_pour 105 = .ok (.getfield 39, 3) := by decide +kernel
theorem dX8_pour_108 : decode cX8_pour 108 = .ok (.aload_n 0, 1) := by decide +kernel
theorem dX8_pour_109 : decode cX8_pour 109 = .ok (.getfield 32, 3) := by decide +kernel
theorem dX8_pour_112 : decode cX8_pour 112 = .ok (.aload_n 0, 1) := by decide +kernel
theorem dX8_pour_113 : decode cX8_pour 113 = .ok (.getfield 16, 3) := by decide +kernel
theorem dX8_pour_116 : decode cX8_pour 116 = .ok (.invokevirtual 158, 3) := by decide +kernel
theorem dX8_pour_119 : decode cX8_pour 119 = .ok (.ireturn, 1) := by decide +kernel
theorem dX8_pour_120 : decode cX8_pour 120 = .ok (.aload_n 0, 1) := by decide +kernel
theorem dX8_pour_121 : decode cX8_pour 121 = .ok (.getfield 39, 3) := by decide +kernel
theorem dX8_pour_124 : decode cX8_pour 124 = .ok (.aload_n 0, 1) := by decide +kernel
theorem dX8_pour_125 : decode cX8_pour 125 = .ok (.getfield 32, 3) := by decide +kernel
theorem dX8_pour_128 : decode cX8_pour 128 = .ok (.aload_n 0, 1) := by decide +kernel
theorem dX8_pour_129 : decode cX8_pour 129 = .ok (.getfield 16, 3) := by decide +kernel
theorem dX8_pour_132 : decode cX8_pour 132 = .ok (.invokevirtual 158, 3) := by decide +kernel
theorem dX8_pour_135 : decode cX8_pour 135 = .ok (.pop, 1) := by decide +kernel
theorem dX8_pour_136 : decode cX8_pour 136 = .ok (.aload_n 0, 1) := by decide +kernel
theorem dX8_pour_137 : decode cX8_pour 137 = .ok (.getfield 16, 3) := by decide +kernel
theorem dX8_pour_140 : decode cX8_pour 140 = .ok (.invokevirtual 161, 3) := by decide +kernel
theorem dX8_pour_143 : decode cX8_pour 143 = .ok (.ireturn, 1) := by decide +kernel
theorem dX8_pour_144 : decode cX8_pour 144 = .ok (.aload_n 0, 1) := by decide +kernel
theorem dX8_pour_145 : decode cX8_pour 145 = .ok (.getfield 46, 3) := by decide +kernel
theorem dX8_pour_148 : decode cX8_pour 148 = .ok (.invokevirtual 164, 3) := by decide +kernel
theorem dX8_pour_151 : decode cX8_pour 151 = .ok (.ireturn, 1) := by decide +kernel
theorem dX8_pour_152 : decode cX8_pour 152 = .ok (.bipush (-2), 2) := by decide +kernel
theorem dX8_pour_154 : decode cX8_pour 154 = .ok (.ireturn, 1) := by decide +kernel
theorem dX8_best_0 : decode cX8_best 0 = .ok (.aload_n 0, 1) := by decide +kernel
theorem dX8_best_1 : decode cX8_best 1 = .ok (.getfield 46, 3) := by decide +kernel
theorem dX8_best_4 : decode cX8_best 4 = .ok (.aload_n 0, 1) := by decide +kernel
theorem dX8_best_5 : decode cX8_best 5 = .ok (.getfield 32, 3) := by decide +kernel
theorem dX8_best_8 : decode cX8_best 8 = .ok (.aload_n 0, 1) := by decide +kernel
theorem dX8_best_9 : decode cX8_best 9 = .ok (.getfield 10, 3) := by decide +kernel
theorem dX8_best_12 : decode cX8_best 12 = .ok (.invokevirtual 148, 3) := by decide +kernel
theorem dX8_best_15 : decode cX8_best 15 = .ok (.iload_n 1, 1) := by decide +kernel
theorem dX8_best_16 : decode cX8_best 16 = .ok (.tableswitch 110 0 5 #[40, 48, 63, 71, 87, 95], 40) := by decide +kernel
theorem dX8_best_56 : decode cX8_best 56 = .ok (.aload_n 0, 1) := by decide +kernel
theorem dX8_best_57 : decode cX8_best 57 = .ok (.getfield 46, 3) := by decide +kernel
theorem dX8_best_60 : decode cX8_best 60 = .ok (.invokevirtual 167, 3) := by decide +kernel
theorem dX8_best_63 : decode cX8_best 63 = .ok (.ireturn, 1) := by decide +kernel
theorem dX8_best_64 : decode cX8_best 64 = .ok (.aload_n 0, 1) := by decide +kernel
theorem dX8_best_65 : decode cX8_best 65 = .ok (.getfield 46, 3) := by decide +kernel
theorem dX8_best_68 : decode cX8_best 68 = .ok (.aload_n 0, 1) := by decide +kernel
theorem dX8_best_69 : decode cX8_best 69 = .ok (.getfield 46, 3) := by decide +kernel
theorem dX8_best_72 : decode cX8_best 72 = .ok (.invokevirtual 167, 3) := by decide +kernel
theorem dX8_best_75 : decode cX8_best 75 = .ok (.invokevirtual 170, 3) := by decide +kernel
theorem dX8_best_78 : decode cX8_best 78 = .ok (.ireturn, 1) := by decide +kernel
theorem dX8_best_79 : decode cX8_best 79 = .ok (.aload_n 0, 1) := by decide +kernel
theorem dX8_best_80 : decode cX8_best 80 = .ok (.getfield 46, 3) := by decide +kernel
theorem dX8_best_83 : decode cX8_best 83 = .ok (.invokevirtual 173, 3) := by decide +kernel
theorem dX8_best_86 : decode cX8_best 86 = .ok (.ireturn, 1) := by decide +kernel
theorem dX8_best_87 : decode cX8_best 87 = .ok (.aload_n 0, 1) := by decide +kernel
theorem dX8_best_88 : decode cX8_best 88 = .ok (.getfield 46, 3) := by decide +kernel
theorem dX8_best_91 : decode cX8_best 91 = .ok (.aload_n 0, 1) := by decide +kernel
theorem dX8_best_92 : decode cX8_best 92 = .ok (.getfield 46, 3) := by decide +kernel
theorem dX8_best_95 : decode cX8_best 95 = .ok (.invokevirtual 173, 3) := by decide +kernel
theorem dX8_best_98 : decode cX8_best 98 = .ok (.iconst 0, 1) := by decide +kernel
theorem dX8_best_99 : decode cX8_best 99 = .ok (.invokevirtual 176, 3) := by decide +kernel
theorem dX8_best_102 : decode cX8_best 102 = .ok (.ireturn, 1) := by decide +kernel
theorem dX8_best_103 : decode cX8_best 103 = .ok (.aload_n 0, 1) := by decide +kernel
theorem dX8_best_104 : decode cX8_best 104 = .ok (.getfield 46, 3) := by decide +kernel
theorem dX8_best_107 : decode cX8_best 107 = .ok (.invokevirtual 179, 3) := by decide +kernel
theorem dX8_best_110 : decode cX8_best 110 = .ok (.ireturn, 1) := by decide +kernel
theorem dX8_best_111 : decode cX8_best 111 = .ok (.aload_n 0, 1) := by decide +kernel
theorem dX8_best_112 : decode cX8_best 112 = .ok (.getfield 46, 3) := by decide +kernel
theorem dX8_best_115 : decode cX8_best 115 = .ok (.aload_n 0, 1) := by decide +kernel
theorem dX8_best_116 : decode cX8_best 116 = .ok (.getfield 46, 3) := by decide +kernel
theorem dX8_best_119 : decode cX8_best 119 = .ok (.invokevirtual 179, 3) := by decide +kernel
theorem dX8_best_122 : decode cX8_best 122 = .ok (.invokevirtual 182, 3) := by decide +kernel
theorem dX8_best_125 : decode cX8_best 125 = .ok (.ireturn, 1) := by decide +kernel
theorem dX8_best_126 : decode cX8_best 126 = .ok (.bipush (-2), 2) := by decide +kernel
theorem dX8_best_128 : decode cX8_best 128 = .ok (.ireturn, 1) := by decide +kernel
theorem dX8_blend_0 : decode cX8_blend 0 = .ok (.aload_n 0, 1) := by decide +kernel
theorem dX8_blend_1 : decode cX8_blend 1 = .ok (.getfield 10, 3) := by decide +kernel
theorem dX8_blend_4 : decode cX8_blend 4 = .ok (.iload_n 1, 1) := by decide +kernel
theorem dX8_blend_5 : decode cX8_blend 5 = .ok (.invokevirtual 77, 3) := by decide +kernel
theorem dX8_blend_8 : decode cX8_blend 8 = .ok (.ifCond .eq 19, 3) := by decide +kernel
theorem dX8_blend_11 : decode cX8_blend 11 = .ok (.iload_n 2, 1) := by decide +kernel
theorem dX8_blend_12 : decode cX8_blend 12 = .ok (.invokestatic 134, 3) := by decide +kernel
theorem dX8_blend_15 : decode cX8_blend 15 = .ok (.ifCond .eq 12, 3) := by decide +kernel
theorem dX8_blend_18 : decode cX8_blend 18 = .ok (.iload_n 3, 1) := by decide +kernel
theorem dX8_blend_19 : decode cX8_blend 19 = .ok (.ifCond .lt 8, 3) := by decide +kernel
theorem dX8_blend_22 : decode cX8_blend 22 = .ok (.iload_n 3, 1) := by decide +kernel
theorem dX8_blend_23 : decode cX8_blend 23 = .ok (.iconst 1, 1) := by decide +kernel
theorem dX8_blend_24 : decode cX8_blend 24 = .ok (.if_icmp .le 7, 3) := by decide +kernel
theorem dX8_blend_27 : decode cX8_blend 27 = .ok (.ldc2_w 185, 3) := by decide +kernel
theorem dX8_blend_30 : decode cX8_blend 30 = .ok (.lreturn, 1) := by decide +kernel
theorem dX8_blend_31 : decode cX8_blend 31 = .ok (.aload_n 0, 1) := by decide +kernel
theorem dX8_blend_32 : decode cX8_blend 32 = .ok (.getfield 16, 3) := by decide +kernel
theorem dX8_blend_35 : decode cX8_blend 35 = .ok (.aload_n 0, 1) := by decide +kernel
theorem dX8_blend_36 : decode cX8_blend 36 = .ok (.getfield 10, 3) := by decide +kernel
theorem dX8_blend_39 : decode cX8_blend 39 = .ok (.invokevirtual 137, 3) := by decide +kernel
theorem dX8_blend_42 : decode cX8_blend 42 = .ok (.aload_n 0, 1) := by decide +kernel
theorem dX8_blend_43 : decode cX8_blend 43 = .ok (.getfield 39, 3) := by decide +kernel
theorem dX8_blend_46 : decode cX8_blend 46 = .ok (.aload_n 0, 1) := by decide +kernel
theorem dX8_blend_47 : decode cX8_blend 47 = .ok (.getfield 32, 3) := by decide +kernel
theorem dX8_blend_50 : decode cX8_blend 50 = .ok (.aload_n 0, 1) := by decide +kernel
theorem dX8_blend_51 : decode cX8_blend 51 = .ok (.getfield 16, 3) := by decide +kernel
theorem dX8_blend_54 : decode cX8_blend 54 = .ok (.invokevirtual 158, 3) := by decide +kernel
theorem dX8_blend_57 : decode cX8_blend 57 = .ok (.pop, 1) := by decide +kernel
theorem dX8_blend_58 : decode cX8_blend 58 = .ok (.aload_n 0, 1) := by decide +kernel
theorem dX8_blend_59 : decode cX8_blend 59 = .ok (.getfield 39, 3) := by decide +kernel
theorem dX8_blend_62 : decode cX8_blend 62 = .ok (.getfield 187, 3) := by decide +kernel
theorem dX8_blend_65 : decode cX8_blend 65 = .ok (.iload_n 1, 1) := by decide +kernel
theorem dX8_blend_66 : decode cX8_blend 66 = .ok (.aaload, 1) := by decide +kernel
theorem dX8_blend_67 : decode cX8_blend 67 = .ok (.iload_n 2, 1) := by decide +kernel
theorem dX8_blend_68 : decode cX8_blend 68 = .ok (.iaload, 1) := by decide +kernel
theorem dX8_blend_69 : decode cX8_blend 69 = .ok (.aload_n 0, 1) := by decide +kernel
theorem dX8_blend_70 : decode cX8_blend 70 = .ok (.getfield 16, 3) := by decide +kernel
theorem dX8_blend_73 : decode cX8_blend 73 = .ok (.getfield 141, 3) := by decide +kernel
theorem dX8_blend_76 : decode cX8_blend 76 = .ok (.iload_n 2, 1) := by decide +kernel
theorem dX8_blend_77 : decode cX8_blend 77 = .ok (.iaload, 1) := by decide +kernel
theorem dX8_blend_78 : decode cX8_blend 78 = .ok (.iload_n 3, 1) := by decide +kernel
theorem dX8_blend_79 : decode cX8_blend 79 = .ok (.invokestatic 191, 3) := by decide +kernel
theorem dX8_blend_82 : decode cX8_blend 82 = .ok (.lreturn, 1) := by decide +kernel
theorem dX8_tells_0 : decode cX8_tells 0 = .ok (.iload_n 1, 1) := by decide +kernel
theorem dX8_tells_1 : decode cX8_tells 1 = .ok (.invokestatic 195, 3) := by decide +kernel
theorem dX8_tells_4 : decode cX8_tells 4 = .ok (.ifCond .eq 24, 3) := by decide +kernel
theorem dX8_tells_7 : decode cX8_tells 7 = .ok (.aload_n 0, 1) := by decide +kernel
theorem dX8_tells_8 : decode cX8_tells 8 = .ok (.getfield 10, 3) := by decide +kernel
theorem dX8_tells_11 : decode cX8_tells 11 = .ok (.iload_n 2, 1) := by decide +kernel
theorem dX8_tells_12 : decode cX8_tells 12 = .ok (.invokevirtual 77, 3) := by decide +kernel
theorem dX8_tells_15 : decode cX8_tells 15 = .ok (.ifCond .eq 13, 3) := by decide +kernel
theorem dX8_tells_18 : decode cX8_tells 18 = .ok (.iload_n 3, 1) := by decide +kernel
theorem dX8_tells_19 : decode cX8_tells 19 = .ok (.ifCond .lt 9, 3) := by decide +kernel
theorem dX8_tells_22 : decode cX8_tells 22 = .ok (.iload_n 3, 1) := by decide +kernel
theorem dX8_tells_23 : decode cX8_tells 23 = .ok (.bipush 7, 2) := by decide +kernel
theorem dX8_tells_25 : decode cX8_tells 25 = .ok (.if_icmp .le 6, 3) := by decide +kernel
theorem dX8_tells_28 : decode cX8_tells 28 = .ok (.bipush (-2), 2) := by decide +kernel
theorem dX8_tells_30 : decode cX8_tells 30 = .ok (.ireturn, 1) := by decide +kernel
theorem dX8_tells_31 : decode cX8_tells 31 = .ok (.aload_n 0, 1) := by decide +kernel
theorem dX8_tells_32 : decode cX8_tells 32 = .ok (.getfield 52, 3) := by decide +kernel
theorem dX8_tells_35 : decode cX8_tells 35 = .ok (.iload_n 1, 1) := by decide +kernel
theorem dX8_tells_36 : decode cX8_tells 36 = .ok (.aaload, 1) := by decide +kernel
theorem dX8_tells_37 : decode cX8_tells 37 = .ok (.astore 4, 2) := by decide +kernel
theorem dX8_tells_39 : decode cX8_tells 39 = .ok (.aload 4, 2) := by decide +kernel
theorem dX8_tells_41 : decode cX8_tells 41 = .ok (.invokevirtual 198, 3) := by decide +kernel
theorem dX8_tells_44 : decode cX8_tells 44 = .ok (.ifCond .eq 6, 3) := by decide +kernel
theorem dX8_tells_47 : decode cX8_tells 47 = .ok (.bipush (-11), 2) := by decide +kernel
theorem dX8_tells_49 : decode cX8_tells 49 = .ok (.ireturn, 1) := by decide +kernel
