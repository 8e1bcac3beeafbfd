theorem dX2_suitBits_25 : decode cX2_suitBits 25 = .ok (.iload 4, 2) := by decide +kernel
theorem dX2_suitBits_27 : decode cX2_suitBits 27 = .ok (.ishl, 1) := by decide +kernel
theorem dX2_suitBits_28 : decode cX2_suitBits 28 = .ok (.ior, 1) := by decide +kernel
theorem dX2_suitBits_29 : decode cX2_suitBits 29 = .ok (.istore_n 3, 1) := by decide +kernel
theorem dX2_suitBits_30 : decode cX2_suitBits 30 = .ok (.iinc 4 1, 3) := by decide +kernel
theorem dX2_suitBits_33 : decode cX2_suitBits 33 = .ok (.goto (-28), 3) := by decide +kernel
theorem dX2_suitBits_36 : decode cX2_suitBits 36 = .ok (.iload_n 3, 1) := by decide +kernel
theorem dX2_suitBits_37 : decode cX2_suitBits 37 = .ok (.ireturn, 1) := by decide +kernel
theorem dX2_easeOf_0 : decode cX2_easeOf 0 = .ok (.aload_n 1, 1) := by decide +kernel
theorem dX2_easeOf_1 : decode cX2_easeOf 1 = .ok (.iload_n 2, 1) := by decide +kernel
theorem dX2_easeOf_2 : decode cX2_easeOf 2 = .ok (.invokevirtual 35, 3) := by decide +kernel
theorem dX2_easeOf_5 : decode cX2_easeOf 5 = .ok (.ifCond .ne 5, 3) := by decide +kernel
theorem dX2_easeOf_8 : decode cX2_easeOf 8 = .ok (.iconst 0, 1) := by decide +kernel
theorem dX2_easeOf_9 : decode cX2_easeOf 9 = .ok (.ireturn, 1) := by decide +kernel
theorem dX2_easeOf_10 : decode cX2_easeOf 10 = .ok (.aload_n 0, 1) := by decide +kernel
theorem dX2_easeOf_11 : decode cX2_easeOf 11 = .ok (.aload_n 1, 1) := by decide +kernel
theorem dX2_easeOf_12 : decode cX2_easeOf 12 = .ok (.invokevirtual 44, 3) := by decide +kernel
theorem dX2_easeOf_15 : decode cX2_easeOf 15 = .ok (.iconst 2, 1) := by decide +kernel
theorem dX2_easeOf_16 : decode cX2_easeOf 16 = .ok (.aload_n 1, 1) := by decide +kernel
theorem dX2_easeOf_17 : decode cX2_easeOf 17 = .ok (.iload_n 2, 1) := by decide +kernel
theorem dX2_easeOf_18 : decode cX2_easeOf 18 = .ok (.iconst 0, 1) := by decide +kernel
theorem dX2_easeOf_19 : decode cX2_easeOf 19 = .ok (.aload_n 0, 1) := by decide +kernel
theorem dX2_easeOf_20 : decode cX2_easeOf 20 = .ok (.getfield 21, 3) := by decide +kernel
theorem dX2_easeOf_23 : decode cX2_easeOf 23 = .ok (.invokevirtual 48, 3) := by decide +kernel
theorem dX2_easeOf_26 : decode cX2_easeOf 26 = .ok (.invokestatic 52, 3) := by decide +kernel
theorem dX2_easeOf_29 : decode cX2_easeOf 29 = .ok (.istore_n 3, 1) := by decide +kernel
theorem dX2_easeOf_30 : decode cX2_easeOf 30 = .ok (.aload_n 1, 1) := by decide +kernel
theorem dX2_easeOf_31 : decode cX2_easeOf 31 = .ok (.getfield 69, 3) := by decide +kernel
theorem dX2_easeOf_34 : decode cX2_easeOf 34 = .ok (.iload_n 2, 1) := by decide +kernel
theorem dX2_easeOf_35 : decode cX2_easeOf 35 = .ok (.iaload, 1) := by decide +kernel
theorem dX2_easeOf_36 : decode cX2_easeOf 36 = .ok (.tableswitch 88 1 5 #[36, 40, 42, 60, 68], 36) := by decide +kernel
theorem dX2_easeOf_72 : decode cX2_easeOf 72 = .ok (.iload_n 3, 1) := by decide +kernel
theorem dX2_easeOf_73 : decode cX2_easeOf 73 = .ok (.iconst 2, 1) := by decide +kernel
theorem dX2_easeOf_74 : decode cX2_easeOf 74 = .ok (.idiv, 1) := by decide +kernel
theorem dX2_easeOf_75 : decode cX2_easeOf 75 = .ok (.ireturn, 1) := by decide +kernel
theorem dX2_easeOf_76 : decode cX2_easeOf 76 = .ok (.iconst 0, 1) := by decide +kernel
theorem dX2_easeOf_77 : decode cX2_easeOf 77 = .ok (.ireturn, 1) := by decide +kernel
theorem dX2_easeOf_78 : decode cX2_easeOf 78 = .ok (.aload_n 1, 1) := by decide +kernel
theorem dX2_easeOf_79 : decode cX2_easeOf 79 = .ok (.getfield 76, 3) := by decide +kernel
theorem dX2_easeOf_82 : decode cX2_easeOf 82 = .ok (.bipush 7, 2) := by decide +kernel
theorem dX2_easeOf_84 : decode cX2_easeOf 84 = .ok (.irem, 1) := by decide +kernel
theorem dX2_easeOf_85 : decode cX2_easeOf 85 = .ok (.ifCond .ne 7, 3) := by decide +kernel
theorem dX2_easeOf_88 : decode cX2_easeOf 88 = .ok (.iconst (-1), 1) := by decide +kernel
theorem dX2_easeOf_89 : decode cX2_easeOf 89 = .ok (.goto 6, 3) := by decide +kernel
theorem dX2_easeOf_92 : decode cX2_easeOf 92 = .ok (.iload_n 3, 1) := by decide +kernel
theorem dX2_easeOf_93 : decode cX2_easeOf 93 = .ok (.iconst 2, 1) := by decide +kernel
theorem dX2_easeOf_94 : decode cX2_easeOf 94 = .ok (.idiv, 1) := by decide +kernel
theorem dX2_easeOf_95 : decode cX2_easeOf 95 = .ok (.ireturn, 1) := by decide +kernel
theorem dX2_easeOf_96 : decode cX2_easeOf 96 = .ok (.aload_n 1, 1) := by decide +kernel
theorem dX2_easeOf_97 : decode cX2_easeOf 97 = .ok (.getfield 66, 3) := by decide +kernel
theorem dX2_easeOf_100 : decode cX2_easeOf 100 = .ok (.iload_n 2, 1) := by decide +kernel
theorem dX2_easeOf_101 : decode cX2_easeOf 101 = .ok (.iaload, 1) := by decide +kernel
theorem dX2_easeOf_102 : decode cX2_easeOf 102 = .ok (.ineg, 1) := by decide +kernel
theorem dX2_easeOf_103 : decode cX2_easeOf 103 = .ok (.ireturn, 1) := by decide +kernel
theorem dX2_easeOf_104 : decode cX2_easeOf 104 = .ok (.aload_n 1, 1) := by decide +kernel
theorem dX2_easeOf_105 : decode cX2_easeOf 105 = .ok (.getfield 79, 3) := by decide +kernel
theorem dX2_easeOf_108 : decode cX2_easeOf 108 = .ok (.iload_n 2, 1) := by decide +kernel
theorem dX2_easeOf_109 : decode cX2_easeOf 109 = .ok (.iaload, 1) := by decide +kernel
theorem dX2_easeOf_110 : decode cX2_easeOf 110 = .ok (.ifCond .le 12, 3) := by decide +kernel
theorem dX2_easeOf_113 : decode cX2_easeOf 113 = .ok (.aload_n 1, 1) := by decide +kernel
theorem dX2_easeOf_114 : decode cX2_easeOf 114 = .ok (.getfield 41, 3) := by decide +kernel
theorem dX2_easeOf_117 : decode cX2_easeOf 117 = .ok (.iload_n 2, 1) := by decide +kernel
theorem dX2_easeOf_118 : decode cX2_easeOf 118 = .ok (.iaload, 1) := by decide +kernel
theorem dX2_easeOf_119 : decode cX2_easeOf 119 = .ok (.goto 4, 3) := by decide +kernel
theorem dX2_easeOf_122 : decode cX2_easeOf 122 = .ok (.iload_n 3, 1) := by decide +kernel
theorem dX2_easeOf_123 : decode cX2_easeOf 123 = .ok (.ireturn, 1) := by decide +kernel
theorem dX2_easeOf_124 : decode cX2_easeOf 124 = .ok (.iload_n 3, 1) := by decide +kernel
theorem dX2_easeOf_125 : decode cX2_easeOf 125 = .ok (.ireturn, 1) := by decide +kernel
theorem dX2_easeOne_0 : decode cX2_easeOne 0 = .ok (.aload_n 1, 1) := by decide +kernel
theorem dX2_easeOne_1 : decode cX2_easeOne 1 = .ok (.iload_n 2, 1) := by decide +kernel
theorem dX2_easeOne_2 : decode cX2_easeOne 2 = .ok (.invokevirtual 35, 3) := by decide +kernel
theorem dX2_easeOne_5 : decode cX2_easeOne 5 = .ok (.ifCond .eq 25, 3) := by decide +kernel
theorem dX2_easeOne_8 : decode cX2_easeOne 8 = .ok (.aload_n 1, 1) := by decide +kernel
theorem dX2_easeOne_9 : decode cX2_easeOne 9 = .ok (.getfield 41, 3) := by decide +kernel
theorem dX2_easeOne_12 : decode cX2_easeOne 12 = .ok (.iload_n 2, 1) := by decide +kernel
theorem dX2_easeOne_13 : decode cX2_easeOne 13 = .ok (.aload_n 1, 1) := by decide +kernel
theorem dX2_easeOne_14 : decode cX2_easeOne 14 = .ok (.getfield 41, 3) := by decide +kernel
theorem dX2_easeOne_17 : decode cX2_easeOne 17 = .ok (.iload_n 2, 1) := by decide +kernel
theorem dX2_easeOne_18 : decode cX2_easeOne 18 = .ok (.iaload, 1) := by decide +kernel
theorem dX2_easeOne_19 : decode cX2_easeOne 19 = .ok (.aload_n 0, 1) := by decide +kernel
theorem dX2_easeOne_20 : decode cX2_easeOne 20 = .ok (.aload_n 1, 1) := by decide +kernel
theorem dX2_easeOne_21 : decode cX2_easeOne 21 = .ok (.iload_n 2, 1) := by decide +kernel
theorem dX2_easeOne_22 : decode cX2_easeOne 22 = .ok (.invokevirtual 82, 3) := by decide +kernel
theorem dX2_easeOne_25 : decode cX2_easeOne 25 = .ok (.isub, 1) := by decide +kernel
theorem dX2_easeOne_26 : decode cX2_easeOne 26 = .ok (.invokestatic 52, 3) := by decide +kernel
theorem dX2_easeOne_29 : decode cX2_easeOne 29 = .ok (.iastore, 1) := by decide +kernel
theorem dX2_easeOne_30 : decode cX2_easeOne 30 = .ok (.return_, 1) := by decide +kernel
theorem dX2_yieldByKind_0 : decode cX2_yieldByKind 0 = .ok (.aload_n 1, 1) := by decide +kernel
theorem dX2_yieldByKind_1 : decode cX2_yieldByKind 1 = .ok (.getfield 76, 3) := by decide +kernel
theorem dX2_yieldByKind_4 : decode cX2_yieldByKind 4 = .ok (.iconst 2, 1) := by decide +kernel
theorem dX2_yieldByKind_5 : decode cX2_yieldByKind 5 = .ok (.irem, 1) := by decide +kernel
theorem dX2_yieldByKind_6 : decode cX2_yieldByKind 6 = .ok (.ifCond .ne 7, 3) := by decide +kernel
theorem dX2_yieldByKind_9 : decode cX2_yieldByKind 9 = .ok (.iload_n 3, 1) := by decide +kernel
theorem dX2_yieldByKind_10 : decode cX2_yieldByKind 10 = .ok (.goto 11, 3) := by decide +kernel
theorem dX2_yieldByKind_13 : decode cX2_yieldByKind 13 = .ok (.iload_n 3, 1) := by decide +kernel
theorem dX2_yieldByKind_14 : decode cX2_yieldByKind 14 = .ok (.aload_n 1, 1) := by decide +kernel
theorem dX2_yieldByKind_15 : decode cX2_yieldByKind 15 = .ok (.getfield 66, 3) := by decide +kernel
theorem dX2_yieldByKind_18 : decode cX2_yieldByKind 18 = .ok (.iload_n 2, 1) := by decide +kernel
theorem dX2_yieldByKind_19 : decode cX2_yieldByKind 19 = .ok (.iaload, 1) := by decide +kernel
theorem dX2_yieldByKind_20 : decode cX2_yieldByKind 20 = .ok (.iadd, 1) := by decide +kernel
theorem dX2_yieldByKind_21 : decode cX2_yieldByKind 21 = .ok (.istore 4, 2) := by decide +kernel
theorem dX2_yieldByKind_23 : decode cX2_yieldByKind 23 = .ok (.aload_n 1, 1) := by decide +kernel
theorem dX2_yieldByKind_24 : decode cX2_yieldByKind 24 = .ok (.getfield 69, 3) := by decide +kernel
theorem dX2_yieldByKind_27 : decode cX2_yieldByKind 27 = .ok (.iload_n 2, 1) := by decide +kernel
theorem dX2_yieldByKind_28 : decode cX2_yieldByKind 28 = .ok (.iaload, 1) := by decide +kernel
theorem dX2_yieldByKind_29 : decode cX2_yieldByKind 29 = .ok (.tableswitch 82 1 5 #[35, 38, 42, 50, 67], 35) := by decide +kernel
theorem dX2_yieldByKind_64 : decode cX2_yieldByKind 64 = .ok (.iload 4, 2) := by decide +kernel
theorem dX2_yieldByKind_66 : decode cX2_yieldByKind 66 = .ok (.ireturn, 1) := by decide +kernel
theorem dX2_yieldByKind_67 : decode cX2_yieldByKind 67 = .ok (.iconst 2, 1) := by decide +kernel
theorem dX2_yieldByKind_68 : decode cX2_yieldByKind 68 = .ok (.iload_n 3, 1) := by decide +kernel
theorem dX2_yieldByKind_69 : decode cX2_yieldByKind 69 = .ok (.imul, 1) := by decide +kernel
theorem dX2_yieldByKind_70 : decode cX2_yieldByKind 70 = .ok (.ireturn, 1) := by decide +kernel
theorem dX2_yieldByKind_71 : decode cX2_yieldByKind 71 = .ok (.bipush 20, 2) := by decide +kernel
theorem dX2_yieldByKind_73 : decode cX2_yieldByKind 73 = .ok (.iload 4, 2) := by decide +kernel
theorem dX2_yieldByKind_75 : decode cX2_yieldByKind 75 = .ok (.invokestatic 29, 3) := by decide +kernel
theorem dX2_yieldByKind_78 : decode cX2_yieldByKind 78 = .ok (.ireturn, 1) := by decide +kernel
theorem dX2_yieldByKind_79 : decode cX2_yieldByKind 79 = .ok (.aload_n 1, 1) := by decide +kernel
theorem dX2_yieldByKind_80 : decode cX2_yieldByKind 80 = .ok (.getfield 86, 3) := by decide +kernel
theorem dX2_yieldByKind_83 : decode cX2_yieldByKind 83 = .ok (.bipush 11, 2) := by decide +kernel
theorem dX2_yieldByKind_85 : decode cX2_yieldByKind 85 = .ok (.if_icmp .ge 7, 3) := by decide +kernel
theorem dX2_yieldByKind_88 : decode cX2_yieldByKind 88 = .ok (.iconst 0, 1) := by decide +kernel
theorem dX2_yieldByKind_89 : decode cX2_yieldByKind 89 = .ok (.goto 6, 3) := by decide +kernel
theorem dX2_yieldByKind_92 : decode cX2_yieldByKind 92 = .ok (.iconst 2, 1) := by decide +kernel
theorem dX2_yieldByKind_93 : decode cX2_yieldByKind 93 = .ok (.iload_n 3, 1) := by decide +kernel
theorem dX2_yieldByKind_94 : decode cX2_yieldByKind 94 = .ok (.imul, 1) := by decide +kernel
theorem dX2_yieldByKind_95 : decode cX2_yieldByKind 95 = .ok (.ireturn, 1) := by decide +kernel
theorem dX2_yieldByKind_96 : decode cX2_yieldByKind 96 = .ok (.aload_n 1, 1) := by decide +kernel
theorem dX2_yieldByKind_97 : decode cX2_yieldByKind 97 = .ok (.getfield 79, 3) := by decide +kernel
theorem dX2_yieldByKind_100 : decode cX2_yieldByKind 100 = .ok (.iload_n 2, 1) := by decide +kernel
theorem dX2_yieldByKind_101 : decode cX2_yieldByKind 101 = .ok (.iaload, 1) := by decide +kernel
theorem dX2_yieldByKind_102 : decode cX2_yieldByKind 102 = .ok (.ifCond .le 7, 3) := by decide +kernel
theorem dX2_yieldByKind_105 : decode cX2_yieldByKind 105 = .ok (.iconst 0, 1) := by decide +kernel
theorem dX2_yieldByKind_106 : decode cX2_yieldByKind 106 = .ok (.goto 4, 3) := by decide +kernel
theorem dX2_yieldByKind_109 : decode cX2_yieldByKind 109 = .ok (.iload_n 3, 1) := by decide +kernel
theorem dX2_yieldByKind_110 : decode cX2_yieldByKind 110 = .ok (.ireturn, 1) := by decide +kernel
theorem dX2_yieldByKind_111 : decode cX2_yieldByKind 111 = .ok (.iload_n 3, 1) := by decide +kernel
theorem dX2_yieldByKind_112 : decode cX2_yieldByKind 112 = .ok (.ireturn, 1) := by decide +kernel
theorem dX2_ruling_0 : decode cX2_ruling 0 = .ok (.aload_n 0, 1) := by decide +kernel
theorem dX2_ruling_1 : decode cX2_ruling 1 = .ok (.getfield 11, 3) := by decide +kernel
theorem dX2_ruling_4 : decode cX2_ruling 4 = .ok (.aload_n 0, 1) := by decide +kernel
theorem dX2_ruling_5 : decode cX2_ruling 5 = .ok (.aload_n 1, 1) := by decide +kernel
theorem dX2_ruling_6 : decode cX2_ruling 6 = .ok (.getfield 89, 3) := by decide +kernel
theorem dX2_ruling_9 : decode cX2_ruling 9 = .ok (.invokevirtual 92, 3) := by decide +kernel
theorem dX2_ruling_12 : decode cX2_ruling 12 = .ok (.ifCond .eq 10, 3) := by decide +kernel
theorem dX2_ruling_15 : decode cX2_ruling 15 = .ok (.aload_n 1, 1) := by decide +kernel
theorem dX2_ruling_16 : decode cX2_ruling 16 = .ok (.getfield 89, 3) := by decide +kernel
theorem dX2_ruling_19 : decode cX2_ruling 19 = .ok (.goto 4, 3) := by decide +kernel
theorem dX2_ruling_22 : decode cX2_ruling 22 = .ok (.iconst 0, 1) := by decide +kernel
theorem dX2_ruling_23 : decode cX2_ruling 23 = .ok (.aaload, 1) := by decide +kernel
theorem dX2_ruling_24 : decode cX2_ruling 24 = .ok (.areturn, 1) := by decide +kernel
theorem dX3_init_0 : decode cX3_init 0 = .ok (.aload_n 0, 1) := by decide +kernel
theorem dX3_init_1 : decode cX3_init 1 = .ok (.invokespecial 3, 3) := by decide +kernel
theorem dX3_init_4 : decode cX3_init 4 = .ok (.aload_n 0, 1) := by decide +kernel
theorem dX3_init_5 : decode cX3_init 5 = .ok (.iconst 5, 1) := by decide +kernel
theorem dX3_init_6 : decode cX3_init 6 = .ok (.bipush 6, 2) := by decide +kernel
theorem dX3_init_8 : decode cX3_init 8 = .ok (.multianewarray 9 2, 4) := by decide +kernel
theorem dX3_init_12 : decode cX3_init 12 = .ok (.putfield 11, 3) := by decide +kernel
theorem dX3_init_15 : decode cX3_init 15 = .ok (.return_, 1) := by decide +kernel
theorem dX3_pass_0 : decode cX3_pass 0 = .ok (.aload_n 0, 1) := by decide +kernel
theorem dX3_pass_1 : decode cX3_pass 1 = .ok (.aload_n 1, 1) := by decide +kernel
theorem dX3_pass_2 : decode cX3_pass 2 = .ok (.aload_n 2, 1) := by decide +kernel
theorem dX3_pass_3 : decode cX3_pass 3 = .ok (.invokevirtual 16, 3) := by decide +kernel
theorem dX3_pass_6 : decode cX3_pass 6 = .ok (.istore_n 3, 1) := by decide +kernel
theorem dX3_pass_7 : decode cX3_pass 7 = .ok (.iconst 0, 1) := by decide +kernel
theorem dX3_pass_8 : decode cX3_pass 8 = .ok (.istore 4, 2) := by decide +kernel
theorem dX3_pass_10 : decode cX3_pass 10 = .ok (.iload 4, 2) := by decide +kernel
theorem dX3_pass_12 : decode cX3_pass 12 = .ok (.aload_n 2, 1) := by decide +kernel
theorem dX3_pass_13 : decode cX3_pass 13 = .ok (.getfield 20, 3) := by decide +kernel
theorem dX3_pass_16 : decode cX3_pass 16 = .ok (.if_icmp .ge 16, 3) := by decide +kernel
theorem dX3_pass_19 : decode cX3_pass 19 = .ok (.aload_n 1, 1) := by decide +kernel
theorem dX3_pass_20 : decode cX3_pass 20 = .ok (.aload_n 2, 1) := by decide +kernel
theorem dX3_pass_21 : decode cX3_pass 21 = .ok (.iload 4, 2) := by decide +kernel
theorem dX3_pass_23 : decode cX3_pass 23 = .ok (.invokevirtual 26, 3) := by decide +kernel
theorem dX3_pass_26 : decode cX3_pass 26 = .ok (.iinc 4 1, 3) := by decide +kernel
theorem dX3_pass_29 : decode cX3_pass 29 = .ok (.goto (-19), 3) := by decide +kernel
theorem dX3_pass_32 : decode cX3_pass 32 = .ok (.aload_n 2, 1) := by decide +kernel
theorem dX3_pass_33 : decode cX3_pass 33 = .ok (.dup, 1) := by decide +kernel
theorem dX3_pass_34 : decode cX3_pass 34 = .ok (.getfield 32, 3) := by decide +kernel
theorem dX3_pass_37 : decode cX3_pass 37 = .ok (.iconst 1, 1) := by decide +kernel
theorem dX3_pass_38 : decode cX3_pass 38 = .ok (.iadd, 1) := by decide +kernel
theorem dX3_pass_39 : decode cX3_pass 39 = .ok (.putfield 32, 3) := by decide +kernel
theorem dX3_pass_42 : decode cX3_pass 42 = .ok (.iload_n 3, 1) := by decide +kernel
theorem dX3_pass_43 : decode cX3_pass 43 = .ok (.ireturn, 1) := by decide +kernel
theorem dX3_pourAll_0 : decode cX3_pourAll 0 = .ok (.iconst 0, 1) := by decide +kernel
theorem dX3_pourAll_1 : decode cX3_pourAll 1 = .ok (.istore_n 3, 1) := by decide +kernel
theorem dX3_pourAll_2 : decode cX3_pourAll 2 = .ok (.iload_n 3, 1) := by decide +kernel
theorem dX3_pourAll_3 : decode cX3_pourAll 3 = .ok (.bipush 6, 2) := by decide +kernel
theorem dX3_pourAll_5 : decode cX3_pourAll 5 = .ok (.if_icmp .ge 16, 3) := by decide +kernel
theorem dX3_pourAll_8 : decode cX3_pourAll 8 = .ok (.aload_n 2, 1) := by decide +kernel
theorem dX3_pourAll_9 : decode cX3_pourAll 9 = .ok (.getfield 35, 3) := by decide +kernel
theorem dX3_pourAll_12 : decode cX3_pourAll 12 = .ok (.iload_n 3, 1) := by decide +kernel
theorem dX3_pourAll_13 : decode cX3_pourAll 13 = .ok (.iconst 0, 1) := by decide +kernel
theorem dX3_pourAll_14 : decode cX3_pourAll 14 = .ok (.iastore, 1) := by decide +kernel
theorem dX3_pourAll_15 : decode cX3_pourAll 15 = .ok (.iinc 3 1, 3) := by decide +kernel
theorem dX3_pourAll_18 : decode cX3_pourAll 18 = .ok (.goto (-16), 3) := by decide +kernel
theorem dX3_pourAll_21 : decode cX3_pourAll 21 = .ok (.iconst 0, 1) := by decide +kernel
theorem dX3_pourAll_22 : decode cX3_pourAll 22 = .ok (.istore_n 3, 1) := by decide +kernel
theorem dX3_pourAll_23 : decode cX3_pourAll 23 = .ok (.iconst 0, 1) := by decide +kernel
theorem dX3_pourAll_24 : decode cX3_pourAll 24 = .ok (.istore 4, 2) := by decide +kernel
theorem dX3_pourAll_26 : decode cX3_pourAll 26 = .ok (.iload 4, 2) := by decide +kernel
theorem dX3_pourAll_28 : decode cX3_pourAll 28 = .ok (.aload_n 2, 1) := by decide +kernel
theorem dX3_pourAll_29 : decode cX3_pourAll 29 = .ok (.getfield 20, 3) := by decide +kernel
theorem dX3_pourAll_32 : decode cX3_pourAll 32 = .ok (.if_icmp .ge 26, 3) := by decide +kernel
theorem dX3_pourAll_35 : decode cX3_pourAll 35 = .ok (.iload 4, 2) := by decide +kernel
theorem dX3_pourAll_37 : decode cX3_pourAll 37 = .ok (.iconst 5, 1) := by decide +kernel
theorem dX3_pourAll_38 : decode cX3_pourAll 38 = .ok (.if_icmp .ge 20, 3) := by decide +kernel
theorem dX3_pourAll_41 : decode cX3_pourAll 41 = .ok (.iload_n 3, 1) := by decide +kernel
theorem dX3_pourAll_42 : decode cX3_pourAll 42 = .ok (.aload_n 0, 1) := by decide +kernel
theorem dX3_pourAll_43 : decode cX3_pourAll 43 = .ok (.aload_n 1, 1) := by decide +kernel
theorem dX3_pourAll_44 : decode cX3_pourAll 44 = .ok (.aload_n 2, 1) := by decide +kernel
theorem dX3_pourAll_45 : decode cX3_pourAll 45 = .ok (.iload 4, 2) := by decide +kernel
theorem dX3_pourAll_47 : decode cX3_pourAll 47 = .ok (.invokevirtual 39, 3) := by decide +kernel
theorem dX3_pourAll_50 : decode cX3_pourAll 50 = .ok (.iadd, 1) := by decide +kernel
theorem dX3_pourAll_51 : decode cX3_pourAll 51 = .ok (.istore_n 3, 1) := by decide +kernel
theorem dX3_pourAll_52 : decode cX3_pourAll 52 = .ok (.iinc 4 1, 3) := by decide +kernel
theorem dX3_pourAll_55 : decode cX3_pourAll 55 = .ok (.goto (-29), 3) := by decide +kernel
theorem dX3_pourAll_58 : decode cX3_pourAll 58 = .ok (.iload_n 3, 1) := by decide +kernel
theorem dX3_pourAll_59 : decode cX3_pourAll 59 = .ok (.ireturn, 1) := by decide +kernel
theorem dX3_pourOf_0 : decode cX3_pourOf 0 = .ok (.aload_n 1, 1) := by decide +kernel
theorem dX3_pourOf_1 : decode cX3_pourOf 1 = .ok (.aload_n 2, 1) := by decide +kernel
theorem dX3_pourOf_2 : decode cX3_pourOf 2 = .ok (.iload_n 3, 1) := by decide +kernel
theorem dX3_pourOf_3 : decode cX3_pourOf 3 = .ok (.invokevirtual 43, 3) := by decide +kernel
theorem dX3_pourOf_6 : decode cX3_pourOf 6 = .ok (.istore 4, 2) := by decide +kernel
theorem dX3_pourOf_8 : decode cX3_pourOf 8 = .ok (.iload 4, 2) := by decide +kernel
theorem dX3_pourOf_10 : decode cX3_pourOf 10 = .ok (.istore 5, 2) := by decide +kernel
theorem dX3_pourOf_12 : decode cX3_pourOf 12 = .ok (.iconst 0, 1) := by decide +kernel
theorem dX3_pourOf_13 : decode cX3_pourOf 13 = .ok (.istore 6, 2) := by decide +kernel
theorem dX3_pourOf_15 : decode cX3_pourOf 15 = .ok (.iload 6, 2) := by decide +kernel
theorem dX3_pourOf_17 : decode cX3_pourOf 17 = .ok (.bipush 6, 2) := by decide +kernel
theorem dX3_pourOf_19 : decode cX3_pourOf 19 = .ok (.if_icmp .ge 80, 3) := by decide +kernel
theorem dX3_pourOf_22 : decode cX3_pourOf 22 = .ok (.iload 5, 2) := by decide +kernel
theorem dX3_pourOf_24 : decode cX3_pourOf 24 = .ok (.aload_n 2, 1) := by decide +kernel
theorem dX3_pourOf_25 : decode cX3_pourOf 25 = .ok (.getfield 47, 3) := by decide +kernel
theorem dX3_pourOf_28 : decode cX3_pourOf 28 = .ok (.iload 6, 2) := by decide +kernel
theorem dX3_pourOf_30 : decode cX3_pourOf 30 = .ok (.iaload, 1) := by decide +kernel
theorem dX3_pourOf_31 : decode cX3_pourOf 31 = .ok (.aload_n 2, 1) := by decide +kernel
theorem dX3_pourOf_32 : decode cX3_pourOf 32 = .ok (.getfield 35, 3) := by decide +kernel
theorem dX3_pourOf_35 : decode cX3_pourOf 35 = .ok (.iload 6, 2) := by decide +kernel
theorem dX3_pourOf_37 : decode cX3_pourOf 37 = .ok (.iaload, 1) := by decide +kernel
theorem dX3_pourOf_38 : decode cX3_pourOf 38 = .ok (.isub, 1) := by decide +kernel
theorem dX3_pourOf_39 : decode cX3_pourOf 39 = .ok (.invokestatic 50, 3) := by decide +kernel
theorem dX3_pourOf_42 : decode cX3_pourOf 42 = .ok (.istore 7, 2) := by decide +kernel
theorem dX3_pourOf_44 : decode cX3_pourOf 44 = .ok (.iload 7, 2) := by decide +kernel
theorem dX3_pourOf_46 : decode cX3_pourOf 46 = .ok (.ifCond .le 17, 3) := by decide +kernel
theorem dX3_pourOf_49 : decode cX3_pourOf 49 = .ok (.aload_n 1, 1) := by decide +kernel
theorem dX3_pourOf_50 : decode cX3_pourOf 50 = .ok (.aload_n 2, 1) := by decide +kernel
theorem dX3_pourOf_51 : decode cX3_pourOf 51 = .ok (.iload_n 3, 1) := by decide +kernel
theorem dX3_pourOf_52 : decode cX3_pourOf 52 = .ok (.iload 6, 2) := by decide +kernel
theorem dX3_pourOf_54 : decode cX3_pourOf 54 = .ok (.invokevirtual 56, 3) := by decide +kernel
theorem dX3_pourOf_57 : decode cX3_pourOf 57 = .ok (.ifCond .ne 6, 3) := by decide +kernel
theorem dX3_pourOf_60 : decode cX3_pourOf 60 = .ok (.iconst 0, 1) := by decide +kernel
theorem dX3_pourOf_61 : decode cX3_pourOf 61 = .ok (.istore 7, 2) := by decide +kernel
theorem dX3_pourOf_63 : decode cX3_pourOf 63 = .ok (.aload_n 0, 1) := by decide +kernel
theorem dX3_pourOf_64 : decode cX3_pourOf 64 = .ok (.getfield 11, 3) := by decide +kernel
theorem dX3_pourOf_67 : decode cX3_pourOf 67 = .ok (.iload_n 3, 1) := by decide +kernel
theorem dX3_pourOf_68 : decode cX3_pourOf 68 = .ok (.aaload, 1) := by decide +kernel
theorem dX3_pourOf_69 : decode cX3_pourOf 69 = .ok (.iload 6, 2) := by decide +kernel
theorem dX3_pourOf_71 : decode cX3_pourOf 71 = .ok (.iload 7, 2) := by decide +kernel
theorem dX3_pourOf_73 : decode cX3_pourOf 73 = .ok (.iastore, 1) := by decide +kernel
theorem dX3_pourOf_74 : decode cX3_pourOf 74 = .ok (.aload_n 2, 1) := by decide +kernel
theorem dX3_pourOf_75 : decode cX3_pourOf 75 = .ok (.getfield 35, 3) := by decide +kernel
theorem dX3_pourOf_78 : decode cX3_pourOf 78 = .ok (.iload 6, 2) := by decide +kernel
theorem dX3_pourOf_80 : decode cX3_pourOf 80 = .ok (.dup2, 1) := by decide +kernel
theorem dX3_pourOf_81 : decode cX3_pourOf 81 = .ok (.iaload, 1) := by decide +kernel
theorem dX3_pourOf_82 : decode cX3_pourOf 82 = .ok (.iload 7, 2) := by decide +kernel
theorem dX3_pourOf_84 : decode cX3_pourOf 84 = .ok (.iadd, 1) := by decide +kernel
theorem dX3_pourOf_85 : decode cX3_pourOf 85 = .ok (.iastore, 1) := by decide +kernel
theorem dX3_pourOf_86 : decode cX3_pourOf 86 = .ok (.iload 5, 2) := by decide +kernel
theorem dX3_pourOf_88 : decode cX3_pourOf 88 = .ok (.iload 7, 2) := by decide +kernel
theorem dX3_pourOf_90 : decode cX3_pourOf 90 = .ok (.isub, 1) := by decide +kernel
theorem dX3_pourOf_91 : decode cX3_pourOf 91 = .ok (.istore 5, 2) := by decide +kernel
theorem dX3_pourOf_93 : decode cX3_pourOf 93 = .ok (.iinc 6 1, 3) := by decide +kernel
theorem dX3_pourOf_96 : decode cX3_pourOf 96 = .ok (.goto (-81), 3) := by decide +kernel
theorem dX3_pourOf_99 : decode cX3_pourOf 99 = .ok (.iload 4, 2) := by decide +kernel
theorem dX3_pourOf_101 : decode cX3_pourOf 101 = .ok (.iload 5, 2) := by decide +kernel
theorem dX3_pourOf_103 : decode cX3_pourOf 103 = .ok (.isub, 1) := by decide +kernel
theorem dX3_pourOf_104 : decode cX3_pourOf 104 = .ok (.ireturn, 1) := by decide +kernel
theorem dX4_init_0 : decode cX4_init 0 = .ok (.aload_n 0, 1) := by decide +kernel
theorem dX4_init_1 : decode cX4_init 1 = .ok (.invokespecial 3, 3) := by decide +kernel
theorem dX4_init_4 : decode cX4_init 4 = .ok (.aload_n 0, 1) := by decide +kernel
theorem dX4_init_5 : decode cX4_init 5 = .ok (.sipush 160, 3) := by decide +kernel
theorem dX4_init_8 : decode cX4_init 8 = .ok (.newarray .int, 2) := by decide +kernel
theorem dX4_init_10 : decode cX4_init 10 = .ok (.putfield 9, 3) := by decide +kernel
theorem dX4_init_13 : decode cX4_init 13 = .ok (.aload_n 0, 1) := by decide +kernel
theorem dX4_init_14 : decode cX4_init 14 = .ok (.new 15, 3) := by decide +kernel
theorem dX4_init_17 : decode cX4_init 17 = .ok (.dup, 1) := by decide +kernel
theorem dX4_init_18 : decode cX4_init 18 = .ok (.invokespecial 17, 3) := by decide +kernel
theorem dX4_init_21 : decode cX4_init 21 = .ok (.putfield 18, 3) := by decide +kernel
theorem dX4_init_24 : decode cX4_init 24 = .ok (.return_, 1) := by decide +kernel
theorem dX4_take_0 : decode cX4_take 0 = .ok (.aload_n 0, 1) := by decide +kernel
theorem dX4_take_1 : decode cX4_take 1 = .ok (.getfield 22, 3) := by decide +kernel
theorem dX4_take_4 : decode cX4_take 4 = .ok (.sipush 160, 3) := by decide +kernel
theorem dX4_take_7 : decode cX4_take 7 = .ok (.if_icmp .lt 5, 3) := by decide +kernel
theorem dX4_take_10 : decode cX4_take 10 = .ok (.iconst 0, 1) := by decide +kernel
theorem dX4_take_11 : decode cX4_take 11 = .ok (.ireturn, 1) := by decide +kernel
theorem dX4_take_12 : decode cX4_take 12 = .ok (.aload_n 0, 1) := by decide +kernel
theorem dX4_take_13 : decode cX4_take 13 = .ok (.getfield 9, 3) := by decide +kernel
theorem dX4_take_16 : decode cX4_take 16 = .ok (.aload_n 0, 1) := by decide +kernel
theorem dX4_take_17 : decode cX4_take 17 = .ok (.getfield 22, 3) := by decide +kernel
theorem dX4_take_20 : decode cX4_take 20 = .ok (.iload_n 1, 1) := by decide +kernel
theorem dX4_take_21 : decode cX4_take 21 = .ok (.iastore, 1) := by decide +kernel
theorem dX4_take_22 : decode cX4_take 22 = .ok (.aload_n 0, 1) := by decide +kernel
theorem dX4_take_23 : decode cX4_take 23 = .ok (.dup, 1) := by decide +kernel
theorem dX4_take_24 : decode cX4_take 24 = .ok (.getfield 22, 3) := by decide +kernel
theorem dX4_take_27 : decode cX4_take 27 = .ok (.iconst 1, 1) := by decide +kernel
theorem dX4_take_28 : decode cX4_take 28 = .ok (.iadd, 1) := by decide +kernel
theorem dX4_take_29 : decode cX4_take 29 = .ok (.putfield 22, 3) := by decide +kernel
theorem dX4_take_32 : decode cX4_take 32 = .ok (.iconst 1, 1) := by decide +kernel
theorem dX4_take_33 : decode cX4_take 33 = .ok (.ireturn, 1) := by decide +kernel
theorem dX4_read_0 : decode cX4_read 0 = .ok (.aload_n 0, 1) := by decide +kernel
theorem dX4_read_1 : decode cX4_read 1 = .ok (.aload_n 1, 1) := by decide +kernel
theorem dX4_read_2 : decode cX4_read 2 = .ok (.putfield 18, 3) := by decide +kernel
theorem dX4_read_5 : decode cX4_read 5 = .ok (.aload_n 0, 1) := by decide +kernel
theorem dX4_read_6 : decode cX4_read 6 = .ok (.getfield 18, 3) := by decide +kernel
theorem dX4_read_9 : decode cX4_read 9 = .ok (.invokevirtual 26, 3) := by decide +kernel
theorem dX4_read_12 : decode cX4_read 12 = .ok (.aload_n 0, 1) := by decide +kernel
theorem dX4_read_13 : decode cX4_read 13 = .ok (.iconst 0, 1) := by decide +kernel
theorem dX4_read_14 : decode cX4_read 14 = .ok (.putfield 29, 3) := by decide +kernel
theorem dX4_read_17 : decode cX4_read 17 = .ok (.aload_n 0, 1) := by decide +kernel
theorem dX4_read_18 : decode cX4_read 18 = .ok (.invokevirtual 32, 3) := by decide +kernel
theorem dX4_read_21 : decode cX4_read 21 = .ok (.aload_n 0, 1) := by decide +kernel
theorem dX4_read_22 : decode cX4_read 22 = .ok (.sipush 256, 3) := by decide +kernel
theorem dX4_read_25 : decode cX4_read 25 = .ok (.iconst 0, 1) := by decide +kernel
theorem dX4_read_26 : decode cX4_read 26 = .ok (.invokevirtual 37, 3) := by decide +kernel
theorem dX4_read_29 : decode cX4_read 29 = .ok (.ifCond .eq 39, 3) := by decide +kernel
theorem dX4_read_32 : decode cX4_read 32 = .ok (.aload_n 0, 1) := by decide +kernel
theorem dX4_read_33 : decode cX4_read 33 = .ok (.sipush 257, 3) := by decide +kernel
theorem dX4_read_36 : decode cX4_read 36 = .ok (.iconst 1, 1) := by decide +kernel
theorem dX4_read_37 : decode cX4_read 37 = .ok (.invokevirtual 37, 3) := by decide +kernel
theorem dX4_read_40 : decode cX4_read 40 = .ok (.ifCond .eq 28, 3) := by decide +kernel
theorem dX4_read_43 : decode cX4_read 43 = .ok (.aload_n 0, 1) := by decide +kernel
theorem dX4_read_44 : decode cX4_read 44 = .ok (.sipush 258, 3) := by decide +kernel
theorem dX4_read_47 : decode cX4_read 47 = .ok (.iconst 2, 1) := by decide +kernel
theorem dX4_read_48 : decode cX4_read 48 = .ok (.invokevirtual 37, 3) := by decide +kernel
theorem dX4_read_51 : decode cX4_read 51 = .ok (.ifCond .eq 17, 3) := by decide +kernel
theorem dX4_read_54 : decode cX4_read 54 = .ok (.aload_n 0, 1) := by decide +kernel
theorem dX4_read_55 : decode cX4_read 55 = .ok (.getfield 41, 3) := by decide +kernel
theorem dX4_read_58 : decode cX4_read 58 = .ok (.sipush 269, 3) := by decide +kernel
theorem dX4_read_61 : decode cX4_read 61 = .ok (.if_icmp .ne 7, 3) := by decide +kernel
theorem dX4_read_64 : decode cX4_read 64 = .ok (.iconst 1, 1) := by decide +kernel
theorem dX4_read_65 : decode cX4_read 65 = .ok (.goto 4, 3) := by decide +kernel
theorem dX4_read_68 : decode cX4_read 68 = .ok (.iconst 0, 1) := by decide +kernel
theorem dX4_read_69 : decode cX4_read 69 = .ok (.istore_n 2, 1) := by decide +kernel
theorem dX4_read_70 : decode cX4_read 70 = .ok (.aload_n 0, 1) := by decide +kernel
theorem dX4_read_71 : decode cX4_read 71 = .ok (.iconst 0, 1) := by decide +kernel
theorem dX4_read_72 : decode cX4_read 72 = .ok (.putfield 22, 3) := by decide +kernel
theorem dX4_read_75 : decode cX4_read 75 = .ok (.iload_n 2, 1) := by decide +kernel
theorem dX4_read_76 : decode cX4_read 76 = .ok (.ifCond .eq 7, 3) := by decide +kernel
theorem dX4_read_79 : decode cX4_read 79 = .ok (.iconst (-1), 1) := by decide +kernel
theorem dX4_read_80 : decode cX4_read 80 = .ok (.goto 7, 3) := by decide +kernel
theorem dX4_read_83 : decode cX4_read 83 = .ok (.aload_n 0, 1) := by decide +kernel
theorem dX4_read_84 : decode cX4_read 84 = .ok (.getfield 44, 3) := by decide +kernel
theorem dX4_read_87 : decode cX4_read 87 = .ok (.ireturn, 1) := by decide +kernel
theorem dX4_readPart_0 : decode cX4_readPart 0 = .ok (.aload_n 0, 1) := by decide +kernel
theorem dX4_readPart_1 : decode cX4_readPart 1 = .ok (.getfield 41, 3) := by decide +kernel
theorem dX4_readPart_4 : decode cX4_readPart 4 = .ok (.iload_n 1, 1) := by decide +kernel
theorem dX4_readPart_5 : decode cX4_readPart 5 = .ok (.if_icmp .eq 5, 3) := by decide +kernel
theorem dX4_readPart_8 : decode cX4_readPart 8 = .ok (.iconst 0, 1) := by decide +kernel
theorem dX4_readPart_9 : decode cX4_readPart 9 = .ok (.ireturn, 1) := by decide +kernel
theorem dX4_readPart_10 : decode cX4_readPart 10 = .ok (.aload_n 0, 1) := by decide +kernel
theorem dX4_readPart_11 : decode cX4_readPart 11 = .ok (.invokevirtual 32, 3) := by decide +kernel
theorem dX4_readPart_14 : decode cX4_readPart 14 = .ok (.aload_n 0, 1) := by decide +kernel
theorem dX4_readPart_15 : decode cX4_readPart 15 = .ok (.iconst 0, 1) := by decide +kernel
theorem dX4_readPart_16 : decode cX4_readPart 16 = .ok (.invokevirtual 47, 3) := by decide +kernel
theorem dX4_readPart_19 : decode cX4_readPart 19 = .ok (.ifCond .eq 12, 3) := by decide +kernel
theorem dX4_readPart_22 : decode cX4_readPart 22 = .ok (.aload_n 0, 1) := by decide +kernel
theorem dX4_readPart_23 : decode cX4_readPart 23 = .ok (.getfield 41, 3) := by decide +kernel
theorem dX4_readPart_26 : decode cX4_readPart 26 = .ok (.bipush 59, 2) := by decide +kernel
theorem dX4_readPart_28 : decode cX4_readPart 28 = .ok (.if_icmp .eq 5, 3) := by decide +kernel
theorem dX4_readPart_31 : decode cX4_readPart 31 = .ok (.iconst 0, 1) := by decide +kernel
theorem dX4_readPart_32 : decode cX4_readPart 32 = .ok (.ireturn, 1) := by decide +kernel
theorem dX4_readPart_33 : decode cX4_readPart 33 = .ok (.aload_n 0, 1) := by decide +kernel
theorem dX4_readPart_34 : decode cX4_readPart 34 = .ok (.invokevirtual 32, 3) := by decide +kernel
theorem dX4_readPart_37 : decode cX4_readPart 37 = .ok (.aload_n 0, 1) := by decide +kernel
theorem dX4_readPart_38 : decode cX4_readPart 38 = .ok (.getfield 18, 3) := by decide +kernel
theorem dX4_readPart_41 : decode cX4_readPart 41 = .ok (.iload_n 2, 1) := by decide +kernel
theorem dX4_readPart_42 : decode cX4_readPart 42 = .ok (.invokevirtual 51, 3) := by decide +kernel
theorem dX4_readPart_45 : decode cX4_readPart 45 = .ok (.iconst 1, 1) := by decide +kernel
theorem dX4_readPart_46 : decode cX4_readPart 46 = .ok (.ireturn, 1) := by decide +kernel
theorem dX4_readAny_0 : decode cX4_readAny 0 = .ok (.aload_n 0, 1) := by decide +kernel
theorem dX4_readAny_1 : decode cX4_readAny 1 = .ok (.iload_n 1, 1) := by decide +kernel
theorem dX4_readAny_2 : decode cX4_readAny 2 = .ok (.invokevirtual 55, 3) := by decide +kernel
theorem dX4_readAny_5 : decode cX4_readAny 5 = .ok (.ifCond .ne 5, 3) := by decide +kernel
theorem dX4_readAny_8 : decode cX4_readAny 8 = .ok (.iconst 0, 1) := by decide +kernel
theorem dX4_readAny_9 : decode cX4_readAny 9 = .ok (.ireturn, 1) := by decide +kernel
theorem dX4_readAny_10 : decode cX4_readAny 10 = .ok (.iconst 0, 1) := by decide +kernel
theorem dX4_readAny_11 : decode cX4_readAny 11 = .ok (.istore_n 2, 1) := by decide +kernel
theorem dX4_readAny_12 : decode cX4_readAny 12 = .ok (.iload_n 2, 1) := by decide +kernel
theorem dX4_readAny_13 : decode cX4_readAny 13 = .ok (.sipush 160, 3) := by decide +kernel
theorem dX4_readAny_16 : decode cX4_readAny 16 = .ok (.if_icmp .ge 43, 3) := by decide +kernel
theorem dX4_readAny_19 : decode cX4_readAny 19 = .ok (.aload_n 0, 1) := by decide +kernel
theorem dX4_readAny_20 : decode cX4_readAny 20 = .ok (.getfield 41, 3) := by decide +kernel
theorem dX4_readAny_23 : decode cX4_readAny 23 = .ok (.sipush 259, 3) := by decide +kernel
theorem dX4_readAny_26 : decode cX4_readAny 26 = .ok (.if_icmp .ne 33, 3) := by decide +kernel
theorem dX4_readAny_29 : decode cX4_readAny 29 = .ok (.aload_n 0, 1) := by decide +kernel
theorem dX4_readAny_30 : decode cX4_readAny 30 = .ok (.invokevirtual 32, 3) := by decide +kernel
theorem dX4_readAny_33 : decode cX4_readAny 33 = .ok (.aload_n 0, 1) := by decide +kernel
theorem dX4_readAny_34 : decode cX4_readAny 34 = .ok (.iload_n 1, 1) := by decide +kernel
theorem dX4_readAny_35 : decode cX4_readAny 35 = .ok (.invokevirtual 55, 3) := by decide +kernel
theorem dX4_readAny_38 : decode cX4_readAny 38 = .ok (.ifCond .ne 5, 3) := by decide +kernel
theorem dX4_readAny_41 : decode cX4_readAny 41 = .ok (.iconst 0, 1) := by decide +kernel
theorem dX4_readAny_42 : decode cX4_readAny 42 = .ok (.ireturn, 1) := by decide +kernel
theorem dX4_readAny_43 : decode cX4_readAny 43 = .ok (.aload_n 0, 1) := by decide +kernel
theorem dX4_readAny_44 : decode cX4_readAny 44 = .ok (.getfield 18, 3) := by decide +kernel
theorem dX4_readAny_47 : decode cX4_readAny 47 = .ok (.sipush (-259), 3) := by decide +kernel
theorem dX4_readAny_50 : decode cX4_readAny 50 = .ok (.invokevirtual 58, 3) := by decide +kernel
theorem dX4_readAny_53 : decode cX4_readAny 53 = .ok (.iinc 2 1, 3) := by decide +kernel
theorem dX4_readAny_56 : decode cX4_readAny 56 = .ok (.goto (-44), 3) := by decide +kernel
theorem dX4_readAny_59 : decode cX4_readAny 59 = .ok (.iconst 1, 1) := by decide +kernel
theorem dX4_readAny_60 : decode cX4_readAny 60 = .ok (.ireturn, 1) := by decide +kernel
theorem dX4_readAnd_0 : decode cX4_readAnd 0 = .ok (.aload_n 0, 1) := by decide +kernel
theorem dX4_readAnd_1 : decode cX4_readAnd 1 = .ok (.iload_n 1, 1) := by decide +kernel
theorem dX4_readAnd_2 : decode cX4_readAnd 2 = .ok (.invokevirtual 61, 3) := by decide +kernel
theorem dX4_readAnd_5 : decode cX4_readAnd 5 = .ok (.ifCond .ne 5, 3) := by decide +kernel
theorem dX4_readAnd_8 : decode cX4_readAnd 8 = .ok (.iconst 0, 1) := by decide +kernel
theorem dX4_readAnd_9 : decode cX4_readAnd 9 = .ok (.ireturn, 1) := by decide +kernel
theorem dX4_readAnd_10 : decode cX4_readAnd 10 = .ok (.iconst 0, 1) := by decide +kernel
theorem dX4_readAnd_11 : decode cX4_readAnd 11 = .ok (.istore_n 2, 1) := by decide +kernel
theorem dX4_readAnd_12 : decode cX4_readAnd 12 = .ok (.iload_n 2, 1) := by decide +kernel
theorem dX4_readAnd_13 : decode cX4_readAnd 13 = .ok (.sipush 160, 3) := by decide +kernel
theorem dX4_readAnd_16 : decode cX4_readAnd 16 = .ok (.if_icmp .ge 43, 3) := by decide +kernel
theorem dX4_readAnd_19 : decode cX4_readAnd 19 = .ok (.aload_n 0, 1) := by decide +kernel
theorem dX4_readAnd_20 : decode cX4_readAnd 20 = .ok (.getfield 41, 3) := by decide +kernel
theorem dX4_readAnd_23 : decode cX4_readAnd 23 = .ok (.sipush 260, 3) := by decide +kernel
theorem dX4_readAnd_26 : decode cX4_readAnd 26 = .ok (.if_icmp .ne 33, 3) := by decide +kernel
theorem dX4_readAnd_29 : decode cX4_readAnd 29 = .ok (.aload_n 0, 1) := by decide +kernel
theorem dX4_readAnd_30 : decode cX4_readAnd 30 = .ok (.invokevirtual 32, 3) := by decide +kernel
theorem dX4_readAnd_33 : decode cX4_readAnd 33 = .ok (.aload_n 0, 1) := by decide +kernel
theorem dX4_readAnd_34 : decode cX4_readAnd 34 = .ok (.iload_n 1, 1) := by decide +kernel
theorem dX4_readAnd_35 : decode cX4_readAnd 35 = .ok (.invokevirtual 61, 3) := by decide +kernel
theorem dX4_readAnd_38 : decode cX4_readAnd 38 = .ok (.ifCond .ne 5, 3) := by decide +kernel
theorem dX4_readAnd_41 : decode cX4_readAnd 41 = .ok (.iconst 0, 1) := by decide +kernel
theorem dX4_readAnd_42 : decode cX4_readAnd 42 = .ok (.ireturn, 1) := by decide +kernel
theorem dX4_readAnd_43 : decode cX4_readAnd 43 = .ok (.aload_n 0, 1) := by decide +kernel
theorem dX4_readAnd_44 : decode cX4_readAnd 44 = .ok (.getfield 18, 3) := by decide +kernel
theorem dX4_readAnd_47 : decode cX4_readAnd 47 = .ok (.sipush (-260), 3) := by decide +kernel
theorem dX4_readAnd_50 : decode cX4_readAnd 50 = .ok (.invokevirtual 58, 3) := by decide +kernel
theorem dX4_readAnd_53 : decode cX4_readAnd 53 = .ok (.iinc 2 1, 3) := by decide +kernel
theorem dX4_readAnd_56 : decode cX4_readAnd 56 = .ok (.goto (-44), 3) := by decide +kernel
theorem dX4_readAnd_59 : decode cX4_readAnd 59 = .ok (.iconst 1, 1) := by decide +kernel
theorem dX4_readAnd_60 : decode cX4_readAnd 60 = .ok (.ireturn, 1) := by decide +kernel
theorem dX4_readNot_0 : decode cX4_readNot 0 = .ok (.aload_n 0, 1) := by decide +kernel
theorem dX4_readNot_1 : decode cX4_readNot 1 = .ok (.getfield 41, 3) := by decide +kernel
theorem dX4_readNot_4 : decode cX4_readNot 4 = .ok (.sipush 261, 3) := by decide +kernel
theorem dX4_readNot_7 : decode cX4_readNot 7 = .ok (.if_icmp .eq 9, 3) := by decide +kernel
theorem dX4_readNot_10 : decode cX4_readNot 10 = .ok (.aload_n 0, 1) := by decide +kernel
theorem dX4_readNot_11 : decode cX4_readNot 11 = .ok (.iload_n 1, 1) := by decide +kernel
theorem dX4_readNot_12 : decode cX4_readNot 12 = .ok (.invokevirtual 64, 3) := by decide +kernel
theorem dX4_readNot_15 : decode cX4_readNot 15 = .ok (.ireturn, 1) := by decide +kernel
theorem dX4_readNot_16 : decode cX4_readNot 16 = .ok (.iload_n 1, 1) := by decide +kernel
theorem dX4_readNot_17 : decode cX4_readNot 17 = .ok (.iconst 5, 1) := by decide +kernel
theorem dX4_readNot_18 : decode cX4_readNot 18 = .ok (.if_icmp .lt 5, 3) := by decide +kernel
theorem dX4_readNot_21 : decode cX4_readNot 21 = .ok (.iconst 0, 1) := by decide +kernel
theorem dX4_readNot_22 : decode cX4_readNot 22 = .ok (.ireturn, 1) := by decide +kernel
theorem dX4_readNot_23 : decode cX4_readNot 23 = .ok (.aload_n 0, 1) := by decide +kernel
theorem dX4_readNot_24 : decode cX4_readNot 24 = .ok (.invokevirtual 32, 3) := by decide +kernel
theorem dX4_readNot_27 : decode cX4_readNot 27 = .ok (.aload_n 0, 1) := by decide +kernel
theorem dX4_readNot_28 : decode cX4_readNot 28 = .ok (.iload_n 1, 1) := by decide +kernel
theorem dX4_readNot_29 : decode cX4_readNot 29 = .ok (.iconst 1, 1) := by decide +kernel
theorem dX4_readNot_30 : decode cX4_readNot 30 = .ok (.iadd, 1) := by decide +kernel
theorem dX4_readNot_31 : decode cX4_readNot 31 = .ok (.invokevirtual 61, 3) := by decide +kernel
theorem dX4_readNot_34 : decode cX4_readNot 34 = .ok (.ifCond .ne 5, 3) := by decide +kernel
theorem dX4_readNot_37 : decode cX4_readNot 37 = .ok (.iconst 0, 1) := by decide +kernel
theorem dX4_readNot_38 : decode cX4_readNot 38 = .ok (.ireturn, 1) := by decide +kernel
theorem dX4_readNot_39 : decode cX4_readNot 39 = .ok (.aload_n 0, 1) := by decide +kernel
theorem dX4_readNot_40 : decode cX4_readNot 40 = .ok (.getfield 18, 3) := by decide +kernel
theorem dX4_readNot_43 : decode cX4_readNot 43 = .ok (.sipush (-261), 3) := by decide +kernel
theorem dX4_readNot_46 : decode cX4_readNot 46 = .ok (.invokevirtual 58, 3) := by decide +kernel
theorem dX4_readNot_49 : decode cX4_readNot 49 = .ok (.iconst 1, 1) := by decide +kernel
theorem dX4_readNot_50 : decode cX4_readNot 50 = .ok (.ireturn, 1) := by decide +kernel
theorem dX4_readComparison_0 : decode cX4_readComparison 0 = .ok (.aload_n 0, 1) := by decide +kernel
theorem dX4_readComparison_1 : decode cX4_readComparison 1 = .ok (.iload_n 1, 1) := by decide +kernel
theorem dX4_readComparison_2 : decode cX4_readComparison 2 = .ok (.invokevirtual 67, 3) := by decide +kernel
theorem dX4_readComparison_5 : decode cX4_readComparison 5 = .ok (.ifCond .ne 5, 3) := by decide +kernel
theorem dX4_readComparison_8 : decode cX4_readComparison 8 = .ok (.iconst 0, 1) := by decide +kernel
theorem dX4_readComparison_9 : decode cX4_readComparison 9 = .ok (.ireturn, 1) := by decide +kernel
theorem dX4_readComparison_10 : decode cX4_readComparison 10 = .ok (.aload_n 0, 1) := by decide +kernel
theorem dX4_readComparison_11 : decode cX4_readComparison 11 = .ok (.getfield 41, 3) := by decide +kernel
theorem dX4_readComparison_14 : decode cX4_readComparison 14 = .ok (.bipush 60, 2) := by decide +kernel
theorem dX4_readComparison_16 : decode cX4_readComparison 16 = .ok (.if_icmp .eq 14, 3) := by decide +kernel
theorem dX4_readComparison_19 : decode cX4_readComparison 19 = .ok (.aload_n 0, 1) := by decide +kernel
theorem dX4_readComparison_20 : decode cX4_readComparison 20 = .ok (.getfield 41, 3) := by decide +kernel
theorem dX4_readComparison_23 : decode cX4_readComparison 23 = .ok (.bipush 61, 2) := by decide +kernel
theorem dX4_readComparison_25 : decode cX4_readComparison 25 = .ok (.if_icmp .eq 5, 3) := by decide +kernel
theorem dX4_readComparison_28 : decode cX4_readComparison 28 = .ok (.iconst 1, 1) := by decide +kernel
theorem dX4_readComparison_29 : decode cX4_readComparison 29 = .ok (.ireturn, 1) := by decide +kernel
theorem dX4_readComparison_30 : decode cX4_readComparison 30 = .ok (.aload_n 0, 1) := by decide +kernel
theorem dX4_readComparison_31 : decode cX4_readComparison 31 = .ok (.getfield 41, 3) := by decide +kernel
theorem dX4_readComparison_34 : decode cX4_readComparison 34 = .ok (.istore_n 2, 1) := by decide +kernel
theorem dX4_readComparison_35 : decode cX4_readComparison 35 = .ok (.aload_n 0, 1) := by decide +kernel
theorem dX4_readComparison_36 : decode cX4_readComparison 36 = .ok (.invokevirtual 32, 3) := by decide +kernel
theorem dX4_readComparison_39 : decode cX4_readComparison 39 = .ok (.aload_n 0, 1) := by decide +kernel
theorem dX4_readComparison_40 : decode cX4_readComparison 40 = .ok (.iload_n 1, 1) := by decide +kernel
theorem dX4_readComparison_41 : decode cX4_readComparison 41 = .ok (.invokevirtual 67, 3) := by decide +kernel
theorem dX4_readComparison_44 : decode cX4_readComparison 44 = .ok (.ifCond .ne 5, 3) := by decide +kernel
theorem dX4_readComparison_47 : decode cX4_readComparison 47 = .ok (.iconst 0, 1) := by decide +kernel
theorem dX4_readComparison_48 : decode cX4_readComparison 48 = .ok (.ireturn, 1) := by decide +kernel
theorem dX4_readComparison_49 : decode cX4_readComparison 49 = .ok (.aload_n 0, 1) := by decide +kernel
theorem dX4_readComparison_50 : decode cX4_readComparison 50 = .ok (.getfield 18, 3) := by decide +kernel
theorem dX4_readComparison_53 : decode cX4_readComparison 53 = .ok (.iload_n 2, 1) := by decide +kernel
theorem dX4_readComparison_54 : decode cX4_readComparison 54 = .ok (.ineg, 1) := by decide +kernel
theorem dX4_readComparison_55 : decode cX4_readComparison 55 = .ok (.invokevirtual 58, 3) := by decide +kernel
theorem dX4_readComparison_58 : decode cX4_readComparison 58 = .ok (.iconst 1, 1) := by decide +kernel
theorem dX4_readComparison_59 : decode cX4_readComparison 59 = .ok (.ireturn, 1) := by decide +kernel
theorem dX4_readSum_0 : decode cX4_readSum 0 = .ok (.aload_n 0, 1) := by decide +kernel
theorem dX4_readSum_1 : decode cX4_readSum 1 = .ok (.iload_n 1, 1) := by decide +kernel
theorem dX4_readSum_2 : decode cX4_readSum 2 = .ok (.invokevirtual 70, 3) := by decide +kernel
theorem dX4_readSum_5 : decode cX4_readSum 5 = .ok (.ifCond .ne 5, 3) := by decide +kernel
theorem dX4_readSum_8 : decode cX4_readSum 8 = .ok (.iconst 0, 1) := by decide +kernel
theorem dX4_readSum_9 : decode cX4_readSum 9 = .ok (.ireturn, 1) := by decide +kernel
theorem dX4_readSum_10 : decode cX4_readSum 10 = .ok (.iconst 0, 1) := by decide +kernel
theorem dX4_readSum_11 : decode cX4_readSum 11 = .ok (.istore_n 2, 1) := by decide +kernel
theorem dX4_readSum_12 : decode cX4_readSum 12 = .ok (.iload_n 2, 1) := by decide +kernel
theorem dX4_readSum_13 : decode cX4_readSum 13 = .ok (.sipush 160, 3) := by decide +kernel
theorem dX4_readSum_16 : decode cX4_readSum 16 = .ok (.if_icmp .ge 55, 3) := by decide +kernel
theorem dX4_readSum_19 : decode cX4_readSum 19 = .ok (.aload_n 0, 1) := by decide +kernel
theorem dX4_readSum_20 : decode cX4_readSum 20 = .ok (.getfield 41, 3) := by decide +kernel
theorem dX4_readSum_23 : decode cX4_readSum 23 = .ok (.bipush 43, 2) := by decide +kernel
theorem dX4_readSum_25 : decode cX4_readSum 25 = .ok (.if_icmp .eq 12, 3) := by decide +kernel
theorem dX4_readSum_28 : decode cX4_readSum 28 = .ok (.aload_n 0, 1) := by decide +kernel
theorem dX4_readSum_29 : decode cX4_readSum 29 = .ok (.getfield 41, 3) := by decide +kernel
theorem dX4_readSum_32 : decode cX4_readSum 32 = .ok (.bipush 45, 2) := by decide +kernel
theorem dX4_readSum_34 : decode cX4_readSum 34 = .ok (.if_icmp .ne 37, 3) := by decide +kernel
theorem dX4_readSum_37 : decode cX4_readSum 37 = .ok (.aload_n 0, 1) := by decide +kernel
theorem dX4_readSum_38 : decode cX4_readSum 38 = .ok (.getfield 41, 3) := by decide +kernel
theorem dX4_readSum_41 : decode cX4_readSum 41 = .ok (.istore_n 3, 1) := by decide +kernel
theorem dX4_readSum_42 : decode cX4_readSum 42 = .ok (.aload_n 0, 1) := by decide +kernel
theorem dX4_readSum_43 : decode cX4_readSum 43 = .ok (.invokevirtual 32, 3) := by decide +kernel
theorem dX4_readSum_46 : decode cX4_readSum 46 = .ok (.aload_n 0, 1) := by decide +kernel
theorem dX4_readSum_47 : decode cX4_readSum 47 = .ok (.iload_n 1, 1) := by decide +kernel
theorem dX4_readSum_48 : decode cX4_readSum 48 = .ok (.invokevirtual 70, 3) := by decide +kernel
theorem dX4_readSum_51 : decode cX4_readSum 51 = .ok (.ifCond .ne 5, 3) := by decide +kernel
theorem dX4_readSum_54 : decode cX4_readSum 54 = .ok (.iconst 0, 1) := by decide +kernel
theorem dX4_readSum_55 : decode cX4_readSum 55 = .ok (.ireturn, 1) := by decide +kernel
theorem dX4_readSum_56 : decode cX4_readSum 56 = .ok (.aload_n 0, 1) := by decide +kernel
theorem dX4_readSum_57 : decode cX4_readSum 57 = .ok (.getfield 18, 3) := by decide +kernel
theorem dX4_readSum_60 : decode cX4_readSum 60 = .ok (.iload_n 3, 1) := by decide +kernel
theorem dX4_readSum_61 : decode cX4_readSum 61 = .ok (.ineg, 1) := by decide +kernel
theorem dX4_readSum_62 : decode cX4_readSum 62 = .ok (.invokevirtual 58, 3) := by decide +kernel
theorem dX4_readSum_65 : decode cX4_readSum 65 = .ok (.iinc 2 1, 3) := by decide +kernel
theorem dX4_readSum_68 : decode cX4_readSum 68 = .ok (.goto (-56), 3) := by decide +kernel
theorem dX4_readSum_71 : decode cX4_readSum 71 = .ok (.iconst 1, 1) := by decide +kernel
theorem dX4_readSum_72 : decode cX4_readSum 72 = .ok (.ireturn, 1) := by decide +kernel
theorem dX4_readTerm_0 : decode cX4_readTerm 0 = .ok (.aload_n 0, 1) := by decide +kernel
theorem dX4_readTerm_1 : decode cX4_readTerm 1 = .ok (.iload_n 1, 1) := by decide +kernel
theorem dX4_readTerm_2 : decode cX4_readTerm 2 = .ok (.invokevirtual 73, 3) := by decide +kernel
theorem dX4_readTerm_5 : decode cX4_readTerm 5 = .ok (.ifCond .ne 5, 3) := by decide +kernel
theorem dX4_readTerm_8 : decode cX4_readTerm 8 = .ok (.iconst 0, 1) := by decide +kernel
theorem dX4_readTerm_9 : decode cX4_readTerm 9 = .ok (.ireturn, 1) := by decide +kernel
theorem dX4_readTerm_10 : decode cX4_readTerm 10 = .ok (.iconst 0, 1) := by decide +kernel
theorem dX4_readTerm_11 : decode cX4_readTerm 11 = .ok (.istore_n 2, 1) := by decide +kernel
theorem dX4_readTerm_12 : decode cX4_readTerm 12 = .ok (.iload_n 2, 1) := by decide +kernel
theorem dX4_readTerm_13 : decode cX4_readTerm 13 = .ok (.sipush 160, 3) := by decide +kernel
theorem dX4_readTerm_16 : decode cX4_readTerm 16 = .ok (.if_icmp .ge 41, 3) := by decide +kernel
theorem dX4_readTerm_19 : decode cX4_readTerm 19 = .ok (.aload_n 0, 1) := by decide +kernel
theorem dX4_readTerm_20 : decode cX4_readTerm 20 = .ok (.getfield 41, 3) := by decide +kernel
theorem dX4_readTerm_23 : decode cX4_readTerm 23 = .ok (.bipush 42, 2) := by decide +kernel
theorem dX4_readTerm_25 : decode cX4_readTerm 25 = .ok (.if_icmp .ne 32, 3) := by decide +kernel
theorem dX4_readTerm_28 : decode cX4_readTerm 28 = .ok (.aload_n 0, 1) := by decide +kernel
theorem dX4_readTerm_29 : decode cX4_readTerm 29 = .ok (.invokevirtual 32, 3) := by decide +kernel
theorem dX4_readTerm_32 : decode cX4_readTerm 32 = .ok (.aload_n 0, 1) := by decide +kernel
theorem dX4_readTerm_33 : decode cX4_readTerm 33 = .ok (.iload_n 1, 1) := by decide +kernel
theorem dX4_readTerm_34 : decode cX4_readTerm 34 = .ok (.invokevirtual 73, 3) := by decide +kernel
theorem dX4_readTerm_37 : decode cX4_readTerm 37 = .ok (.ifCond .ne 5, 3) := by decide +kernel
theorem dX4_readTerm_40 : decode cX4_readTerm 40 = .ok (.iconst 0, 1) := by decide +kernel
theorem dX4_readTerm_41 : decode cX4_readTerm 41 = .ok (.ireturn, 1) := by decide +kernel
theorem dX4_readTerm_42 : decode cX4_readTerm 42 = .ok (.aload_n 0, 1) := by decide +kernel
theorem dX4_readTerm_43 : decode cX4_readTerm 43 = .ok (.getfield 18, 3) := by decide +kernel
theorem dX4_readTerm_46 : decode cX4_readTerm 46 = .ok (.bipush (-42), 2) := by decide +kernel
theorem dX4_readTerm_48 : decode cX4_readTerm 48 = .ok (.invokevirtual 58, 3) := by decide +kernel
theorem dX4_readTerm_51 : decode cX4_readTerm 51 = .ok (.iinc 2 1, 3) := by decide +kernel
theorem dX4_readTerm_54 : decode cX4_readTerm 54 = .ok (.goto (-42), 3) := by decide +kernel
theorem dX4_readTerm_57 : decode cX4_readTerm 57 = .ok (.iconst 1, 1) := by decide +kernel
theorem dX4_readTerm_58 : decode cX4_readTerm 58 = .ok (.ireturn, 1) := by decide +kernel
theorem dX4_readOne_0 : decode cX4_readOne 0 = .ok (.aload_n 0, 1) := by decide +kernel
theorem dX4_readOne_1 : decode cX4_readOne 1 = .ok (.getfield 41, 3) := by decide +kernel
theorem dX4_readOne_4 : decode cX4_readOne 4 = .ok (.sipush 268, 3) := by decide +kernel
theorem dX4_readOne_7 : decode cX4_readOne 7 = .ok (.if_icmp .eq 13, 3) := by decide +kernel
theorem dX4_readOne_10 : decode cX4_readOne 10 = .ok (.aload_n 0, 1) := by decide +kernel
theorem dX4_readOne_11 : decode cX4_readOne 11 = .ok (.getfield 41, 3) := by decide +kernel
theorem dX4_readOne_14 : decode cX4_readOne 14 = .ok (.invokestatic 76, 3) := by decide +kernel
theorem dX4_readOne_17 : decode cX4_readOne 17 = .ok (.ifCond .eq 38, 3) := by decide +kernel
theorem dX4_readOne_20 : decode cX4_readOne 20 = .ok (.aload_n 0, 1) := by decide +kernel
theorem dX4_readOne_21 : decode cX4_readOne 21 = .ok (.getfield 18, 3) := by decide +kernel
theorem dX4_readOne_24 : decode cX4_readOne 24 = .ok (.aload_n 0, 1) := by decide +kernel
theorem dX4_readOne_25 : decode cX4_readOne 25 = .ok (.getfield 41, 3) := by decide +kernel
theorem dX4_readOne_28 : decode cX4_readOne 28 = .ok (.sipush 268, 3) := by decide +kernel
theorem dX4_readOne_31 : decode cX4_readOne 31 = .ok (.if_icmp .ne 10, 3) := by decide +kernel
theorem dX4_readOne_34 : decode cX4_readOne 34 = .ok (.aload_n 0, 1) := by decide +kernel
theorem dX4_readOne_35 : decode cX4_readOne 35 = .ok (.getfield 79, 3) := by decide +kernel
theorem dX4_readOne_38 : decode cX4_readOne 38 = .ok (.goto 8, 3) := by decide +kernel
theorem dX4_readOne_41 : decode cX4_readOne 41 = .ok (.aload_n 0, 1) := by decide +kernel
theorem dX4_readOne_42 : decode cX4_readOne 42 = .ok (.getfield 41, 3) := by decide +kernel
theorem dX4_readOne_45 : decode cX4_readOne 45 = .ok (.ineg, 1) := by decide +kernel
theorem dX4_readOne_46 : decode cX4_readOne 46 = .ok (.invokevirtual 58, 3) := by decide +kernel
theorem dX4_readOne_49 : decode cX4_readOne 49 = .ok (.aload_n 0, 1) := by decide +kernel
theorem dX4_readOne_50 : decode cX4_readOne 50 = .ok (.invokevirtual 32, 3) := by decide +kernel
theorem dX4_readOne_53 : decode cX4_readOne 53 = .ok (.iconst 1, 1) := by decide +kernel
theorem dX4_readOne_54 : decode cX4_readOne 54 = .ok (.ireturn, 1) := by decide +kernel
theorem dX4_readOne_55 : decode cX4_readOne 55 = .ok (.iload_n 1, 1) := by decide +kernel
theorem dX4_readOne_56 : decode cX4_readOne 56 = .ok (.iconst 5, 1) := by decide +kernel
theorem dX4_readOne_57 : decode cX4_readOne 57 = .ok (.if_icmp .lt 5, 3) := by decide +kernel
theorem dX4_readOne_60 : decode cX4_readOne 60 = .ok (.iconst 0, 1) := by decide +kernel
theorem dX4_readOne_61 : decode cX4_readOne 61 = .ok (.ireturn, 1) := by decide +kernel
theorem dX4_readOne_62 : decode cX4_readOne 62 = .ok (.aload_n 0, 1) := by decide +kernel
theorem dX4_readOne_63 : decode cX4_readOne 63 = .ok (.getfield 41, 3) := by decide +kernel
theorem dX4_readOne_66 : decode cX4_readOne 66 = .ok (.bipush 45, 2) := by decide +kernel
theorem dX4_readOne_68 : decode cX4_readOne 68 = .ok (.if_icmp .ne 31, 3) := by decide +kernel
theorem dX4_readOne_71 : decode cX4_readOne 71 = .ok (.aload_n 0, 1) := by decide +kernel
theorem dX4_readOne_72 : decode cX4_readOne 72 = .ok (.invokevirtual 32, 3) := by decide +kernel
theorem dX4_readOne_75 : decode cX4_readOne 75 = .ok (.aload_n 0, 1) := by decide +kernel
theorem dX4_readOne_76 : decode cX4_readOne 76 = .ok (.iload_n 1, 1) := by decide +kernel
theorem dX4_readOne_77 : decode cX4_readOne 77 = .ok (.iconst 1, 1) := by decide +kernel
theorem dX4_readOne_78 : decode cX4_readOne 78 = .ok (.iadd, 1) := by decide +kernel
theorem dX4_readOne_79 : decode cX4_readOne 79 = .ok (.invokevirtual 73, 3) := by decide +kernel
theorem dX4_readOne_82 : decode cX4_readOne 82 = .ok (.ifCond .ne 5, 3) := by decide +kernel
theorem dX4_readOne_85 : decode cX4_readOne 85 = .ok (.iconst 0, 1) := by decide +kernel
theorem dX4_readOne_86 : decode cX4_readOne 86 = .ok (.ireturn, 1) := by decide +kernel
theorem dX4_readOne_87 : decode cX4_readOne 87 = .ok (.aload_n 0, 1) := by decide +kernel
theorem dX4_readOne_88 : decode cX4_readOne 88 = .ok (.getfield 18, 3) := by decide +kernel
theorem dX4_readOne_91 : decode cX4_readOne 91 = .ok (.sipush (-271), 3) := by decide +kernel
theorem dX4_readOne_94 : decode cX4_readOne 94 = .ok (.invokevirtual 58, 3) := by decide +kernel
theorem dX4_readOne_97 : decode cX4_readOne 97 = .ok (.iconst 1, 1) := by decide +kernel
theorem dX4_readOne_98 : decode cX4_readOne 98 = .ok (.ireturn, 1) := by decide +kernel
theorem dX4_readOne_99 : decode cX4_readOne 99 = .ok (.aload_n 0, 1) := by decide +kernel
theorem dX4_readOne_100 : decode cX4_readOne 100 = .ok (.getfield 41, 3) := by decide +kernel
theorem dX4_readOne_103 : decode cX4_readOne 103 = .ok (.bipush 40, 2) := by decide +kernel
theorem dX4_readOne_105 : decode cX4_readOne 105 = .ok (.if_icmp .ne 17, 3) := by decide +kernel
theorem dX4_readOne_108 : decode cX4_readOne 108 = .ok (.aload_n 0, 1) := by decide +kernel
theorem dX4_readOne_109 : decode cX4_readOne 109 = .ok (.iload_n 1, 1) := by decide +kernel
theorem dX4_readOne_110 : decode cX4_readOne 110 = .ok (.iconst 1, 1) := by decide +kernel
theorem dX4_readOne_111 : decode cX4_readOne 111 = .ok (.iadd, 1) := by decide +kernel
theorem dX4_readOne_112 : decode cX4_readOne 112 = .ok (.invokevirtual 82, 3) := by decide +kernel
theorem dX4_readOne_115 : decode cX4_readOne 115 = .ok (.ifCond .eq 7, 3) := by decide +kernel
theorem dX4_readOne_118 : decode cX4_readOne 118 = .ok (.iconst 1, 1) := by decide +kernel
theorem dX4_readOne_119 : decode cX4_readOne 119 = .ok (.goto 4, 3) := by decide +kernel
theorem dX4_readOne_122 : decode cX4_readOne 122 = .ok (.iconst 0, 1) := by decide +kernel
theorem dX4_readOne_123 : decode cX4_readOne 123 = .ok (.ireturn, 1) := by decide +kernel
theorem dX4_readBracket_0 : decode cX4_readBracket 0 = .ok (.aload_n 0, 1) := by decide +kernel
theorem dX4_readBracket_1 : decode cX4_readBracket 1 = .ok (.invokevirtual 32, 3) := by decide +kernel
theorem dX4_readBracket_4 : decode cX4_readBracket 4 = .ok (.aload_n 0, 1) := by decide +kernel
theorem dX4_readBracket_5 : decode cX4_readBracket 5 = .ok (.iload_n 1, 1) := by decide +kernel
theorem dX4_readBracket_6 : decode cX4_readBracket 6 = .ok (.invokevirtual 47, 3) := by decide +kernel
theorem dX4_readBracket_9 : decode cX4_readBracket 9 = .ok (.ifCond .eq 12, 3) := by decide +kernel
theorem dX4_readBracket_12 : decode cX4_readBracket 12 = .ok (.aload_n 0, 1) := by decide +kernel
theorem dX4_readBracket_13 : decode cX4_readBracket 13 = .ok (.getfield 41, 3) := by decide +kernel
theorem dX4_readBracket_16 : decode cX4_readBracket 16 = .ok (.bipush 41, 2) := by decide +kernel
theorem dX4_readBracket_18 : decode cX4_readBracket 18 = .ok (.if_icmp .eq 5, 3) := by decide +kernel
theorem dX4_readBracket_21 : decode cX4_readBracket 21 = .ok (.iconst 0, 1) := by decide +kernel
theorem dX4_readBracket_22 : decode cX4_readBracket 22 = .ok (.ireturn, 1) := by decide +kernel
theorem dX4_readBracket_23 : decode cX4_readBracket 23 = .ok (.aload_n 0, 1) := by decide +kernel
theorem dX4_readBracket_24 : decode cX4_readBracket 24 = .ok (.invokevirtual 32, 3) := by decide +kernel
theorem dX4_readBracket_27 : decode cX4_readBracket 27 = .ok (.iconst 1, 1) := by decide +kernel
theorem dX4_readBracket_28 : decode cX4_readBracket 28 = .ok (.ireturn, 1) := by decide +kernel
theorem dX4_step_0 : decode cX4_step 0 = .ok (.aload_n 0, 1) := by decide +kernel
theorem dX4_step_1 : decode cX4_step 1 = .ok (.getfield 29, 3) := by decide +kernel
theorem dX4_step_4 : decode cX4_step 4 = .ok (.aload_n 0, 1) := by decide +kernel
theorem dX4_step_5 : decode cX4_step 5 = .ok (.getfield 22, 3) := by decide +kernel
theorem dX4_step_8 : decode cX4_step 8 = .ok (.if_icmp .ge 44, 3) := by decide +kernel
theorem dX4_step_11 : decode cX4_step 11 = .ok (.aload_n 0, 1) := by decide +kernel
theorem dX4_step_12 : decode cX4_step 12 = .ok (.getfield 9, 3) := by decide +kernel
theorem dX4_step_15 : decode cX4_step 15 = .ok (.aload_n 0, 1) := by decide +kernel
theorem dX4_step_16 : decode cX4_step 16 = .ok (.getfield 29, 3) := by decide +kernel
theorem dX4_step_19 : decode cX4_step 19 = .ok (.iaload, 1) := by decide +kernel
theorem dX4_step_20 : decode cX4_step 20 = .ok (.bipush 32, 2) := by decide +kernel
theorem dX4_step_22 : decode cX4_step 22 = .ok (.if_icmp .eq 17, 3) := by decide +kernel
theorem dX4_step_25 : decode cX4_step 25 = .ok (.aload_n 0, 1) := by decide +kernel
theorem dX4_step_26 : decode cX4_step 26 = .ok (.getfield 9, 3) := by decide +kernel
theorem dX4_step_29 : decode cX4_step 29 = .ok (.aload_n 0, 1) := by decide +kernel
theorem dX4_step_30 : decode cX4_step 30 = .ok (.getfield 29, 3) := by decide +kernel
theorem dX4_step_33 : decode cX4_step 33 = .ok (.iaload, 1) := by decide +kernel
theorem dX4_step_34 : decode cX4_step 34 = .ok (.bipush 10, 2) := by decide +kernel
theorem dX4_step_36 : decode cX4_step 36 = .ok (.if_icmp .ne 16, 3) := by decide +kernel
theorem dX4_step_39 : decode cX4_step 39 = .ok (.aload_n 0, 1) := by decide +kernel
theorem dX4_step_40 : decode cX4_step 40 = .ok (.dup, 1) := by decide +kernel
theorem dX4_step_41 : decode cX4_step 41 = .ok (.getfield 29, 3) := by decide +kernel
theorem dX4_step_44 : decode cX4_step 44 = .ok (.iconst 1, 1) := by decide +kernel
theorem dX4_step_45 : decode cX4_step 45 = .ok (.iadd, 1) := by decide +kernel
theorem dX4_step_46 : decode cX4_step 46 = .ok (.putfield 29, 3) := by decide +kernel
theorem dX4_step_49 : decode cX4_step 49 = .ok (.goto (-49), 3) := by decide +kernel
theorem dX4_step_52 : decode cX4_step 52 = .ok (.aload_n 0, 1) := by decide +kernel
theorem dX4_step_53 : decode cX4_step 53 = .ok (.aload_n 0, 1) := by decide +kernel
theorem dX4_step_54 : decode cX4_step 54 = .ok (.getfield 29, 3) := by decide +kernel
theorem dX4_step_57 : decode cX4_step 57 = .ok (.putfield 44, 3) := by decide +kernel
theorem dX4_step_60 : decode cX4_step 60 = .ok (.aload_n 0, 1) := by decide +kernel
theorem dX4_step_61 : decode cX4_step 61 = .ok (.getfield 29, 3) := by decide +kernel
theorem dX4_step_64 : decode cX4_step 64 = .ok (.aload_n 0, 1) := by decide +kernel
theorem dX4_step_65 : decode cX4_step 65 = .ok (.getfield 22, 3) := by decide +kernel
theorem dX4_step_68 : decode cX4_step 68 = .ok (.if_icmp .lt 13, 3) := by decide +kernel
theorem dX4_step_71 : decode cX4_step 71 = .ok (.aload_n 0, 1) := by decide +kernel
theorem dX4_step_72 : decode cX4_step 72 = .ok (.sipush 269, 3) := by decide +kernel
theorem dX4_step_75 : decode cX4_step 75 = .ok (.putfield 41, 3) := by decide +kernel
theorem dX4_step_78 : decode cX4_step 78 = .ok (.goto 94, 3) := by decide +kernel
theorem dX4_step_81 : decode cX4_step 81 = .ok (.aload_n 0, 1) := by decide +kernel
theorem dX4_step_82 : decode cX4_step 82 = .ok (.getfield 9, 3) := by decide +kernel
theorem dX4_step_85 : decode cX4_step 85 = .ok (.aload_n 0, 1) := by decide +kernel
theorem dX4_step_86 : decode cX4_step 86 = .ok (.getfield 29, 3) := by decide +kernel
theorem dX4_step_89 : decode cX4_step 89 = .ok (.iaload, 1) := by decide +kernel
theorem dX4_step_90 : decode cX4_step 90 = .ok (.invokestatic 85, 3) := by decide +kernel
theorem dX4_step_93 : decode cX4_step 93 = .ok (.ifCond .eq 10, 3) := by decide +kernel
theorem dX4_step_96 : decode cX4_step 96 = .ok (.aload_n 0, 1) := by decide +kernel
theorem dX4_step_97 : decode cX4_step 97 = .ok (.invokevirtual 88, 3) := by decide +kernel
theorem dX4_step_100 : decode cX4_step 100 = .ok (.goto 72, 3) := by decide +kernel
theorem dX4_step_103 : decode cX4_step 103 = .ok (.aload_n 0, 1) := by decide +kernel
theorem dX4_step_104 : decode cX4_step 104 = .ok (.getfield 9, 3) := by decide +kernel
theorem dX4_step_107 : decode cX4_step 107 = .ok (.aload_n 0, 1) := by decide +kernel
theorem dX4_step_108 : decode cX4_step 108 = .ok (.getfield 29, 3) := by decide +kernel
theorem dX4_step_111 : decode cX4_step 111 = .ok (.iaload, 1) := by decide +kernel
theorem dX4_step_112 : decode cX4_step 112 = .ok (.invokestatic 91, 3) := by decide +kernel
theorem dX4_step_115 : decode cX4_step 115 = .ok (.ifCond .eq 10, 3) := by decide +kernel
theorem dX4_step_118 : decode cX4_step 118 = .ok (.aload_n 0, 1) := by decide +kernel
theorem dX4_step_119 : decode cX4_step 119 = .ok (.invokevirtual 94, 3) := by decide +kernel
theorem dX4_step_122 : decode cX4_step 122 = .ok (.goto 50, 3) := by decide +kernel
theorem dX4_step_125 : decode cX4_step 125 = .ok (.aload_n 0, 1) := by decide +kernel
theorem dX4_step_126 : decode cX4_step 126 = .ok (.ldc 97, 2) := by decide +kernel
theorem dX4_step_128 : decode cX4_step 128 = .ok (.aload_n 0, 1) := by decide +kernel
theorem dX4_step_129 : decode cX4_step 129 = .ok (.getfield 9, 3) := by decide +kernel
theorem dX4_step_132 : decode cX4_step 132 = .ok (.aload_n 0, 1) := by decide +kernel
theorem dX4_step_133 : decode cX4_step 133 = .ok (.getfield 29, 3) := by decide +kernel
theorem dX4_step_136 : decode cX4_step 136 = .ok (.iaload, 1) := by decide +kernel
theorem dX4_step_137 : decode cX4_step 137 = .ok (.i2c, 1) := by decide +kernel
theorem dX4_step_138 : decode cX4_step 138 = .ok (.invokevirtual 99, 3) := by decide +kernel
theorem dX4_step_141 : decode cX4_step 141 = .ok (.ifCond .lt 15, 3) := by decide +kernel
theorem dX4_step_144 : decode cX4_step 144 = .ok (.aload_n 0, 1) := by decide +kernel
theorem dX4_step_145 : decode cX4_step 145 = .ok (.getfield 9, 3) := by decide +kernel
theorem dX4_step_148 : decode cX4_step 148 = .ok (.aload_n 0, 1) := by decide +kernel
theorem dX4_step_149 : decode cX4_step 149 = .ok (.getfield 29, 3) := by decide +kernel
theorem dX4_step_152 : decode cX4_step 152 = .ok (.iaload, 1) := by decide +kernel
theorem dX4_step_153 : decode cX4_step 153 = .ok (.goto 6, 3) := by decide +kernel
theorem dX4_step_156 : decode cX4_step 156 = .ok (.sipush 270, 3) := by decide +kernel
theorem dX4_step_159 : decode cX4_step 159 = .ok (.putfield 41, 3) := by decide +kernel
theorem dX4_step_162 : decode cX4_step 162 = .ok (.aload_n 0, 1) := by decide +kernel
theorem dX4_step_163 : decode cX4_step 163 = .ok (.dup, 1) := by decide +kernel
theorem dX4_step_164 : decode cX4_step 164 = .ok (.getfield 29, 3) := by decide +kernel
theorem dX4_step_167 : decode cX4_step 167 = .ok (.iconst 1, 1) := by decide +kernel
theorem dX4_step_168 : decode cX4_step 168 = .ok (.iadd, 1) := by decide +kernel
theorem dX4_step_169 : decode cX4_step 169 = .ok (.putfield 29, 3) := by decide +kernel
theorem dX4_step_172 : decode cX4_step 172 = .ok (.return_, 1) := by decide +kernel
theorem dX4_stepWord_0 : decode cX4_stepWord 0 = .ok (.aload_n 0, 1) := by decide +kernel
theorem dX4_stepWord_1 : decode cX4_stepWord 1 = .ok (.getfield 29, 3) := by decide +kernel
theorem dX4_stepWord_4 : decode cX4_stepWord 4 = .ok (.aload_n 0, 1) := by decide +kernel
theorem dX4_stepWord_5 : decode cX4_stepWord 5 = .ok (.getfield 22, 3) := by decide +kernel
theorem dX4_stepWord_8 : decode cX4_stepWord 8 = .ok (.if_icmp .ge 31, 3) := by decide +kernel
theorem dX4_stepWord_11 : decode cX4_stepWord 11 = .ok (.aload_n 0, 1) := by decide +kernel
theorem dX4_stepWord_12 : decode cX4_stepWord 12 = .ok (.getfield 9, 3) := by decide +kernel
theorem dX4_stepWord_15 : decode cX4_stepWord 15 = .ok (.aload_n 0, 1) := by decide +kernel
theorem dX4_stepWord_16 : decode cX4_stepWord 16 = .ok (.getfield 29, 3) := by decide +kernel
theorem dX4_stepWord_19 : decode cX4_stepWord 19 = .ok (.iaload, 1) := by decide +kernel
theorem dX4_stepWord_20 : decode cX4_stepWord 20 = .ok (.invokestatic 85, 3) := by decide +kernel
theorem dX4_stepWord_23 : decode cX4_stepWord 23 = .ok (.ifCond .eq 16, 3) := by decide +kernel
theorem dX4_stepWord_26 : decode cX4_stepWord 26 = .ok (.aload_n 0, 1) := by decide +kernel
theorem dX4_stepWord_27 : decode cX4_stepWord 27 = .ok (.dup, 1) := by decide +kernel
theorem dX4_stepWord_28 : decode cX4_stepWord 28 = .ok (.getfield 29, 3) := by decide +kernel
theorem dX4_stepWord_31 : decode cX4_stepWord 31 = .ok (.iconst 1, 1) := by decide +kernel
theorem dX4_stepWord_32 : decode cX4_stepWord 32 = .ok (.iadd, 1) := by decide +kernel
theorem dX4_stepWord_33 : decode cX4_stepWord 33 = .ok (.putfield 29, 3) := by decide +kernel
theorem dX4_stepWord_36 : decode cX4_stepWord 36 = .ok (.goto (-36), 3) := by decide +kernel
theorem dX4_stepWord_39 : decode cX4_stepWord 39 = .ok (.aload_n 0, 1) := by decide +kernel
theorem dX4_stepWord_40 : decode cX4_stepWord 40 = .ok (.sipush 270, 3) := by decide +kernel
theorem dX4_stepWord_43 : decode cX4_stepWord 43 = .ok (.putfield 41, 3) := by decide +kernel
theorem dX4_stepWord_46 : decode cX4_stepWord 46 = .ok (.sipush 256, 3) := by decide +kernel
theorem dX4_stepWord_49 : decode cX4_stepWord 49 = .ok (.istore_n 1, 1) := by decide +kernel
theorem dX4_stepWord_50 : decode cX4_stepWord 50 = .ok (.iload_n 1, 1) := by decide +kernel
theorem dX4_stepWord_51 : decode cX4_stepWord 51 = .ok (.sipush 267, 3) := by decide +kernel
theorem dX4_stepWord_54 : decode cX4_stepWord 54 = .ok (.if_icmp .gt 25, 3) := by decide +kernel
theorem dX4_stepWord_57 : decode cX4_stepWord 57 = .ok (.aload_n 0, 1) := by decide +kernel
theorem dX4_stepWord_58 : decode cX4_stepWord 58 = .ok (.iload_n 1, 1) := by decide +kernel
theorem dX4_stepWord_59 : decode cX4_stepWord 59 = .ok (.invokestatic 105, 3) := by decide +kernel
theorem dX4_stepWord_62 : decode cX4_stepWord 62 = .ok (.invokevirtual 109, 3) := by decide +kernel
theorem dX4_stepWord_65 : decode cX4_stepWord 65 = .ok (.ifCond .eq 8, 3) := by decide +kernel
theorem dX4_stepWord_68 : decode cX4_stepWord 68 = .ok (.aload_n 0, 1) := by decide +kernel
theorem dX4_stepWord_69 : decode cX4_stepWord 69 = .ok (.iload_n 1, 1) := by decide +kernel
theorem dX4_stepWord_70 : decode cX4_stepWord 70 = .ok (.putfield 41, 3) := by decide +kernel
theorem dX4_stepWord_73 : decode cX4_stepWord 73 = .ok (.iinc 1 1, 3) := by decide +kernel
theorem dX4_stepWord_76 : decode cX4_stepWord 76 = .ok (.goto (-26), 3) := by decide +kernel
theorem dX4_stepWord_79 : decode cX4_stepWord 79 = .ok (.return_, 1) := by decide +kernel
theorem dX4_isSpelled_0 : decode cX4_isSpelled 0 = .ok (.aload_n 1, 1) := by decide +kernel
theorem dX4_isSpelled_1 : decode cX4_isSpelled 1 = .ok (.invokevirtual 113, 3) := by decide +kernel
theorem dX4_isSpelled_4 : decode cX4_isSpelled 4 = .ok (.aload_n 0, 1) := by decide +kernel
theorem dX4_isSpelled_5 : decode cX4_isSpelled 5 = .ok (.getfield 29, 3) := by decide +kernel
theorem dX4_isSpelled_8 : decode cX4_isSpelled 8 = .ok (.aload_n 0, 1) := by decide +kernel
theorem dX4_isSpelled_9 : decode cX4_isSpelled 9 = .ok (.getfield 44, 3) := by decide +kernel
theorem dX4_isSpelled_12 : decode cX4_isSpelled 12 = .ok (.isub, 1) := by decide +kernel
theorem dX4_isSpelled_13 : decode cX4_isSpelled 13 = .ok (.if_icmp .eq 5, 3) := by decide +kernel
theorem dX4_isSpelled_16 : decode cX4_isSpelled 16 = .ok (.iconst 0, 1) := by decide +kernel
theorem dX4_isSpelled_17 : decode cX4_isSpelled 17 = .ok (.ireturn, 1) := by decide +kernel
theorem dX4_isSpelled_18 : decode cX4_isSpelled 18 = .ok (.iconst 0, 1) := by decide +kernel
theorem dX4_isSpelled_19 : decode cX4_isSpelled 19 = .ok (.istore_n 2, 1) := by decide +kernel
theorem dX4_isSpelled_20 : decode cX4_isSpelled 20 = .ok (.iload_n 2, 1) := by decide +kernel
theorem dX4_isSpelled_21 : decode cX4_isSpelled 21 = .ok (.aload_n 1, 1) := by decide +kernel
theorem dX4_isSpelled_22 : decode cX4_isSpelled 22 = .ok (.invokevirtual 113, 3) := by decide +kernel
theorem dX4_isSpelled_25 : decode cX4_isSpelled 25 = .ok (.if_icmp .ge 30, 3) := by decide +kernel
theorem dX4_isSpelled_28 : decode cX4_isSpelled 28 = .ok (.aload_n 1, 1) := by decide +kernel
theorem dX4_isSpelled_29 : decode cX4_isSpelled 29 = .ok (.iload_n 2, 1) := by decide +kernel
theorem dX4_isSpelled_30 : decode cX4_isSpelled 30 = .ok (.invokevirtual 117, 3) := by decide +kernel
theorem dX4_isSpelled_33 : decode cX4_isSpelled 33 = .ok (.aload_n 0, 1) := by decide +kernel
theorem dX4_isSpelled_34 : decode cX4_isSpelled 34 = .ok (.getfield 9, 3) := by decide +kernel
theorem dX4_isSpelled_37 : decode cX4_isSpelled 37 = .ok (.aload_n 0, 1) := by decide +kernel
theorem dX4_isSpelled_38 : decode cX4_isSpelled 38 = .ok (.getfield 44, 3) := by decide +kernel
theorem dX4_isSpelled_41 : decode cX4_isSpelled 41 = .ok (.iload_n 2, 1) := by decide +kernel
theorem dX4_isSpelled_42 : decode cX4_isSpelled 42 = .ok (.iadd, 1) := by decide +kernel
theorem dX4_isSpelled_43 : decode cX4_isSpelled 43 = .ok (.iaload, 1) := by decide +kernel
theorem dX4_isSpelled_44 : decode cX4_isSpelled 44 = .ok (.if_icmp .eq 5, 3) := by decide +kernel
theorem dX4_isSpelled_47 : decode cX4_isSpelled 47 = .ok (.iconst 0, 1) := by decide +kernel
theorem dX4_isSpelled_48 : decode cX4_isSpelled 48 = .ok (.ireturn, 1) := by decide +kernel
theorem dX4_isSpelled_49 : decode cX4_isSpelled 49 = .ok (.iinc 2 1, 3) := by decide +kernel
theorem dX4_isSpelled_52 : decode cX4_isSpelled 52 = .ok (.goto (-32), 3) := by decide +kernel
theorem dX4_isSpelled_55 : decode cX4_isSpelled 55 = .ok (.iconst 1, 1) := by decide +kernel
theorem dX4_isSpelled_56 : decode cX4_isSpelled 56 = .ok (.ireturn, 1) := by decide +kernel
theorem dX4_stepNumber_0 : decode cX4_stepNumber 0 = .ok (.aload_n 0, 1) := by decide +kernel
theorem dX4_stepNumber_1 : decode cX4_stepNumber 1 = .ok (.iconst 0, 1) := by decide +kernel
theorem dX4_stepNumber_2 : decode cX4_stepNumber 2 = .ok (.putfield 79, 3) := by decide +kernel
theorem dX4_stepNumber_5 : decode cX4_stepNumber 5 = .ok (.aload_n 0, 1) := by decide +kernel
theorem dX4_stepNumber_6 : decode cX4_stepNumber 6 = .ok (.getfield 29, 3) := by decide +kernel
theorem dX4_stepNumber_9 : decode cX4_stepNumber 9 = .ok (.aload_n 0, 1) := by decide +kernel
theorem dX4_stepNumber_10 : decode cX4_stepNumber 10 = .ok (.getfield 22, 3) := by decide +kernel
theorem dX4_stepNumber_13 : decode cX4_stepNumber 13 = .ok (.if_icmp .ge 55, 3) := by decide +kernel
theorem dX4_stepNumber_16 : decode cX4_stepNumber 16 = .ok (.aload_n 0, 1) := by decide +kernel
theorem dX4_stepNumber_17 : decode cX4_stepNumber 17 = .ok (.getfield 9, 3) := by decide +kernel
theorem dX4_stepNumber_20 : decode cX4_stepNumber 20 = .ok (.aload_n 0, 1) := by decide +kernel
theorem dX4_stepNumber_21 : decode cX4_stepNumber 21 = .ok (.getfield 29, 3) := by decide +kernel
theorem dX4_stepNumber_24 : decode cX4_stepNumber 24 = .ok (.iaload, 1) := by decide +kernel
theorem dX4_stepNumber_25 : decode cX4_stepNumber 25 = .ok (.invokestatic 91, 3) := by decide +kernel
theorem dX4_stepNumber_28 : decode cX4_stepNumber 28 = .ok (.ifCond .eq 40, 3) := by decide +kernel
theorem dX4_stepNumber_31 : decode cX4_stepNumber 31 = .ok (.aload_n 0, 1) := by decide +kernel
theorem dX4_stepNumber_32 : decode cX4_stepNumber 32 = .ok (.aload_n 0, 1) := by decide +kernel
theorem dX4_stepNumber_33 : decode cX4_stepNumber 33 = .ok (.getfield 79, 3) := by decide +kernel
theorem dX4_stepNumber_36 : decode cX4_stepNumber 36 = .ok (.bipush 10, 2) := by decide +kernel
theorem dX4_stepNumber_38 : decode cX4_stepNumber 38 = .ok (.imul, 1) := by decide +kernel
theorem dX4_stepNumber_39 : decode cX4_stepNumber 39 = .ok (.aload_n 0, 1) := by decide +kernel
theorem dX4_stepNumber_40 : decode cX4_stepNumber 40 = .ok (.getfield 9, 3) := by decide +kernel
theorem dX4_stepNumber_43 : decode cX4_stepNumber 43 = .ok (.aload_n 0, 1) := by decide +kernel
theorem dX4_stepNumber_44 : decode cX4_stepNumber 44 = .ok (.getfield 29, 3) := by decide +kernel
theorem dX4_stepNumber_47 : decode cX4_stepNumber 47 = .ok (.iaload, 1) := by decide +kernel
theorem dX4_stepNumber_48 : decode cX4_stepNumber 48 = .ok (.iadd, 1) := by decide +kernel
theorem dX4_stepNumber_49 : decode cX4_stepNumber 49 = .ok (.bipush 48, 2) := by decide +kernel
theorem dX4_stepNumber_51 : decode cX4_stepNumber 51 = .ok (.isub, 1) := by decide +kernel
theorem dX4_stepNumber_52 : decode cX4_stepNumber 52 = .ok (.putfield 79, 3) := by decide +kernel
theorem dX4_stepNumber_55 : decode cX4_stepNumber 55 = .ok (.aload_n 0, 1) := by decide +kernel
theorem dX4_stepNumber_56 : decode cX4_stepNumber 56 = .ok (.dup, 1) := by decide +kernel
theorem dX4_stepNumber_57 : decode cX4_stepNumber 57 = .ok (.getfield 29, 3) := by decide +kernel
theorem dX4_stepNumber_60 : decode cX4_stepNumber 60 = .ok (.iconst 1, 1) := by decide +kernel
theorem dX4_stepNumber_61 : decode cX4_stepNumber 61 = .ok (.iadd, 1) := by decide +kernel
theorem dX4_stepNumber_62 : decode cX4_stepNumber 62 = .ok (.putfield 29, 3) := by decide +kernel
theorem dX4_stepNumber_65 : decode cX4_stepNumber 65 = .ok (.goto (-60), 3) := by decide +kernel
theorem dX4_stepNumber_68 : decode cX4_stepNumber 68 = .ok (.aload_n 0, 1) := by decide +kernel
theorem dX4_stepNumber_69 : decode cX4_stepNumber 69 = .ok (.aload_n 0, 1) := by decide +kernel
theorem dX4_stepNumber_70 : decode cX4_stepNumber 70 = .ok (.getfield 29, 3) := by decide +kernel
theorem dX4_stepNumber_73 : decode cX4_stepNumber 73 = .ok (.aload_n 0, 1) := by decide +kernel
theorem dX4_stepNumber_74 : decode cX4_stepNumber 74 = .ok (.getfield 44, 3) := by decide +kernel
theorem dX4_stepNumber_77 : decode cX4_stepNumber 77 = .ok (.isub, 1) := by decide +kernel
theorem dX4_stepNumber_78 : decode cX4_stepNumber 78 = .ok (.iconst 4, 1) := by decide +kernel
theorem dX4_stepNumber_79 : decode cX4_stepNumber 79 = .ok (.if_icmp .gt 9, 3) := by decide +kernel
theorem dX4_stepNumber_82 : decode cX4_stepNumber 82 = .ok (.sipush 268, 3) := by decide +kernel
theorem dX4_stepNumber_85 : decode cX4_stepNumber 85 = .ok (.goto 6, 3) := by decide +kernel
theorem dX4_stepNumber_88 : decode cX4_stepNumber 88 = .ok (.sipush 270, 3) := by decide +kernel
theorem dX4_stepNumber_91 : decode cX4_stepNumber 91 = .ok (.putfield 41, 3) := by decide +kernel
theorem dX4_stepNumber_94 : decode cX4_stepNumber 94 = .ok (.return_, 1) := by decide +kernel
theorem dX4_isLetter_0 : decode cX4_isLetter 0 = .ok (.iload_n 0, 1) := by decide +kernel
theorem dX4_isLetter_1 : decode cX4_isLetter 1 = .ok (.bipush 97, 2) := by decide +kernel
theorem dX4_isLetter_3 : decode cX4_isLetter 3 = .ok (.if_icmp .lt 13, 3) := by decide +kernel
theorem dX4_isLetter_6 : decode cX4_isLetter 6 = .ok (.iload_n 0, 1) := by decide +kernel
theorem dX4_isLetter_7 : decode cX4_isLetter 7 = .ok (.bipush 122, 2) := by decide +kernel
theorem dX4_isLetter_9 : decode cX4_isLetter 9 = .ok (.if_icmp .gt 7, 3) := by decide +kernel
theorem dX4_isLetter_12 : decode cX4_isLetter 12 = .ok (.iconst 1, 1) := by decide +kernel
theorem dX4_isLetter_13 : decode cX4_isLetter 13 = .ok (.goto 4, 3) := by decide +kernel
theorem dX4_isLetter_16 : decode cX4_isLetter 16 = .ok (.iconst 0, 1) := by decide +kernel
theorem dX4_isLetter_17 : decode cX4_isLetter 17 = .ok (.ireturn, 1) := by decide +kernel
theorem dX4_isDigit_0 : decode cX4_isDigit 0 = .ok (.iload_n 0, 1) := by decide +kernel
theorem dX4_isDigit_1 : decode cX4_isDigit 1 = .ok (.bipush 48, 2) := by decide +kernel
theorem dX4_isDigit_3 : decode cX4_isDigit 3 = .ok (.if_icmp .lt 13, 3) := by decide +kernel
theorem dX4_isDigit_6 : decode cX4_isDigit 6 = .ok (.iload_n 0, 1) := by decide +kernel
theorem dX4_isDigit_7 : decode cX4_isDigit 7 = .ok (.bipush 57, 2) := by decide +kernel
theorem dX4_isDigit_9 : decode cX4_isDigit 9 = .ok (.if_icmp .gt 7, 3) := by decide +kernel
theorem dX4_isDigit_12 : decode cX4_isDigit 12 = .ok (.iconst 1, 1) := by decide +kernel
theorem dX4_isDigit_13 : decode cX4_isDigit 13 = .ok (.goto 4, 3) := by decide +kernel
theorem dX4_isDigit_16 : decode cX4_isDigit 16 = .ok (.iconst 0, 1) := by decide +kernel
theorem dX4_isDigit_17 : decode cX4_isDigit 17 = .ok (.ireturn, 1) := by decide +kernel
theorem dX5_init_0 : decode cX5_init 0 = .ok (.aload_n 0, 1) := by decide +kernel
theorem dX5_init_1 : decode cX5_init 1 = .ok (.invokespecial 1, 3) := by decide +kernel
theorem dX5_init_4 : decode cX5_init 4 = .ok (.aload_n 0, 1) := by decide +kernel
theorem dX5_init_5 : decode cX5_init 5 = .ok (.iconst (-1), 1) := by decide +kernel
theorem dX5_init_6 : decode cX5_init 6 = .ok (.putfield 9, 3) := by decide +kernel
theorem dX5_init_9 : decode cX5_init 9 = .ok (.aload_n 0, 1) := by decide +kernel
theorem dX5_init_10 : decode cX5_init 10 = .ok (.bipush 40, 2) := by decide +kernel
theorem dX5_init_12 : decode cX5_init 12 = .ok (.newarray .int, 2) := by decide +kernel
theorem dX5_init_14 : decode cX5_init 14 = .ok (.putfield 13, 3) := by decide +kernel
theorem dX5_init_17 : decode cX5_init 17 = .ok (.return_, 1) := by decide +kernel
theorem dX5_isMissing_0 : decode cX5_isMissing 0 = .ok (.aload_n 0, 1) := by decide +kernel
theorem dX5_isMissing_1 : decode cX5_isMissing 1 = .ok (.getfield 9, 3) := by decide +kernel
theorem dX5_isMissing_4 : decode cX5_isMissing 4 = .ok (.iconst (-1), 1) := by decide +kernel
theorem dX5_isMissing_5 : decode cX5_isMissing 5 = .ok (.if_icmp .ne 7, 3) := by decide +kernel
theorem dX5_isMissing_8 : decode cX5_isMissing 8 = .ok (.iconst 1, 1) := by decide +kernel
theorem dX5_isMissing_9 : decode cX5_isMissing 9 = .ok (.goto 4, 3) := by decide +kernel
theorem dX5_isMissing_12 : decode cX5_isMissing 12 = .ok (.iconst 0, 1) := by decide +kernel
theorem dX5_isMissing_13 : decode cX5_isMissing 13 = .ok (.ireturn, 1) := by decide +kernel
theorem dX5_become_0 : decode cX5_become 0 = .ok (.aload_n 0, 1) := by decide +kernel
theorem dX5_become_1 : decode cX5_become 1 = .ok (.iload_n 1, 1) := by decide +kernel
theorem dX5_become_2 : decode cX5_become 2 = .ok (.putfield 9, 3) := by decide +kernel
theorem dX5_become_5 : decode cX5_become 5 = .ok (.aload_n 0, 1) := by decide +kernel
