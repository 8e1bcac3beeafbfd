theorem dX1_write_11 : decode cX1_write 11 = .ok (.tableswitch 143 0 10 #[57, 65, 73, 83, 93, 103, 113, 123, 143, 143, 133], 57) := by decide +kernel
theorem dX1_write_68 : decode cX1_write 68 = .ok (.aload_n 0, 1) := by decide +kernel
theorem dX1_write_69 : decode cX1_write 69 = .ok (.iload_n 3, 1) := by decide +kernel
theorem dX1_write_70 : decode cX1_write 70 = .ok (.putfield 33, 3) := by decide +kernel
theorem dX1_write_73 : decode cX1_write 73 = .ok (.goto 86, 3) := by decide +kernel
theorem dX1_write_76 : decode cX1_write 76 = .ok (.aload_n 0, 1) := by decide +kernel
theorem dX1_write_77 : decode cX1_write 77 = .ok (.iload_n 3, 1) := by decide +kernel
theorem dX1_write_78 : decode cX1_write 78 = .ok (.putfield 37, 3) := by decide +kernel
theorem dX1_write_81 : decode cX1_write 81 = .ok (.goto 78, 3) := by decide +kernel
theorem dX1_write_84 : decode cX1_write 84 = .ok (.aload_n 0, 1) := by decide +kernel
theorem dX1_write_85 : decode cX1_write 85 = .ok (.getfield 15, 3) := by decide +kernel
theorem dX1_write_88 : decode cX1_write 88 = .ok (.iload_n 2, 1) := by decide +kernel
theorem dX1_write_89 : decode cX1_write 89 = .ok (.iload_n 3, 1) := by decide +kernel
theorem dX1_write_90 : decode cX1_write 90 = .ok (.iastore, 1) := by decide +kernel
theorem dX1_write_91 : decode cX1_write 91 = .ok (.goto 68, 3) := by decide +kernel
theorem dX1_write_94 : decode cX1_write 94 = .ok (.aload_n 0, 1) := by decide +kernel
theorem dX1_write_95 : decode cX1_write 95 = .ok (.getfield 18, 3) := by decide +kernel
theorem dX1_write_98 : decode cX1_write 98 = .ok (.iload_n 2, 1) := by decide +kernel
theorem dX1_write_99 : decode cX1_write 99 = .ok (.iload_n 3, 1) := by decide +kernel
theorem dX1_write_100 : decode cX1_write 100 = .ok (.iastore, 1) := by decide +kernel
theorem dX1_write_101 : decode cX1_write 101 = .ok (.goto 58, 3) := by decide +kernel
theorem dX1_write_104 : decode cX1_write 104 = .ok (.aload_n 0, 1) := by decide +kernel
theorem dX1_write_105 : decode cX1_write 105 = .ok (.getfield 21, 3) := by decide +kernel
theorem dX1_write_108 : decode cX1_write 108 = .ok (.iload_n 2, 1) := by decide +kernel
theorem dX1_write_109 : decode cX1_write 109 = .ok (.iload_n 3, 1) := by decide +kernel
theorem dX1_write_110 : decode cX1_write 110 = .ok (.iastore, 1) := by decide +kernel
theorem dX1_write_111 : decode cX1_write 111 = .ok (.goto 48, 3) := by decide +kernel
theorem dX1_write_114 : decode cX1_write 114 = .ok (.aload_n 0, 1) := by decide +kernel
theorem dX1_write_115 : decode cX1_write 115 = .ok (.getfield 24, 3) := by decide +kernel
theorem dX1_write_118 : decode cX1_write 118 = .ok (.iload_n 2, 1) := by decide +kernel
theorem dX1_write_119 : decode cX1_write 119 = .ok (.iload_n 3, 1) := by decide +kernel
theorem dX1_write_120 : decode cX1_write 120 = .ok (.iastore, 1) := by decide +kernel
theorem dX1_write_121 : decode cX1_write 121 = .ok (.goto 38, 3) := by decide +kernel
theorem dX1_write_124 : decode cX1_write 124 = .ok (.aload_n 0, 1) := by decide +kernel
theorem dX1_write_125 : decode cX1_write 125 = .ok (.getfield 27, 3) := by decide +kernel
theorem dX1_write_128 : decode cX1_write 128 = .ok (.iload_n 2, 1) := by decide +kernel
theorem dX1_write_129 : decode cX1_write 129 = .ok (.iload_n 3, 1) := by decide +kernel
theorem dX1_write_130 : decode cX1_write 130 = .ok (.iastore, 1) := by decide +kernel
theorem dX1_write_131 : decode cX1_write 131 = .ok (.goto 28, 3) := by decide +kernel
theorem dX1_write_134 : decode cX1_write 134 = .ok (.aload_n 0, 1) := by decide +kernel
theorem dX1_write_135 : decode cX1_write 135 = .ok (.getfield 9, 3) := by decide +kernel
theorem dX1_write_138 : decode cX1_write 138 = .ok (.iload_n 2, 1) := by decide +kernel
theorem dX1_write_139 : decode cX1_write 139 = .ok (.iload_n 3, 1) := by decide +kernel
theorem dX1_write_140 : decode cX1_write 140 = .ok (.iastore, 1) := by decide +kernel
theorem dX1_write_141 : decode cX1_write 141 = .ok (.goto 18, 3) := by decide +kernel
theorem dX1_write_144 : decode cX1_write 144 = .ok (.aload_n 0, 1) := by decide +kernel
theorem dX1_write_145 : decode cX1_write 145 = .ok (.getfield 30, 3) := by decide +kernel
theorem dX1_write_148 : decode cX1_write 148 = .ok (.iload_n 2, 1) := by decide +kernel
theorem dX1_write_149 : decode cX1_write 149 = .ok (.iload_n 3, 1) := by decide +kernel
theorem dX1_write_150 : decode cX1_write 150 = .ok (.iastore, 1) := by decide +kernel
theorem dX1_write_151 : decode cX1_write 151 = .ok (.goto 8, 3) := by decide +kernel
theorem dX1_write_154 : decode cX1_write 154 = .ok (.aload_n 0, 1) := by decide +kernel
theorem dX1_write_155 : decode cX1_write 155 = .ok (.iload_n 3, 1) := by decide +kernel
theorem dX1_write_156 : decode cX1_write 156 = .ok (.putfield 40, 3) := by decide +kernel
theorem dX1_write_159 : decode cX1_write 159 = .ok (.return_, 1) := by decide +kernel
theorem dX1_admit_0 : decode cX1_admit 0 = .ok (.iload_n 1, 1) := by decide +kernel
theorem dX1_admit_1 : decode cX1_admit 1 = .ok (.ifCond .lt 28, 3) := by decide +kernel
theorem dX1_admit_4 : decode cX1_admit 4 = .ok (.iload_n 1, 1) := by decide +kernel
theorem dX1_admit_5 : decode cX1_admit 5 = .ok (.iconst 5, 1) := by decide +kernel
theorem dX1_admit_6 : decode cX1_admit 6 = .ok (.if_icmp .gt 23, 3) := by decide +kernel
theorem dX1_admit_9 : decode cX1_admit 9 = .ok (.iload_n 2, 1) := by decide +kernel
theorem dX1_admit_10 : decode cX1_admit 10 = .ok (.ifCond .lt 19, 3) := by decide +kernel
theorem dX1_admit_13 : decode cX1_admit 13 = .ok (.iload_n 2, 1) := by decide +kernel
theorem dX1_admit_14 : decode cX1_admit 14 = .ok (.bipush 9, 2) := by decide +kernel
theorem dX1_admit_16 : decode cX1_admit 16 = .ok (.if_icmp .gt 13, 3) := by decide +kernel
theorem dX1_admit_19 : decode cX1_admit 19 = .ok (.iload_n 3, 1) := by decide +kernel
theorem dX1_admit_20 : decode cX1_admit 20 = .ok (.ifCond .lt 9, 3) := by decide +kernel
theorem dX1_admit_23 : decode cX1_admit 23 = .ok (.iload_n 3, 1) := by decide +kernel
theorem dX1_admit_24 : decode cX1_admit 24 = .ok (.bipush 99, 2) := by decide +kernel
theorem dX1_admit_26 : decode cX1_admit 26 = .ok (.if_icmp .le 6, 3) := by decide +kernel
theorem dX1_admit_29 : decode cX1_admit 29 = .ok (.bipush (-2), 2) := by decide +kernel
theorem dX1_admit_31 : decode cX1_admit 31 = .ok (.ireturn, 1) := by decide +kernel
theorem dX1_admit_32 : decode cX1_admit 32 = .ok (.aload_n 0, 1) := by decide +kernel
theorem dX1_admit_33 : decode cX1_admit 33 = .ok (.getfield 43, 3) := by decide +kernel
theorem dX1_admit_36 : decode cX1_admit 36 = .ok (.iconst 5, 1) := by decide +kernel
theorem dX1_admit_37 : decode cX1_admit 37 = .ok (.if_icmp .lt 6, 3) := by decide +kernel
theorem dX1_admit_40 : decode cX1_admit 40 = .ok (.bipush (-4), 2) := by decide +kernel
theorem dX1_admit_42 : decode cX1_admit 42 = .ok (.ireturn, 1) := by decide +kernel
theorem dX1_admit_43 : decode cX1_admit 43 = .ok (.aload_n 0, 1) := by decide +kernel
theorem dX1_admit_44 : decode cX1_admit 44 = .ok (.getfield 9, 3) := by decide +kernel
theorem dX1_admit_47 : decode cX1_admit 47 = .ok (.aload_n 0, 1) := by decide +kernel
theorem dX1_admit_48 : decode cX1_admit 48 = .ok (.getfield 43, 3) := by decide +kernel
theorem dX1_admit_51 : decode cX1_admit 51 = .ok (.iload_n 1, 1) := by decide +kernel
theorem dX1_admit_52 : decode cX1_admit 52 = .ok (.iastore, 1) := by decide +kernel
theorem dX1_admit_53 : decode cX1_admit 53 = .ok (.aload_n 0, 1) := by decide +kernel
theorem dX1_admit_54 : decode cX1_admit 54 = .ok (.getfield 15, 3) := by decide +kernel
theorem dX1_admit_57 : decode cX1_admit 57 = .ok (.aload_n 0, 1) := by decide +kernel
theorem dX1_admit_58 : decode cX1_admit 58 = .ok (.getfield 43, 3) := by decide +kernel
theorem dX1_admit_61 : decode cX1_admit 61 = .ok (.iload_n 2, 1) := by decide +kernel
theorem dX1_admit_62 : decode cX1_admit 62 = .ok (.iastore, 1) := by decide +kernel
theorem dX1_admit_63 : decode cX1_admit 63 = .ok (.aload_n 0, 1) := by decide +kernel
theorem dX1_admit_64 : decode cX1_admit 64 = .ok (.getfield 18, 3) := by decide +kernel
theorem dX1_admit_67 : decode cX1_admit 67 = .ok (.aload_n 0, 1) := by decide +kernel
theorem dX1_admit_68 : decode cX1_admit 68 = .ok (.getfield 43, 3) := by decide +kernel
theorem dX1_admit_71 : decode cX1_admit 71 = .ok (.iload_n 3, 1) := by decide +kernel
theorem dX1_admit_72 : decode cX1_admit 72 = .ok (.iastore, 1) := by decide +kernel
theorem dX1_admit_73 : decode cX1_admit 73 = .ok (.aload_n 0, 1) := by decide +kernel
theorem dX1_admit_74 : decode cX1_admit 74 = .ok (.getfield 21, 3) := by decide +kernel
theorem dX1_admit_77 : decode cX1_admit 77 = .ok (.aload_n 0, 1) := by decide +kernel
theorem dX1_admit_78 : decode cX1_admit 78 = .ok (.getfield 43, 3) := by decide +kernel
theorem dX1_admit_81 : decode cX1_admit 81 = .ok (.iconst 0, 1) := by decide +kernel
theorem dX1_admit_82 : decode cX1_admit 82 = .ok (.iastore, 1) := by decide +kernel
theorem dX1_admit_83 : decode cX1_admit 83 = .ok (.aload_n 0, 1) := by decide +kernel
theorem dX1_admit_84 : decode cX1_admit 84 = .ok (.dup, 1) := by decide +kernel
theorem dX1_admit_85 : decode cX1_admit 85 = .ok (.getfield 43, 3) := by decide +kernel
theorem dX1_admit_88 : decode cX1_admit 88 = .ok (.iconst 1, 1) := by decide +kernel
theorem dX1_admit_89 : decode cX1_admit 89 = .ok (.iadd, 1) := by decide +kernel
theorem dX1_admit_90 : decode cX1_admit 90 = .ok (.putfield 43, 3) := by decide +kernel
theorem dX1_admit_93 : decode cX1_admit 93 = .ok (.aload_n 0, 1) := by decide +kernel
theorem dX1_admit_94 : decode cX1_admit 94 = .ok (.getfield 43, 3) := by decide +kernel
theorem dX1_admit_97 : decode cX1_admit 97 = .ok (.iconst 1, 1) := by decide +kernel
theorem dX1_admit_98 : decode cX1_admit 98 = .ok (.isub, 1) := by decide +kernel
theorem dX1_admit_99 : decode cX1_admit 99 = .ok (.ireturn, 1) := by decide +kernel
set_option maxRecDepth 20000 in
theorem ggX1_bringNews_X1_lodges : GoodIn wsX1_bringNews wsX1_lodges := goodIn_r _ [7, 8, 19, 20, 21, 22, 23, 24, 25, 26, 27, 28, 29] (by decide +kernel) (by decide +kernel)
set_option maxRecDepth 20000 in
theorem gX1_bringNews_X1_lodges : GoodIn wsX1_bringNews (wsV RX1 52 RX1 yX1_lodges wsX1_lodges) := goodIn_app (goodIn_of _ (by decide +kernel)) ggX1_bringNews_X1_lodges
set_option maxRecDepth 20000 in
theorem ggX1_bringNews_X8_bounded : GoodIn wsX1_bringNews wsX8_bounded := goodIn_r _ [11, 12, 13, 14, 15, 16, 17, 18] (by decide +kernel) (by decide +kernel)
set_option maxRecDepth 20000 in
theorem gX1_bringNews_X8_bounded_n63 : GoodIn wsX1_bringNews (wsX8_bounded) := ggX1_bringNews_X8_bounded
theorem dX1_bringNews_0 : decode cX1_bringNews 0 = .ok (.aload_n 0, 1) := by decide +kernel
theorem dX1_bringNews_1 : decode cX1_bringNews 1 = .ok (.iload_n 1, 1) := by decide +kernel
theorem dX1_bringNews_2 : decode cX1_bringNews 2 = .ok (.invokevirtual 52, 3) := by decide +kernel
theorem dX1_bringNews_5 : decode cX1_bringNews 5 = .ok (.ifCond .ne 4, 3) := by decide +kernel
theorem dX1_bringNews_8 : decode cX1_bringNews 8 = .ok (.return_, 1) := by decide +kernel
theorem dX1_bringNews_9 : decode cX1_bringNews 9 = .ok (.aload_n 0, 1) := by decide +kernel
theorem dX1_bringNews_10 : decode cX1_bringNews 10 = .ok (.getfield 21, 3) := by decide +kernel
theorem dX1_bringNews_13 : decode cX1_bringNews 13 = .ok (.iload_n 1, 1) := by decide +kernel
theorem dX1_bringNews_14 : decode cX1_bringNews 14 = .ok (.aload_n 0, 1) := by decide +kernel
theorem dX1_bringNews_15 : decode cX1_bringNews 15 = .ok (.getfield 21, 3) := by decide +kernel
theorem dX1_bringNews_18 : decode cX1_bringNews 18 = .ok (.iload_n 1, 1) := by decide +kernel
theorem dX1_bringNews_19 : decode cX1_bringNews 19 = .ok (.iaload, 1) := by decide +kernel
theorem dX1_bringNews_20 : decode cX1_bringNews 20 = .ok (.iconst 1, 1) := by decide +kernel
theorem dX1_bringNews_21 : decode cX1_bringNews 21 = .ok (.iadd, 1) := by decide +kernel
theorem dX1_bringNews_22 : decode cX1_bringNews 22 = .ok (.invokestatic 63, 3) := by decide +kernel
theorem dX1_bringNews_25 : decode cX1_bringNews 25 = .ok (.iastore, 1) := by decide +kernel
theorem dX1_bringNews_26 : decode cX1_bringNews 26 = .ok (.aload_n 0, 1) := by decide +kernel
theorem dX1_bringNews_27 : decode cX1_bringNews 27 = .ok (.getfield 18, 3) := by decide +kernel
theorem dX1_bringNews_30 : decode cX1_bringNews 30 = .ok (.iload_n 1, 1) := by decide +kernel
theorem dX1_bringNews_31 : decode cX1_bringNews 31 = .ok (.iconst 0, 1) := by decide +kernel
theorem dX1_bringNews_32 : decode cX1_bringNews 32 = .ok (.iastore, 1) := by decide +kernel
theorem dX1_bringNews_33 : decode cX1_bringNews 33 = .ok (.return_, 1) := by decide +kernel
theorem dX1_heldInAll_0 : decode cX1_heldInAll 0 = .ok (.iconst 0, 1) := by decide +kernel
theorem dX1_heldInAll_1 : decode cX1_heldInAll 1 = .ok (.istore_n 1, 1) := by decide +kernel
theorem dX1_heldInAll_2 : decode cX1_heldInAll 2 = .ok (.iconst 0, 1) := by decide +kernel
theorem dX1_heldInAll_3 : decode cX1_heldInAll 3 = .ok (.istore_n 2, 1) := by decide +kernel
theorem dX1_heldInAll_4 : decode cX1_heldInAll 4 = .ok (.iload_n 2, 1) := by decide +kernel
theorem dX1_heldInAll_5 : decode cX1_heldInAll 5 = .ok (.bipush 6, 2) := by decide +kernel
theorem dX1_heldInAll_7 : decode cX1_heldInAll 7 = .ok (.if_icmp .ge 18, 3) := by decide +kernel
theorem dX1_heldInAll_10 : decode cX1_heldInAll 10 = .ok (.iload_n 1, 1) := by decide +kernel
theorem dX1_heldInAll_11 : decode cX1_heldInAll 11 = .ok (.aload_n 0, 1) := by decide +kernel
theorem dX1_heldInAll_12 : decode cX1_heldInAll 12 = .ok (.getfield 30, 3) := by decide +kernel
theorem dX1_heldInAll_15 : decode cX1_heldInAll 15 = .ok (.iload_n 2, 1) := by decide +kernel
theorem dX1_heldInAll_16 : decode cX1_heldInAll 16 = .ok (.iaload, 1) := by decide +kernel
theorem dX1_heldInAll_17 : decode cX1_heldInAll 17 = .ok (.iadd, 1) := by decide +kernel
theorem dX1_heldInAll_18 : decode cX1_heldInAll 18 = .ok (.istore_n 1, 1) := by decide +kernel
theorem dX1_heldInAll_19 : decode cX1_heldInAll 19 = .ok (.iinc 2 1, 3) := by decide +kernel
theorem dX1_heldInAll_22 : decode cX1_heldInAll 22 = .ok (.goto (-18), 3) := by decide +kernel
theorem dX1_heldInAll_25 : decode cX1_heldInAll 25 = .ok (.iload_n 1, 1) := by decide +kernel
theorem dX1_heldInAll_26 : decode cX1_heldInAll 26 = .ok (.ireturn, 1) := by decide +kernel
theorem dX1_fullCups_0 : decode cX1_fullCups 0 = .ok (.iconst 0, 1) := by decide +kernel
theorem dX1_fullCups_1 : decode cX1_fullCups 1 = .ok (.istore_n 1, 1) := by decide +kernel
theorem dX1_fullCups_2 : decode cX1_fullCups 2 = .ok (.iconst 0, 1) := by decide +kernel
theorem dX1_fullCups_3 : decode cX1_fullCups 3 = .ok (.istore_n 2, 1) := by decide +kernel
theorem dX1_fullCups_4 : decode cX1_fullCups 4 = .ok (.iload_n 2, 1) := by decide +kernel
theorem dX1_fullCups_5 : decode cX1_fullCups 5 = .ok (.bipush 6, 2) := by decide +kernel
theorem dX1_fullCups_7 : decode cX1_fullCups 7 = .ok (.if_icmp .ge 30, 3) := by decide +kernel
theorem dX1_fullCups_10 : decode cX1_fullCups 10 = .ok (.aload_n 0, 1) := by decide +kernel
theorem dX1_fullCups_11 : decode cX1_fullCups 11 = .ok (.getfield 30, 3) := by decide +kernel
theorem dX1_fullCups_14 : decode cX1_fullCups 14 = .ok (.iload_n 2, 1) := by decide +kernel
theorem dX1_fullCups_15 : decode cX1_fullCups 15 = .ok (.iaload, 1) := by decide +kernel
theorem dX1_fullCups_16 : decode cX1_fullCups 16 = .ok (.aload_n 0, 1) := by decide +kernel
theorem dX1_fullCups_17 : decode cX1_fullCups 17 = .ok (.getfield 24, 3) := by decide +kernel
theorem dX1_fullCups_20 : decode cX1_fullCups 20 = .ok (.iload_n 2, 1) := by decide +kernel
theorem dX1_fullCups_21 : decode cX1_fullCups 21 = .ok (.iaload, 1) := by decide +kernel
theorem dX1_fullCups_22 : decode cX1_fullCups 22 = .ok (.if_icmp .ne 9, 3) := by decide +kernel
theorem dX1_fullCups_25 : decode cX1_fullCups 25 = .ok (.iload_n 1, 1) := by decide +kernel
theorem dX1_fullCups_26 : decode cX1_fullCups 26 = .ok (.iconst 1, 1) := by decide +kernel
theorem dX1_fullCups_27 : decode cX1_fullCups 27 = .ok (.iload_n 2, 1) := by decide +kernel
theorem dX1_fullCups_28 : decode cX1_fullCups 28 = .ok (.ishl, 1) := by decide +kernel
theorem dX1_fullCups_29 : decode cX1_fullCups 29 = .ok (.ior, 1) := by decide +kernel
theorem dX1_fullCups_30 : decode cX1_fullCups 30 = .ok (.istore_n 1, 1) := by decide +kernel
theorem dX1_fullCups_31 : decode cX1_fullCups 31 = .ok (.iinc 2 1, 3) := by decide +kernel
theorem dX1_fullCups_34 : decode cX1_fullCups 34 = .ok (.goto (-30), 3) := by decide +kernel
theorem dX1_fullCups_37 : decode cX1_fullCups 37 = .ok (.iload_n 1, 1) := by decide +kernel
theorem dX1_fullCups_38 : decode cX1_fullCups 38 = .ok (.ireturn, 1) := by decide +kernel
set_option maxRecDepth 20000 in
theorem ggX2_init_X6_init : GoodIn wsX2_init wsX6_init := goodIn_r _ [12, 13, 2, 3, 7, 14, 15, 36, 37, 38] (by decide +kernel) (by decide +kernel)
set_option maxRecDepth 20000 in
theorem gX2_init_X6_init_n25 : GoodIn wsX2_init (wsX6_init) := ggX2_init_X6_init
set_option maxRecDepth 20000 in
theorem ggX2_init_X6_beFirst : GoodIn wsX2_init wsX6_beFirst := goodIn_r _ [19, 20, 21, 22, 10, 23, 24, 25, 26, 27, 28, 14, 29, 30, 31, 32, 15, 36, 37, 38] (by decide +kernel) (by decide +kernel)
set_option maxRecDepth 20000 in
theorem gX2_init_X6_beFirst : GoodIn wsX2_init (wsV RX2 26 RX6 yX6_beFirst wsX6_beFirst) := goodIn_app (goodIn_of _ (by decide +kernel)) ggX2_init_X6_beFirst
theorem dX2_init_0 : decode cX2_init 0 = .ok (.aload_n 0, 1) := by decide +kernel
theorem dX2_init_1 : decode cX2_init 1 = .ok (.invokespecial 3, 3) := by decide +kernel
theorem dX2_init_4 : decode cX2_init 4 = .ok (.aload_n 0, 1) := by decide +kernel
theorem dX2_init_5 : decode cX2_init 5 = .ok (.bipush 6, 2) := by decide +kernel
theorem dX2_init_7 : decode cX2_init 7 = .ok (.anewarray 9, 3) := by decide +kernel
theorem dX2_init_10 : decode cX2_init 10 = .ok (.putfield 11, 3) := by decide +kernel
theorem dX2_init_13 : decode cX2_init 13 = .ok (.aload_n 0, 1) := by decide +kernel
theorem dX2_init_14 : decode cX2_init 14 = .ok (.iconst 1, 1) := by decide +kernel
theorem dX2_init_15 : decode cX2_init 15 = .ok (.putfield 17, 3) := by decide +kernel
theorem dX2_init_18 : decode cX2_init 18 = .ok (.aload_n 0, 1) := by decide +kernel
theorem dX2_init_19 : decode cX2_init 19 = .ok (.bipush 32, 2) := by decide +kernel
theorem dX2_init_21 : decode cX2_init 21 = .ok (.newarray .int, 2) := by decide +kernel
theorem dX2_init_23 : decode cX2_init 23 = .ok (.putfield 21, 3) := by decide +kernel
theorem dX2_init_26 : decode cX2_init 26 = .ok (.iconst 0, 1) := by decide +kernel
theorem dX2_init_27 : decode cX2_init 27 = .ok (.istore_n 1, 1) := by decide +kernel
theorem dX2_init_28 : decode cX2_init 28 = .ok (.iload_n 1, 1) := by decide +kernel
theorem dX2_init_29 : decode cX2_init 29 = .ok (.bipush 6, 2) := by decide +kernel
theorem dX2_init_31 : decode cX2_init 31 = .ok (.if_icmp .ge 22, 3) := by decide +kernel
theorem dX2_init_34 : decode cX2_init 34 = .ok (.aload_n 0, 1) := by decide +kernel
theorem dX2_init_35 : decode cX2_init 35 = .ok (.getfield 11, 3) := by decide +kernel
theorem dX2_init_38 : decode cX2_init 38 = .ok (.iload_n 1, 1) := by decide +kernel
theorem dX2_init_39 : decode cX2_init 39 = .ok (.new 9, 3) := by decide +kernel
theorem dX2_init_42 : decode cX2_init 42 = .ok (.dup, 1) := by decide +kernel
theorem dX2_init_43 : decode cX2_init 43 = .ok (.invokespecial 25, 3) := by decide +kernel
theorem dX2_init_46 : decode cX2_init 46 = .ok (.aastore, 1) := by decide +kernel
theorem dX2_init_47 : decode cX2_init 47 = .ok (.iinc 1 1, 3) := by decide +kernel
theorem dX2_init_50 : decode cX2_init 50 = .ok (.goto (-22), 3) := by decide +kernel
theorem dX2_init_53 : decode cX2_init 53 = .ok (.aload_n 0, 1) := by decide +kernel
theorem dX2_init_54 : decode cX2_init 54 = .ok (.getfield 11, 3) := by decide +kernel
theorem dX2_init_57 : decode cX2_init 57 = .ok (.iconst 0, 1) := by decide +kernel
theorem dX2_init_58 : decode cX2_init 58 = .ok (.aaload, 1) := by decide +kernel
theorem dX2_init_59 : decode cX2_init 59 = .ok (.invokevirtual 26, 3) := by decide +kernel
theorem dX2_init_62 : decode cX2_init 62 = .ok (.return_, 1) := by decide +kernel
theorem dX2_size_0 : decode cX2_size 0 = .ok (.aload_n 0, 1) := by decide +kernel
theorem dX2_size_1 : decode cX2_size 1 = .ok (.getfield 17, 3) := by decide +kernel
theorem dX2_size_4 : decode cX2_size 4 = .ok (.ireturn, 1) := by decide +kernel
theorem dX2_isFull_0 : decode cX2_isFull 0 = .ok (.aload_n 0, 1) := by decide +kernel
theorem dX2_isFull_1 : decode cX2_isFull 1 = .ok (.getfield 17, 3) := by decide +kernel
theorem dX2_isFull_4 : decode cX2_isFull 4 = .ok (.bipush 6, 2) := by decide +kernel
theorem dX2_isFull_6 : decode cX2_isFull 6 = .ok (.if_icmp .lt 7, 3) := by decide +kernel
theorem dX2_isFull_9 : decode cX2_isFull 9 = .ok (.iconst 1, 1) := by decide +kernel
theorem dX2_isFull_10 : decode cX2_isFull 10 = .ok (.goto 4, 3) := by decide +kernel
theorem dX2_isFull_13 : decode cX2_isFull 13 = .ok (.iconst 0, 1) := by decide +kernel
theorem dX2_isFull_14 : decode cX2_isFull 14 = .ok (.ireturn, 1) := by decide +kernel
theorem dX2_hasText_0 : decode cX2_hasText 0 = .ok (.iload_n 1, 1) := by decide +kernel
theorem dX2_hasText_1 : decode cX2_hasText 1 = .ok (.ifCond .lt 15, 3) := by decide +kernel
theorem dX2_hasText_4 : decode cX2_hasText 4 = .ok (.iload_n 1, 1) := by decide +kernel
theorem dX2_hasText_5 : decode cX2_hasText 5 = .ok (.aload_n 0, 1) := by decide +kernel
theorem dX2_hasText_6 : decode cX2_hasText 6 = .ok (.getfield 17, 3) := by decide +kernel
theorem dX2_hasText_9 : decode cX2_hasText 9 = .ok (.if_icmp .ge 7, 3) := by decide +kernel
theorem dX2_hasText_12 : decode cX2_hasText 12 = .ok (.iconst 1, 1) := by decide +kernel
theorem dX2_hasText_13 : decode cX2_hasText 13 = .ok (.goto 4, 3) := by decide +kernel
theorem dX2_hasText_16 : decode cX2_hasText 16 = .ok (.iconst 0, 1) := by decide +kernel
theorem dX2_hasText_17 : decode cX2_hasText 17 = .ok (.ireturn, 1) := by decide +kernel
theorem dX2_nextText_0 : decode cX2_nextText 0 = .ok (.aload_n 0, 1) := by decide +kernel
theorem dX2_nextText_1 : decode cX2_nextText 1 = .ok (.getfield 11, 3) := by decide +kernel
theorem dX2_nextText_4 : decode cX2_nextText 4 = .ok (.aload_n 0, 1) := by decide +kernel
theorem dX2_nextText_5 : decode cX2_nextText 5 = .ok (.getfield 17, 3) := by decide +kernel
theorem dX2_nextText_8 : decode cX2_nextText 8 = .ok (.iconst 5, 1) := by decide +kernel
theorem dX2_nextText_9 : decode cX2_nextText 9 = .ok (.invokestatic 29, 3) := by decide +kernel
theorem dX2_nextText_12 : decode cX2_nextText 12 = .ok (.aaload, 1) := by decide +kernel
theorem dX2_nextText_13 : decode cX2_nextText 13 = .ok (.areturn, 1) := by decide +kernel
theorem dX2_keepNext_0 : decode cX2_keepNext 0 = .ok (.aload_n 0, 1) := by decide +kernel
theorem dX2_keepNext_1 : decode cX2_keepNext 1 = .ok (.aload_n 0, 1) := by decide +kernel
theorem dX2_keepNext_2 : decode cX2_keepNext 2 = .ok (.getfield 17, 3) := by decide +kernel
theorem dX2_keepNext_5 : decode cX2_keepNext 5 = .ok (.iconst 1, 1) := by decide +kernel
theorem dX2_keepNext_6 : decode cX2_keepNext 6 = .ok (.iadd, 1) := by decide +kernel
theorem dX2_keepNext_7 : decode cX2_keepNext 7 = .ok (.bipush 6, 2) := by decide +kernel
theorem dX2_keepNext_9 : decode cX2_keepNext 9 = .ok (.invokestatic 29, 3) := by decide +kernel
theorem dX2_keepNext_12 : decode cX2_keepNext 12 = .ok (.putfield 17, 3) := by decide +kernel
theorem dX2_keepNext_15 : decode cX2_keepNext 15 = .ok (.aload_n 0, 1) := by decide +kernel
theorem dX2_keepNext_16 : decode cX2_keepNext 16 = .ok (.getfield 17, 3) := by decide +kernel
theorem dX2_keepNext_19 : decode cX2_keepNext 19 = .ok (.iconst 1, 1) := by decide +kernel
theorem dX2_keepNext_20 : decode cX2_keepNext 20 = .ok (.isub, 1) := by decide +kernel
theorem dX2_keepNext_21 : decode cX2_keepNext 21 = .ok (.ireturn, 1) := by decide +kernel
set_option maxRecDepth 20000 in
theorem ggX2_yieldOf_X1_lodges : GoodIn wsX2_yieldOf wsX1_lodges := goodIn_r _ [7, 8, 67, 68, 69, 70, 71, 72, 73, 74, 75, 76, 77] (by decide +kernel) (by decide +kernel)
set_option maxRecDepth 20000 in
theorem gX2_yieldOf_X1_lodges : GoodIn wsX2_yieldOf (wsV RX2 35 RX1 yX1_lodges wsX1_lodges) := goodIn_app (goodIn_of _ (by decide +kernel)) ggX2_yieldOf_X1_lodges
set_option maxRecDepth 20000 in
theorem ggX2_yieldOf_X2_ruling : GoodIn wsX2_yieldOf wsX2_ruling := goodIn_r _ [13, 14, 15, 16, 17, 18, 12, 19, 20, 78, 79, 80, 67, 68, 69, 70, 71, 72, 73, 74, 75, 76, 77] (by decide +kernel) (by decide +kernel)
set_option maxRecDepth 20000 in
theorem gX2_yieldOf_X2_ruling : GoodIn wsX2_yieldOf (wsV RX2 44 RX2 yX2_ruling wsX2_ruling) := goodIn_app (goodIn_of _ (by decide +kernel)) ggX2_yieldOf_X2_ruling
set_option maxRecDepth 20000 in
theorem ggX2_yieldOf_X6_value : GoodIn wsX2_yieldOf wsX6_value := goodIn_r _ [25, 26, 27, 28, 4, 5, 6, 7, 8, 29, 30, 31, 32, 33, 34, 24, 35, 36, 37, 38, 39, 40, 41, 42, 43, 44, 45, 46, 81, 82, 83, 67, 68, 69, 70, 71, 72, 73, 74, 75, 76, 77] (by decide +kernel) (by decide +kernel)
set_option maxRecDepth 20000 in
theorem gX2_yieldOf_X6_value : GoodIn wsX2_yieldOf (wsV RX2 48 RX6 yX6_value wsX6_value) := goodIn_app (goodIn_of _ (by decide +kernel)) ggX2_yieldOf_X6_value
set_option maxRecDepth 20000 in
theorem ggX2_yieldOf_X8_bounded : GoodIn wsX2_yieldOf wsX8_bounded := goodIn_r _ [49, 50, 51, 52, 53, 54, 55, 56] (by decide +kernel) (by decide +kernel)
set_option maxRecDepth 20000 in
theorem gX2_yieldOf_X8_bounded_n52 : GoodIn wsX2_yieldOf (wsX8_bounded) := ggX2_yieldOf_X8_bounded
set_option maxRecDepth 20000 in
theorem ggX2_yieldOf_X2_yieldByKind : GoodIn wsX2_yieldOf wsX2_yieldByKind := goodIn_r _ [60, 61, 62, 63, 64, 51, 52, 53, 65, 66, 67, 68, 69, 70, 71, 72, 73, 74, 75, 76, 77] (by decide +kernel) (by decide +kernel)
set_option maxRecDepth 20000 in
theorem gX2_yieldOf_X2_yieldByKind : GoodIn wsX2_yieldOf (wsV RX2 56 RX2 yX2_yieldByKind wsX2_yieldByKind) := goodIn_app (goodIn_of _ (by decide +kernel)) ggX2_yieldOf_X2_yieldByKind
theorem dX2_yieldOf_0 : decode cX2_yieldOf 0 = .ok (.aload_n 1, 1) := by decide +kernel
theorem dX2_yieldOf_1 : decode cX2_yieldOf 1 = .ok (.iload_n 2, 1) := by decide +kernel
theorem dX2_yieldOf_2 : decode cX2_yieldOf 2 = .ok (.invokevirtual 35, 3) := by decide +kernel
theorem dX2_yieldOf_5 : decode cX2_yieldOf 5 = .ok (.ifCond .eq 12, 3) := by decide +kernel
theorem dX2_yieldOf_8 : decode cX2_yieldOf 8 = .ok (.aload_n 1, 1) := by decide +kernel
theorem dX2_yieldOf_9 : decode cX2_yieldOf 9 = .ok (.getfield 41, 3) := by decide +kernel
theorem dX2_yieldOf_12 : decode cX2_yieldOf 12 = .ok (.iload_n 2, 1) := by decide +kernel
theorem dX2_yieldOf_13 : decode cX2_yieldOf 13 = .ok (.iaload, 1) := by decide +kernel
theorem dX2_yieldOf_14 : decode cX2_yieldOf 14 = .ok (.ifCond .ne 5, 3) := by decide +kernel
theorem dX2_yieldOf_17 : decode cX2_yieldOf 17 = .ok (.iconst 0, 1) := by decide +kernel
theorem dX2_yieldOf_18 : decode cX2_yieldOf 18 = .ok (.ireturn, 1) := by decide +kernel
theorem dX2_yieldOf_19 : decode cX2_yieldOf 19 = .ok (.aload_n 0, 1) := by decide +kernel
theorem dX2_yieldOf_20 : decode cX2_yieldOf 20 = .ok (.aload_n 1, 1) := by decide +kernel
theorem dX2_yieldOf_21 : decode cX2_yieldOf 21 = .ok (.invokevirtual 44, 3) := by decide +kernel
theorem dX2_yieldOf_24 : decode cX2_yieldOf 24 = .ok (.iconst 0, 1) := by decide +kernel
theorem dX2_yieldOf_25 : decode cX2_yieldOf 25 = .ok (.aload_n 1, 1) := by decide +kernel
theorem dX2_yieldOf_26 : decode cX2_yieldOf 26 = .ok (.iload_n 2, 1) := by decide +kernel
theorem dX2_yieldOf_27 : decode cX2_yieldOf 27 = .ok (.iconst 0, 1) := by decide +kernel
theorem dX2_yieldOf_28 : decode cX2_yieldOf 28 = .ok (.aload_n 0, 1) := by decide +kernel
theorem dX2_yieldOf_29 : decode cX2_yieldOf 29 = .ok (.getfield 21, 3) := by decide +kernel
theorem dX2_yieldOf_32 : decode cX2_yieldOf 32 = .ok (.invokevirtual 48, 3) := by decide +kernel
theorem dX2_yieldOf_35 : decode cX2_yieldOf 35 = .ok (.invokestatic 52, 3) := by decide +kernel
theorem dX2_yieldOf_38 : decode cX2_yieldOf 38 = .ok (.istore_n 3, 1) := by decide +kernel
theorem dX2_yieldOf_39 : decode cX2_yieldOf 39 = .ok (.aload_n 0, 1) := by decide +kernel
theorem dX2_yieldOf_40 : decode cX2_yieldOf 40 = .ok (.aload_n 1, 1) := by decide +kernel
theorem dX2_yieldOf_41 : decode cX2_yieldOf 41 = .ok (.iload_n 2, 1) := by decide +kernel
theorem dX2_yieldOf_42 : decode cX2_yieldOf 42 = .ok (.iload_n 3, 1) := by decide +kernel
theorem dX2_yieldOf_43 : decode cX2_yieldOf 43 = .ok (.invokevirtual 56, 3) := by decide +kernel
theorem dX2_yieldOf_46 : decode cX2_yieldOf 46 = .ok (.invokestatic 52, 3) := by decide +kernel
theorem dX2_yieldOf_49 : decode cX2_yieldOf 49 = .ok (.ireturn, 1) := by decide +kernel
set_option maxRecDepth 20000 in
theorem ggX2_suitsCup_X1_lodges : GoodIn wsX2_suitsCup wsX1_lodges := goodIn_r _ [9, 10, 52, 53, 54, 55, 56, 57, 58, 59, 60, 61, 62] (by decide +kernel) (by decide +kernel)
set_option maxRecDepth 20000 in
theorem gX2_suitsCup_X1_lodges : GoodIn wsX2_suitsCup (wsV RX2 35 RX1 yX1_lodges wsX1_lodges) := goodIn_app (goodIn_of _ (by decide +kernel)) ggX2_suitsCup_X1_lodges
set_option maxRecDepth 20000 in
theorem ggX2_suitsCup_X8_isCup : GoodIn wsX2_suitsCup wsX8_isCup := goodIn_r _ [13] (by decide +kernel) (by decide +kernel)
set_option maxRecDepth 20000 in
theorem gX2_suitsCup_X8_isCup_n60 : GoodIn wsX2_suitsCup (wsX8_isCup) := ggX2_suitsCup_X8_isCup
set_option maxRecDepth 20000 in
theorem ggX2_suitsCup_X2_ruling : GoodIn wsX2_suitsCup wsX2_ruling := goodIn_r _ [18, 19, 20, 21, 22, 23, 17, 24, 25, 63, 64, 65, 52, 53, 54, 55, 56, 57, 58, 59, 60, 61, 62] (by decide +kernel) (by decide +kernel)
set_option maxRecDepth 20000 in
theorem gX2_suitsCup_X2_ruling : GoodIn wsX2_suitsCup (wsV RX2 44 RX2 yX2_ruling wsX2_ruling) := goodIn_app (goodIn_of _ (by decide +kernel)) ggX2_suitsCup_X2_ruling
set_option maxRecDepth 20000 in
theorem ggX2_suitsCup_X6_value : GoodIn wsX2_suitsCup wsX6_value := goodIn_r _ [30, 31, 32, 33, 6, 7, 8, 9, 10, 34, 35, 36, 37, 38, 39, 29, 40, 41, 42, 43, 44, 45, 46, 47, 48, 49, 50, 51, 66, 67, 68, 52, 53, 54, 55, 56, 57, 58, 59, 60, 61, 62] (by decide +kernel) (by decide +kernel)
set_option maxRecDepth 20000 in
theorem gX2_suitsCup_X6_value : GoodIn wsX2_suitsCup (wsV RX2 48 RX6 yX6_value wsX6_value) := goodIn_app (goodIn_of _ (by decide +kernel)) ggX2_suitsCup_X6_value
theorem dX2_suitsCup_0 : decode cX2_suitsCup 0 = .ok (.aload_n 1, 1) := by decide +kernel
theorem dX2_suitsCup_1 : decode cX2_suitsCup 1 = .ok (.iload_n 2, 1) := by decide +kernel
theorem dX2_suitsCup_2 : decode cX2_suitsCup 2 = .ok (.invokevirtual 35, 3) := by decide +kernel
theorem dX2_suitsCup_5 : decode cX2_suitsCup 5 = .ok (.ifCond .eq 10, 3) := by decide +kernel
theorem dX2_suitsCup_8 : decode cX2_suitsCup 8 = .ok (.iload_n 3, 1) := by decide +kernel
theorem dX2_suitsCup_9 : decode cX2_suitsCup 9 = .ok (.invokestatic 60, 3) := by decide +kernel
theorem dX2_suitsCup_12 : decode cX2_suitsCup 12 = .ok (.ifCond .ne 5, 3) := by decide +kernel
theorem dX2_suitsCup_15 : decode cX2_suitsCup 15 = .ok (.iconst 0, 1) := by decide +kernel
theorem dX2_suitsCup_16 : decode cX2_suitsCup 16 = .ok (.ireturn, 1) := by decide +kernel
theorem dX2_suitsCup_17 : decode cX2_suitsCup 17 = .ok (.aload_n 1, 1) := by decide +kernel
theorem dX2_suitsCup_18 : decode cX2_suitsCup 18 = .ok (.getfield 63, 3) := by decide +kernel
theorem dX2_suitsCup_21 : decode cX2_suitsCup 21 = .ok (.iload_n 3, 1) := by decide +kernel
theorem dX2_suitsCup_22 : decode cX2_suitsCup 22 = .ok (.iaload, 1) := by decide +kernel
theorem dX2_suitsCup_23 : decode cX2_suitsCup 23 = .ok (.istore 4, 2) := by decide +kernel
theorem dX2_suitsCup_25 : decode cX2_suitsCup 25 = .ok (.aload_n 0, 1) := by decide +kernel
theorem dX2_suitsCup_26 : decode cX2_suitsCup 26 = .ok (.aload_n 1, 1) := by decide +kernel
theorem dX2_suitsCup_27 : decode cX2_suitsCup 27 = .ok (.invokevirtual 44, 3) := by decide +kernel
theorem dX2_suitsCup_30 : decode cX2_suitsCup 30 = .ok (.iconst 1, 1) := by decide +kernel
theorem dX2_suitsCup_31 : decode cX2_suitsCup 31 = .ok (.aload_n 1, 1) := by decide +kernel
theorem dX2_suitsCup_32 : decode cX2_suitsCup 32 = .ok (.iload_n 2, 1) := by decide +kernel
theorem dX2_suitsCup_33 : decode cX2_suitsCup 33 = .ok (.iload 4, 2) := by decide +kernel
theorem dX2_suitsCup_35 : decode cX2_suitsCup 35 = .ok (.aload_n 0, 1) := by decide +kernel
theorem dX2_suitsCup_36 : decode cX2_suitsCup 36 = .ok (.getfield 21, 3) := by decide +kernel
theorem dX2_suitsCup_39 : decode cX2_suitsCup 39 = .ok (.invokevirtual 48, 3) := by decide +kernel
theorem dX2_suitsCup_42 : decode cX2_suitsCup 42 = .ok (.ifCond .eq 7, 3) := by decide +kernel
theorem dX2_suitsCup_45 : decode cX2_suitsCup 45 = .ok (.iconst 1, 1) := by decide +kernel
theorem dX2_suitsCup_46 : decode cX2_suitsCup 46 = .ok (.goto 4, 3) := by decide +kernel
theorem dX2_suitsCup_49 : decode cX2_suitsCup 49 = .ok (.iconst 0, 1) := by decide +kernel
theorem dX2_suitsCup_50 : decode cX2_suitsCup 50 = .ok (.istore 5, 2) := by decide +kernel
theorem dX2_suitsCup_52 : decode cX2_suitsCup 52 = .ok (.iload 5, 2) := by decide +kernel
theorem dX2_suitsCup_54 : decode cX2_suitsCup 54 = .ok (.ifCond .eq 18, 3) := by decide +kernel
theorem dX2_suitsCup_57 : decode cX2_suitsCup 57 = .ok (.iload 4, 2) := by decide +kernel
theorem dX2_suitsCup_59 : decode cX2_suitsCup 59 = .ok (.aload_n 1, 1) := by decide +kernel
theorem dX2_suitsCup_60 : decode cX2_suitsCup 60 = .ok (.getfield 66, 3) := by decide +kernel
theorem dX2_suitsCup_63 : decode cX2_suitsCup 63 = .ok (.iload_n 2, 1) := by decide +kernel
theorem dX2_suitsCup_64 : decode cX2_suitsCup 64 = .ok (.iaload, 1) := by decide +kernel
theorem dX2_suitsCup_65 : decode cX2_suitsCup 65 = .ok (.if_icmp .eq 7, 3) := by decide +kernel
theorem dX2_suitsCup_68 : decode cX2_suitsCup 68 = .ok (.iconst 1, 1) := by decide +kernel
theorem dX2_suitsCup_69 : decode cX2_suitsCup 69 = .ok (.goto 4, 3) := by decide +kernel
theorem dX2_suitsCup_72 : decode cX2_suitsCup 72 = .ok (.iconst 0, 1) := by decide +kernel
theorem dX2_suitsCup_73 : decode cX2_suitsCup 73 = .ok (.istore 6, 2) := by decide +kernel
theorem dX2_suitsCup_75 : decode cX2_suitsCup 75 = .ok (.aload_n 1, 1) := by decide +kernel
theorem dX2_suitsCup_76 : decode cX2_suitsCup 76 = .ok (.getfield 69, 3) := by decide +kernel
theorem dX2_suitsCup_79 : decode cX2_suitsCup 79 = .ok (.iload_n 2, 1) := by decide +kernel
theorem dX2_suitsCup_80 : decode cX2_suitsCup 80 = .ok (.iaload, 1) := by decide +kernel
theorem dX2_suitsCup_81 : decode cX2_suitsCup 81 = .ok (.tableswitch 86 1 5 #[35, 38, 55, 73, 84], 35) := by decide +kernel
theorem dX2_suitsCup_116 : decode cX2_suitsCup 116 = .ok (.iload 6, 2) := by decide +kernel
theorem dX2_suitsCup_118 : decode cX2_suitsCup 118 = .ok (.ireturn, 1) := by decide +kernel
theorem dX2_suitsCup_119 : decode cX2_suitsCup 119 = .ok (.iload 5, 2) := by decide +kernel
theorem dX2_suitsCup_121 : decode cX2_suitsCup 121 = .ok (.ifCond .ne 9, 3) := by decide +kernel
theorem dX2_suitsCup_124 : decode cX2_suitsCup 124 = .ok (.iload 4, 2) := by decide +kernel
theorem dX2_suitsCup_126 : decode cX2_suitsCup 126 = .ok (.iconst 3, 1) := by decide +kernel
theorem dX2_suitsCup_127 : decode cX2_suitsCup 127 = .ok (.if_icmp .ge 7, 3) := by decide +kernel
theorem dX2_suitsCup_130 : decode cX2_suitsCup 130 = .ok (.iconst 1, 1) := by decide +kernel
theorem dX2_suitsCup_131 : decode cX2_suitsCup 131 = .ok (.goto 4, 3) := by decide +kernel
theorem dX2_suitsCup_134 : decode cX2_suitsCup 134 = .ok (.iconst 0, 1) := by decide +kernel
theorem dX2_suitsCup_135 : decode cX2_suitsCup 135 = .ok (.ireturn, 1) := by decide +kernel
theorem dX2_suitsCup_136 : decode cX2_suitsCup 136 = .ok (.iload 6, 2) := by decide +kernel
theorem dX2_suitsCup_138 : decode cX2_suitsCup 138 = .ok (.ifCond .ne 10, 3) := by decide +kernel
theorem dX2_suitsCup_141 : decode cX2_suitsCup 141 = .ok (.iload 4, 2) := by decide +kernel
theorem dX2_suitsCup_143 : decode cX2_suitsCup 143 = .ok (.bipush 9, 2) := by decide +kernel
theorem dX2_suitsCup_145 : decode cX2_suitsCup 145 = .ok (.if_icmp .ne 7, 3) := by decide +kernel
theorem dX2_suitsCup_148 : decode cX2_suitsCup 148 = .ok (.iconst 1, 1) := by decide +kernel
theorem dX2_suitsCup_149 : decode cX2_suitsCup 149 = .ok (.goto 4, 3) := by decide +kernel
theorem dX2_suitsCup_152 : decode cX2_suitsCup 152 = .ok (.iconst 0, 1) := by decide +kernel
theorem dX2_suitsCup_153 : decode cX2_suitsCup 153 = .ok (.ireturn, 1) := by decide +kernel
theorem dX2_suitsCup_154 : decode cX2_suitsCup 154 = .ok (.iload_n 3, 1) := by decide +kernel
theorem dX2_suitsCup_155 : decode cX2_suitsCup 155 = .ok (.iconst 5, 1) := by decide +kernel
theorem dX2_suitsCup_156 : decode cX2_suitsCup 156 = .ok (.if_icmp .ne 7, 3) := by decide +kernel
theorem dX2_suitsCup_159 : decode cX2_suitsCup 159 = .ok (.iconst 1, 1) := by decide +kernel
theorem dX2_suitsCup_160 : decode cX2_suitsCup 160 = .ok (.goto 4, 3) := by decide +kernel
theorem dX2_suitsCup_163 : decode cX2_suitsCup 163 = .ok (.iconst 0, 1) := by decide +kernel
theorem dX2_suitsCup_164 : decode cX2_suitsCup 164 = .ok (.ireturn, 1) := by decide +kernel
theorem dX2_suitsCup_165 : decode cX2_suitsCup 165 = .ok (.iconst 1, 1) := by decide +kernel
theorem dX2_suitsCup_166 : decode cX2_suitsCup 166 = .ok (.ireturn, 1) := by decide +kernel
theorem dX2_suitsCup_167 : decode cX2_suitsCup 167 = .ok (.iload 5, 2) := by decide +kernel
theorem dX2_suitsCup_169 : decode cX2_suitsCup 169 = .ok (.ireturn, 1) := by decide +kernel
set_option maxRecDepth 20000 in
theorem ggX2_suitBits_X2_suitsCup : GoodIn wsX2_suitBits wsX2_suitsCup := goodIn_r _ [5, 6, 7, 8, 9, 10, 11, 12, 13, 14, 15, 16, 17, 18, 19, 20, 21, 4, 22, 23, 24, 25, 26, 27, 28, 29, 30, 31, 32, 33, 34, 35, 36, 37, 38, 39, 40, 41, 42, 43, 44, 45, 46, 47, 48, 49, 50, 51, 52, 53, 54, 55, 56, 57, 58, 59, 60, 61, 62, 63, 64, 65, 66, 67, 68, 69, 70, 71, 72] (by decide +kernel) (by decide +kernel)
set_option maxRecDepth 20000 in
theorem gX2_suitBits_X2_suitsCup : GoodIn wsX2_suitBits (wsV RX2 72 RX2 yX2_suitsCup wsX2_suitsCup) := goodIn_app (goodIn_of _ (by decide +kernel)) ggX2_suitBits_X2_suitsCup
theorem dX2_suitBits_0 : decode cX2_suitBits 0 = .ok (.iconst 0, 1) := by decide +kernel
theorem dX2_suitBits_1 : decode cX2_suitBits 1 = .ok (.istore_n 3, 1) := by decide +kernel
theorem dX2_suitBits_2 : decode cX2_suitBits 2 = .ok (.iconst 0, 1) := by decide +kernel
theorem dX2_suitBits_3 : decode cX2_suitBits 3 = .ok (.istore 4, 2) := by decide +kernel
theorem dX2_suitBits_5 : decode cX2_suitBits 5 = .ok (.iload 4, 2) := by decide +kernel
theorem dX2_suitBits_7 : decode cX2_suitBits 7 = .ok (.bipush 6, 2) := by decide +kernel
theorem dX2_suitBits_9 : decode cX2_suitBits 9 = .ok (.if_icmp .ge 27, 3) := by decide +kernel
theorem dX2_suitBits_12 : decode cX2_suitBits 12 = .ok (.aload_n 0, 1) := by decide +kernel
theorem dX2_suitBits_13 : decode cX2_suitBits 13 = .ok (.aload_n 1, 1) := by decide +kernel
theorem dX2_suitBits_14 : decode cX2_suitBits 14 = .ok (.iload_n 2, 1) := by decide +kernel
theorem dX2_suitBits_15 : decode cX2_suitBits 15 = .ok (.iload 4, 2) := by decide +kernel
theorem dX2_suitBits_17 : decode cX2_suitBits 17 = .ok (.invokevirtual 72, 3) := by decide +kernel
theorem dX2_suitBits_20 : decode cX2_suitBits 20 = .ok (.ifCond .eq 10, 3) := by decide +kernel
theorem dX2_suitBits_23 : decode cX2_suitBits 23 = .ok (.iload_n 3, 1) := by decide +kernel
theorem dX2_suitBits_24 : decode cX2_suitBits 24 = .ok (.iconst 1, 1) := by decide +kernel
theorem dX2_suitBits_25 : decode cX2_suitBits 25 = .ok (.iload 4, 2) := by decide +kernel
theorem dX2_suitBits_27 : decode cX2_suitBits 27 = .ok (.ishl, 1) := by decide +kernel
theorem dX2_suitBits_28 : decode cX2_suitBits 28 = .ok (.ior, 1) := by decide +kernel
theorem dX2_suitBits_29 : decode cX2_suitBits 29 = .ok (.istore_n 3, 1) := by decide +kernel
theorem dX2_suitBits_30 : decode cX2_suitBits 30 = .ok (.iinc 4 1, 3) := by decide +kernel
theorem dX2_suitBits_33 : decode cX2_suitBits 33 = .ok (.goto (-28), 3) := by decide +kernel
theorem dX2_suitBits_36 : decode cX2_suitBits 36 = .ok (.iload_n 3, 1) := by decide +kernel
theorem dX2_suitBits_37 : decode cX2_suitBits 37 = .ok (.ireturn, 1) := by decide +kernel
set_option maxRecDepth 20000 in
theorem ggX2_easeOf_X1_lodges : GoodIn wsX2_easeOf wsX1_lodges := goodIn_r _ [11, 12, 64, 65, 66, 67, 68, 69, 70, 71, 72, 73, 74] (by decide +kernel) (by decide +kernel)
set_option maxRecDepth 20000 in
theorem gX2_easeOf_X1_lodges : GoodIn wsX2_easeOf (wsV RX2 35 RX1 yX1_lodges wsX1_lodges) := goodIn_app (goodIn_of _ (by decide +kernel)) ggX2_easeOf_X1_lodges
set_option maxRecDepth 20000 in
theorem ggX2_easeOf_X2_ruling : GoodIn wsX2_easeOf wsX2_ruling := goodIn_r _ [17, 18, 19, 20, 21, 22, 16, 23, 24, 61, 62, 63, 64, 65, 66, 67, 68, 69, 70, 71, 72, 73, 74] (by decide +kernel) (by decide +kernel)
set_option maxRecDepth 20000 in
theorem gX2_easeOf_X2_ruling : GoodIn wsX2_easeOf (wsV RX2 44 RX2 yX2_ruling wsX2_ruling) := goodIn_app (goodIn_of _ (by decide +kernel)) ggX2_easeOf_X2_ruling
set_option maxRecDepth 20000 in
theorem ggX2_easeOf_X6_value : GoodIn wsX2_easeOf wsX6_value := goodIn_r _ [29, 30, 31, 32, 8, 9, 10, 11, 12, 33, 34, 35, 36, 37, 38, 28, 39, 40, 41, 42, 43, 44, 45, 46, 47, 48, 49, 50, 75, 76, 77, 64, 65, 66, 67, 68, 69, 70, 71, 72, 73, 74] (by decide +kernel) (by decide +kernel)
set_option maxRecDepth 20000 in
theorem gX2_easeOf_X6_value : GoodIn wsX2_easeOf (wsV RX2 48 RX6 yX6_value wsX6_value) := goodIn_app (goodIn_of _ (by decide +kernel)) ggX2_easeOf_X6_value
set_option maxRecDepth 20000 in
theorem ggX2_easeOf_X8_bounded : GoodIn wsX2_easeOf wsX8_bounded := goodIn_r _ [53, 54, 55, 56, 57, 58, 59, 60] (by decide +kernel) (by decide +kernel)
set_option maxRecDepth 20000 in
theorem gX2_easeOf_X8_bounded_n52 : GoodIn wsX2_easeOf (wsX8_bounded) := ggX2_easeOf_X8_bounded
theorem dX2_easeOf_0 : decode cX2_easeOf 0 = .ok (.aload_n 1, 1) := by decide +kernel
theorem dX2_easeOf_1 : decode cX2_easeOf 1 = .ok (.iload_n 2, 1) := by decide +kernel
theorem dX2_easeOf_2 : decode cX2_easeOf 2 = .ok (.invokevirtual 35, 3) := by decide +kernel
theorem dX2_easeOf_5 : decode cX2_easeOf 5 = .ok (.ifCond .ne 5, 3) := by decide +kernel
theorem dX2_easeOf_8 : decode cX2_easeOf 8 = .ok (.iconst 0, 1) := by decide +kernel
theorem dX2_easeOf_9 : decode cX2_easeOf 9 = .ok (.ireturn, 1) := by decide +kernel
theorem dX2_easeOf_10 : decode cX2_easeOf 10 = .ok (.aload_n 0, 1) := by decide +kernel
theorem dX2_easeOf_11 : decode cX2_easeOf 11 = .ok (.aload_n 1, 1) := by decide +kernel
theorem dX2_easeOf_12 : decode cX2_easeOf 12 = .ok (.invokevirtual 44, 3) := by decide +kernel
theorem dX2_easeOf_15 : decode cX2_easeOf 15 = .ok (.iconst 2, 1) := by decide +kernel
theorem dX2_easeOf_16 : decode cX2_easeOf 16 = .ok (.aload_n 1, 1) := by decide +kernel
theorem dX2_easeOf_17 : decode cX2_easeOf 17 = .ok (.iload_n 2, 1) := by decide +kernel
theorem dX2_easeOf_18 : decode cX2_easeOf 18 = .ok (.iconst 0, 1) := by decide +kernel
theorem dX2_easeOf_19 : decode cX2_easeOf 19 = .ok (.aload_n 0, 1) := by decide +kernel
theorem dX2_easeOf_20 : decode cX2_easeOf 20 = .ok (.getfield 21, 3) := by decide +kernel
theorem dX2_easeOf_23 : decode cX2_easeOf 23 = .ok (.invokevirtual 48, 3) := by decide +kernel
theorem dX2_easeOf_26 : decode cX2_easeOf 26 = .ok (.invokestatic 52, 3) := by decide +kernel
theorem dX2_easeOf_29 : decode cX2_easeOf 29 = .ok (.istore_n 3, 1) := by decide +kernel
theorem dX2_easeOf_30 : decode cX2_easeOf 30 = .ok (.aload_n 1, 1) := by decide +kernel
theorem dX2_easeOf_31 : decode cX2_easeOf 31 = .ok (.getfield 69, 3) := by decide +kernel
theorem dX2_easeOf_34 : decode cX2_easeOf 34 = .ok (.iload_n 2, 1) := by decide +kernel
theorem dX2_easeOf_35 : decode cX2_easeOf 35 = .ok (.iaload, 1) := by decide +kernel
theorem dX2_easeOf_36 : decode cX2_easeOf 36 = .ok (.tableswitch 88 1 5 #[36, 40, 42, 60, 68], 36) := by decide +kernel
theorem dX2_easeOf_72 : decode cX2_easeOf 72 = .ok (.iload_n 3, 1) := by decide +kernel
theorem dX2_easeOf_73 : decode cX2_easeOf 73 = .ok (.iconst 2, 1) := by decide +kernel
theorem dX2_easeOf_74 : decode cX2_easeOf 74 = .ok (.idiv, 1) := by decide +kernel
theorem dX2_easeOf_75 : decode cX2_easeOf 75 = .ok (.ireturn, 1) := by decide +kernel
theorem dX2_easeOf_76 : decode cX2_easeOf 76 = .ok (.iconst 0, 1) := by decide +kernel
theorem dX2_easeOf_77 : decode cX2_easeOf 77 = .ok (.ireturn, 1) := by decide +kernel
theorem dX2_easeOf_78 : decode cX2_easeOf 78 = .ok (.aload_n 1, 1) := by decide +kernel
theorem dX2_easeOf_79 : decode cX2_easeOf 79 = .ok (.getfield 76, 3) := by decide +kernel
theorem dX2_easeOf_82 : decode cX2_easeOf 82 = .ok (.bipush 7, 2) := by decide +kernel
theorem dX2_easeOf_84 : decode cX2_easeOf 84 = .ok (.irem, 1) := by decide +kernel
theorem dX2_easeOf_85 : decode cX2_easeOf 85 = .ok (.ifCond .ne 7, 3) := by decide +kernel
theorem dX2_easeOf_88 : decode cX2_easeOf 88 = .ok (.iconst (-1), 1) := by decide +kernel
theorem dX2_easeOf_89 : decode cX2_easeOf 89 = .ok (.goto 6, 3) := by decide +kernel
theorem dX2_easeOf_92 : decode cX2_easeOf 92 = .ok (.iload_n 3, 1) := by decide +kernel
theorem dX2_easeOf_93 : decode cX2_easeOf 93 = .ok (.iconst 2, 1) := by decide +kernel
theorem dX2_easeOf_94 : decode cX2_easeOf 94 = .ok (.idiv, 1) := by decide +kernel
theorem dX2_easeOf_95 : decode cX2_easeOf 95 = .ok (.ireturn, 1) := by decide +kernel
theorem dX2_easeOf_96 : decode cX2_easeOf 96 = .ok (.aload_n 1, 1) := by decide +kernel
theorem dX2_easeOf_97 : decode cX2_easeOf 97 = .ok (.getfield 66, 3) := by decide +kernel
theorem dX2_easeOf_100 : decode cX2_easeOf 100 = .ok (.iload_n 2, 1) := by decide +kernel
theorem dX2_easeOf_101 : decode cX2_easeOf 101 = .ok (.iaload, 1) := by decide +kernel
theorem dX2_easeOf_102 : decode cX2_easeOf 102 = .ok (.ineg, 1) := by decide +kernel
theorem dX2_easeOf_103 : decode cX2_easeOf 103 = .ok (.ireturn, 1) := by decide +kernel
theorem dX2_easeOf_104 : decode cX2_easeOf 104 = .ok (.aload_n 1, 1) := by decide +kernel
theorem dX2_easeOf_105 : decode cX2_easeOf 105 = .ok (.getfield 79, 3) := by decide +kernel
theorem dX2_easeOf_108 : decode cX2_easeOf 108 = .ok (.iload_n 2, 1) := by decide +kernel
theorem dX2_easeOf_109 : decode cX2_easeOf 109 = .ok (.iaload, 1) := by decide +kernel
theorem dX2_easeOf_110 : decode cX2_easeOf 110 = .ok (.ifCond .le 12, 3) := by decide +kernel
theorem dX2_easeOf_113 : decode cX2_easeOf 113 = .ok (.aload_n 1, 1) := by decide +kernel
theorem dX2_easeOf_114 : decode cX2_easeOf 114 = .ok (.getfield 41, 3) := by decide +kernel
theorem dX2_easeOf_117 : decode cX2_easeOf 117 = .ok (.iload_n 2, 1) := by decide +kernel
theorem dX2_easeOf_118 : decode cX2_easeOf 118 = .ok (.iaload, 1) := by decide +kernel
theorem dX2_easeOf_119 : decode cX2_easeOf 119 = .ok (.goto 4, 3) := by decide +kernel
theorem dX2_easeOf_122 : decode cX2_easeOf 122 = .ok (.iload_n 3, 1) := by decide +kernel
theorem dX2_easeOf_123 : decode cX2_easeOf 123 = .ok (.ireturn, 1) := by decide +kernel
theorem dX2_easeOf_124 : decode cX2_easeOf 124 = .ok (.iload_n 3, 1) := by decide +kernel
theorem dX2_easeOf_125 : decode cX2_easeOf 125 = .ok (.ireturn, 1) := by decide +kernel
set_option maxRecDepth 20000 in
theorem ggX2_easeOne_X1_lodges : GoodIn wsX2_easeOne wsX1_lodges := goodIn_r _ [6, 7, 65, 66, 67, 68, 69, 70, 71, 72, 73, 74, 75] (by decide +kernel) (by decide +kernel)
set_option maxRecDepth 20000 in
theorem gX2_easeOne_X1_lodges : GoodIn wsX2_easeOne (wsV RX2 35 RX1 yX1_lodges wsX1_lodges) := goodIn_app (goodIn_of _ (by decide +kernel)) ggX2_easeOne_X1_lodges
set_option maxRecDepth 20000 in
theorem ggX2_easeOne_X2_easeOf : GoodIn wsX2_easeOne wsX2_easeOf := goodIn_r _ [12, 13, 14, 15, 16, 17, 1, 2, 3, 4, 5, 6, 7, 18, 19, 20, 11, 21, 22, 23, 24, 25, 26, 27, 28, 29, 30, 31, 32, 33, 34, 35, 36, 37, 38, 39, 40, 41, 42, 43, 44, 45, 46, 47, 48, 49, 50, 51, 52, 53, 54, 55, 56, 57, 58, 59, 60, 61, 62, 63, 64, 76, 77, 78, 65, 66, 67, 68, 69, 70, 71, 72, 73, 74, 75, 79, 80, 81] (by decide +kernel) (by decide +kernel)
set_option maxRecDepth 20000 in
theorem gX2_easeOne_X2_easeOf : GoodIn wsX2_easeOne (wsV RX2 82 RX2 yX2_easeOf wsX2_easeOf) := goodIn_app (goodIn_of _ (by decide +kernel)) ggX2_easeOne_X2_easeOf
set_option maxRecDepth 20000 in
theorem ggX2_easeOne_X8_bounded : GoodIn wsX2_easeOne wsX8_bounded := goodIn_r _ [57, 58, 59, 60, 61, 62, 63, 64] (by decide +kernel) (by decide +kernel)
set_option maxRecDepth 20000 in
theorem gX2_easeOne_X8_bounded_n52 : GoodIn wsX2_easeOne (wsX8_bounded) := ggX2_easeOne_X8_bounded
theorem dX2_easeOne_0 : decode cX2_easeOne 0 = .ok (.aload_n 1, 1) := by decide +kernel
theorem dX2_easeOne_1 : decode cX2_easeOne 1 = .ok (.iload_n 2, 1) := by decide +kernel
theorem dX2_easeOne_2 : decode cX2_easeOne 2 = .ok (.invokevirtual 35, 3) := by decide +kernel
theorem dX2_easeOne_5 : decode cX2_easeOne 5 = .ok (.ifCond .eq 25, 3) := by decide +kernel
theorem dX2_easeOne_8 : decode cX2_easeOne 8 = .ok (.aload_n 1, 1) := by decide +kernel
theorem dX2_easeOne_9 : decode cX2_easeOne 9 = .ok (.getfield 41, 3) := by decide +kernel
theorem dX2_easeOne_12 : decode cX2_easeOne 12 = .ok (.iload_n 2, 1) := by decide +kernel
theorem dX2_easeOne_13 : decode cX2_easeOne 13 = .ok (.aload_n 1, 1) := by decide +kernel
theorem dX2_easeOne_14 : decode cX2_easeOne 14 = .ok (.getfield 41, 3) := by decide +kernel
theorem dX2_easeOne_17 : decode cX2_easeOne 17 = .ok (.iload_n 2, 1) := by decide +kernel
theorem dX2_easeOne_18 : decode cX2_easeOne 18 = .ok (.iaload, 1) := by decide +kernel
theorem dX2_easeOne_19 : decode cX2_easeOne 19 = .ok (.aload_n 0, 1) := by decide +kernel
theorem dX2_easeOne_20 : decode cX2_easeOne 20 = .ok (.aload_n 1, 1) := by decide +kernel
theorem dX2_easeOne_21 : decode cX2_easeOne 21 = .ok (.iload_n 2, 1) := by decide +kernel
theorem dX2_easeOne_22 : decode cX2_easeOne 22 = .ok (.invokevirtual 82, 3) := by decide +kernel
theorem dX2_easeOne_25 : decode cX2_easeOne 25 = .ok (.isub, 1) := by decide +kernel
theorem dX2_easeOne_26 : decode cX2_easeOne 26 = .ok (.invokestatic 52, 3) := by decide +kernel
theorem dX2_easeOne_29 : decode cX2_easeOne 29 = .ok (.iastore, 1) := by decide +kernel
theorem dX2_easeOne_30 : decode cX2_easeOne 30 = .ok (.return_, 1) := by decide +kernel
theorem dX2_yieldByKind_0 : decode cX2_yieldByKind 0 = .ok (.aload_n 1, 1) := by decide +kernel
theorem dX2_yieldByKind_1 : decode cX2_yieldByKind 1 = .ok (.getfield 76, 3) := by decide +kernel
theorem dX2_yieldByKind_4 : decode cX2_yieldByKind 4 = .ok (.iconst 2, 1) := by decide +kernel
theorem dX2_yieldByKind_5 : decode cX2_yieldByKind 5 = .ok (.irem, 1) := by decide +kernel
theorem dX2_yieldByKind_6 : decode cX2_yieldByKind 6 = .ok (.ifCond .ne 7, 3) := by decide +kernel
theorem dX2_yieldByKind_9 : decode cX2_yieldByKind 9 = .ok (.iload_n 3, 1) := by decide +kernel
theorem dX2_yieldByKind_10 : decode cX2_yieldByKind 10 = .ok (.goto 11, 3) := by decide +kernel
theorem dX2_yieldByKind_13 : decode cX2_yieldByKind 13 = .ok (.iload_n 3, 1) := by decide +kernel
theorem dX2_yieldByKind_14 : decode cX2_yieldByKind 14 = .ok (.aload_n 1, 1) := by decide +kernel
theorem dX2_yieldByKind_15 : decode cX2_yieldByKind 15 = .ok (.getfield 66, 3) := by decide +kernel
theorem dX2_yieldByKind_18 : decode cX2_yieldByKind 18 = .ok (.iload_n 2, 1) := by decide +kernel
theorem dX2_yieldByKind_19 : decode cX2_yieldByKind 19 = .ok (.iaload, 1) := by decide +kernel
theorem dX2_yieldByKind_20 : decode cX2_yieldByKind 20 = .ok (.iadd, 1) := by decide +kernel
theorem dX2_yieldByKind_21 : decode cX2_yieldByKind 21 = .ok (.istore 4, 2) := by decide +kernel
theorem dX2_yieldByKind_23 : decode cX2_yieldByKind 23 = .ok (.aload_n 1, 1) := by decide +kernel
theorem dX2_yieldByKind_24 : decode cX2_yieldByKind 24 = .ok (.getfield 69, 3) := by decide +kernel
theorem dX2_yieldByKind_27 : decode cX2_yieldByKind 27 = .ok (.iload_n 2, 1) := by decide +kernel
theorem dX2_yieldByKind_28 : decode cX2_yieldByKind 28 = .ok (.iaload, 1) := by decide +kernel
theorem dX2_yieldByKind_29 : decode cX2_yieldByKind 29 = .ok (.tableswitch 82 1 5 #[35, 38, 42, 50, 67], 35) := by decide +kernel
theorem dX2_yieldByKind_64 : decode cX2_yieldByKind 64 = .ok (.iload 4, 2) := by decide +kernel
theorem dX2_yieldByKind_66 : decode cX2_yieldByKind 66 = .ok (.ireturn, 1) := by decide +kernel
theorem dX2_yieldByKind_67 : decode cX2_yieldByKind 67 = .ok (.iconst 2, 1) := by decide +kernel
theorem dX2_yieldByKind_68 : decode cX2_yieldByKind 68 = .ok (.iload_n 3, 1) := by decide +kernel
theorem dX2_yieldByKind_69 : decode cX2_yieldByKind 69 = .ok (.imul, 1) := by decide +kernel
theorem dX2_yieldByKind_70 : decode cX2_yieldByKind 70 = .ok (.ireturn, 1) := by decide +kernel
theorem dX2_yieldByKind_71 : decode cX2_yieldByKind 71 = .ok (.bipush 20, 2) := by decide +kernel
theorem dX2_yieldByKind_73 : decode cX2_yieldByKind 73 = .ok (.iload 4, 2) := by decide +kernel
theorem dX2_yieldByKind_75 : decode cX2_yieldByKind 75 = .ok (.invokestatic 29, 3) := by decide +kernel
theorem dX2_yieldByKind_78 : decode cX2_yieldByKind 78 = .ok (.ireturn, 1) := by decide +kernel
theorem dX2_yieldByKind_79 : decode cX2_yieldByKind 79 = .ok (.aload_n 1, 1) := by decide +kernel
theorem dX2_yieldByKind_80 : decode cX2_yieldByKind 80 = .ok (.getfield 86, 3) := by decide +kernel
theorem dX2_yieldByKind_83 : decode cX2_yieldByKind 83 = .ok (.bipush 11, 2) := by decide +kernel
theorem dX2_yieldByKind_85 : decode cX2_yieldByKind 85 = .ok (.if_icmp .ge 7, 3) := by decide +kernel
theorem dX2_yieldByKind_88 : decode cX2_yieldByKind 88 = .ok (.iconst 0, 1) := by decide +kernel
theorem dX2_yieldByKind_89 : decode cX2_yieldByKind 89 = .ok (.goto 6, 3) := by decide +kernel
theorem dX2_yieldByKind_92 : decode cX2_yieldByKind 92 = .ok (.iconst 2, 1) := by decide +kernel
theorem dX2_yieldByKind_93 : decode cX2_yieldByKind 93 = .ok (.iload_n 3, 1) := by decide +kernel
theorem dX2_yieldByKind_94 : decode cX2_yieldByKind 94 = .ok (.imul, 1) := by decide +kernel
theorem dX2_yieldByKind_95 : decode cX2_yieldByKind 95 = .ok (.ireturn, 1) := by decide +kernel
theorem dX2_yieldByKind_96 : decode cX2_yieldByKind 96 = .ok (.aload_n 1, 1) := by decide +kernel
theorem dX2_yieldByKind_97 : decode cX2_yieldByKind 97 = .ok (.getfield 79, 3) := by decide +kernel
theorem dX2_yieldByKind_100 : decode cX2_yieldByKind 100 = .ok (.iload_n 2, 1) := by decide +kernel
theorem dX2_yieldByKind_101 : decode cX2_yieldByKind 101 = .ok (.iaload, 1) := by decide +kernel
theorem dX2_yieldByKind_102 : decode cX2_yieldByKind 102 = .ok (.ifCond .le 7, 3) := by decide +kernel
theorem dX2_yieldByKind_105 : decode cX2_yieldByKind 105 = .ok (.iconst 0, 1) := by decide +kernel
theorem dX2_yieldByKind_106 : decode cX2_yieldByKind 106 = .ok (.goto 4, 3) := by decide +kernel
theorem dX2_yieldByKind_109 : decode cX2_yieldByKind 109 = .ok (.iload_n 3, 1) := by decide +kernel
theorem dX2_yieldByKind_110 : decode cX2_yieldByKind 110 = .ok (.ireturn, 1) := by decide +kernel
theorem dX2_yieldByKind_111 : decode cX2_yieldByKind 111 = .ok (.iload_n 3, 1) := by decide +kernel
theorem dX2_yieldByKind_112 : decode cX2_yieldByKind 112 = .ok (.ireturn, 1) := by decide +kernel
set_option maxRecDepth 20000 in
theorem ggX2_ruling_X2_hasText : GoodIn wsX2_ruling wsX2_hasText := goodIn_r _ [7, 8, 9, 10, 11] (by decide +kernel) (by decide +kernel)
set_option maxRecDepth 20000 in
theorem gX2_ruling_X2_hasText : GoodIn wsX2_ruling (wsV RX2 92 RX2 yX2_hasText wsX2_hasText) := goodIn_app (goodIn_of _ (by decide +kernel)) ggX2_ruling_X2_hasText
