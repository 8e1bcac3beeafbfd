theorem dX8_run_121 : decode cX8_run 121 = .ok (.getfield 141, 3) := by decide +kernel
theorem dX8_run_124 : decode cX8_run 124 = .ok (.iload_n 2, 1) := by decide +kernel
theorem dX8_run_125 : decode cX8_run 125 = .ok (.iaload, 1) := by decide +kernel
theorem dX8_run_126 : decode cX8_run 126 = .ok (.ireturn, 1) := by decide +kernel
set_option maxRecDepth 20000 in
theorem ggX8_sleeps_X1_lodges : GoodIn wsX8_sleeps wsX1_lodges := goodIn_r _ [10, 11, 102, 103, 104, 105, 106, 107, 108, 109, 110, 111, 112] (by decide +kernel) (by decide +kernel)
set_option maxRecDepth 20000 in
theorem gX8_sleeps_X1_lodges : GoodIn wsX8_sleeps (wsV RX8 77 RX1 yX1_lodges wsX1_lodges) := goodIn_app (goodIn_of _ (by decide +kernel)) ggX8_sleeps_X1_lodges
set_option maxRecDepth 20000 in
theorem ggX8_sleeps_X1_takeFrom : GoodIn wsX8_sleeps wsX1_takeFrom := goodIn_r _ [15, 16, 17, 18, 11, 19, 20, 21, 22, 23, 24, 25, 26, 27, 28, 29, 102, 103, 104, 105, 106, 107, 108, 109, 110, 111, 112] (by decide +kernel) (by decide +kernel)
set_option maxRecDepth 20000 in
theorem gX8_sleeps_X1_takeFrom : GoodIn wsX8_sleeps (wsV RX8 137 RX1 yX1_takeFrom wsX1_takeFrom) := goodIn_app (goodIn_of _ (by decide +kernel)) ggX8_sleeps_X1_takeFrom
set_option maxRecDepth 20000 in
theorem ggX8_sleeps_X2_easeOne : GoodIn wsX8_sleeps wsX2_easeOne := goodIn_r _ [34, 35, 36, 7, 8, 9, 10, 11, 37, 38, 39, 33, 40, 41, 42, 43, 44, 45, 46, 47, 48, 49, 50, 51, 52, 53, 54, 55, 56, 57, 58, 59, 60, 61, 62, 63, 64, 65, 66, 67, 68, 69, 70, 71, 72, 73, 74, 75, 76, 77, 78, 79, 80, 81, 82, 83, 84, 85, 86, 87, 88, 89, 90, 91, 92, 102, 103, 104, 105, 106, 107, 108, 109, 110, 111, 112, 113, 114, 115, 116, 117, 118] (by decide +kernel) (by decide +kernel)
set_option maxRecDepth 20000 in
theorem gX8_sleeps_X2_easeOne : GoodIn wsX8_sleeps (wsV RX8 144 RX2 yX2_easeOne wsX2_easeOne) := goodIn_app (goodIn_of _ (by decide +kernel)) ggX8_sleeps_X2_easeOne
theorem dX8_sleeps_0 : decode cX8_sleeps 0 = .ok (.aload_n 0, 1) := by decide +kernel
theorem dX8_sleeps_1 : decode cX8_sleeps 1 = .ok (.getfield 10, 3) := by decide +kernel
theorem dX8_sleeps_4 : decode cX8_sleeps 4 = .ok (.iload_n 1, 1) := by decide +kernel
theorem dX8_sleeps_5 : decode cX8_sleeps 5 = .ok (.invokevirtual 77, 3) := by decide +kernel
theorem dX8_sleeps_8 : decode cX8_sleeps 8 = .ok (.ifCond .ne 6, 3) := by decide +kernel
theorem dX8_sleeps_11 : decode cX8_sleeps 11 = .ok (.bipush (-2), 2) := by decide +kernel
theorem dX8_sleeps_13 : decode cX8_sleeps 13 = .ok (.ireturn, 1) := by decide +kernel
theorem dX8_sleeps_14 : decode cX8_sleeps 14 = .ok (.aload_n 0, 1) := by decide +kernel
theorem dX8_sleeps_15 : decode cX8_sleeps 15 = .ok (.getfield 16, 3) := by decide +kernel
theorem dX8_sleeps_18 : decode cX8_sleeps 18 = .ok (.aload_n 0, 1) := by decide +kernel
theorem dX8_sleeps_19 : decode cX8_sleeps 19 = .ok (.getfield 10, 3) := by decide +kernel
theorem dX8_sleeps_22 : decode cX8_sleeps 22 = .ok (.invokevirtual 137, 3) := by decide +kernel
theorem dX8_sleeps_25 : decode cX8_sleeps 25 = .ok (.iconst 0, 1) := by decide +kernel
theorem dX8_sleeps_26 : decode cX8_sleeps 26 = .ok (.istore_n 2, 1) := by decide +kernel
theorem dX8_sleeps_27 : decode cX8_sleeps 27 = .ok (.iload_n 2, 1) := by decide +kernel
theorem dX8_sleeps_28 : decode cX8_sleeps 28 = .ok (.bipush 60, 2) := by decide +kernel
theorem dX8_sleeps_30 : decode cX8_sleeps 30 = .ok (.if_icmp .gt 48, 3) := by decide +kernel
theorem dX8_sleeps_33 : decode cX8_sleeps 33 = .ok (.aload_n 0, 1) := by decide +kernel
theorem dX8_sleeps_34 : decode cX8_sleeps 34 = .ok (.getfield 16, 3) := by decide +kernel
theorem dX8_sleeps_37 : decode cX8_sleeps 37 = .ok (.getfield 126, 3) := by decide +kernel
theorem dX8_sleeps_40 : decode cX8_sleeps 40 = .ok (.iload_n 1, 1) := by decide +kernel
theorem dX8_sleeps_41 : decode cX8_sleeps 41 = .ok (.iaload, 1) := by decide +kernel
theorem dX8_sleeps_42 : decode cX8_sleeps 42 = .ok (.ifCond .ne 5, 3) := by decide +kernel
theorem dX8_sleeps_45 : decode cX8_sleeps 45 = .ok (.iload_n 2, 1) := by decide +kernel
theorem dX8_sleeps_46 : decode cX8_sleeps 46 = .ok (.ireturn, 1) := by decide +kernel
theorem dX8_sleeps_47 : decode cX8_sleeps 47 = .ok (.aload_n 0, 1) := by decide +kernel
theorem dX8_sleeps_48 : decode cX8_sleeps 48 = .ok (.getfield 32, 3) := by decide +kernel
theorem dX8_sleeps_51 : decode cX8_sleeps 51 = .ok (.aload_n 0, 1) := by decide +kernel
theorem dX8_sleeps_52 : decode cX8_sleeps 52 = .ok (.getfield 16, 3) := by decide +kernel
theorem dX8_sleeps_55 : decode cX8_sleeps 55 = .ok (.iload_n 1, 1) := by decide +kernel
theorem dX8_sleeps_56 : decode cX8_sleeps 56 = .ok (.invokevirtual 144, 3) := by decide +kernel
theorem dX8_sleeps_59 : decode cX8_sleeps 59 = .ok (.aload_n 0, 1) := by decide +kernel
theorem dX8_sleeps_60 : decode cX8_sleeps 60 = .ok (.getfield 16, 3) := by decide +kernel
theorem dX8_sleeps_63 : decode cX8_sleeps 63 = .ok (.dup, 1) := by decide +kernel
theorem dX8_sleeps_64 : decode cX8_sleeps 64 = .ok (.getfield 119, 3) := by decide +kernel
theorem dX8_sleeps_67 : decode cX8_sleeps 67 = .ok (.iconst 1, 1) := by decide +kernel
theorem dX8_sleeps_68 : decode cX8_sleeps 68 = .ok (.iadd, 1) := by decide +kernel
theorem dX8_sleeps_69 : decode cX8_sleeps 69 = .ok (.putfield 119, 3) := by decide +kernel
theorem dX8_sleeps_72 : decode cX8_sleeps 72 = .ok (.iinc 2 1, 3) := by decide +kernel
theorem dX8_sleeps_75 : decode cX8_sleeps 75 = .ok (.goto (-48), 3) := by decide +kernel
theorem dX8_sleeps_78 : decode cX8_sleeps 78 = .ok (.iconst (-1), 1) := by decide +kernel
theorem dX8_sleeps_79 : decode cX8_sleeps 79 = .ok (.ireturn, 1) := by decide +kernel
set_option maxRecDepth 20000 in
theorem ggX8_pour_X1_takeFrom : GoodIn wsX8_pour wsX1_takeFrom := goodIn_r _ [10, 11, 12, 13, 14, 15, 16, 17, 18, 19, 20, 21, 22, 23, 24, 25, 164, 165, 166, 167, 168, 169, 170, 171, 172, 173, 174] (by decide +kernel) (by decide +kernel)
set_option maxRecDepth 20000 in
theorem gX8_pour_X1_takeFrom : GoodIn wsX8_pour (wsV RX8 137 RX1 yX1_takeFrom wsX1_takeFrom) := goodIn_app (goodIn_of _ (by decide +kernel)) ggX8_pour_X1_takeFrom
set_option maxRecDepth 20000 in
theorem ggX8_pour_X0_measure : GoodIn wsX8_pour wsX0_measure := goodIn_r _ [30, 31, 32, 33, 34, 35, 36, 37, 38, 39, 40, 41, 17, 18, 19, 42, 43, 44, 45, 46, 47, 48, 49, 50, 51, 9, 52, 14, 53, 54, 55, 56, 57, 58, 59, 60, 61, 62, 63, 64, 65, 66, 67, 68, 69, 70, 71, 72, 73, 74, 75, 76, 77, 78, 79, 80, 81, 82, 83, 84, 85, 86, 87, 88, 89, 90, 91, 92, 93, 94, 95, 96, 97, 98, 99, 100, 101, 102, 103, 104, 105, 106, 107, 108, 109, 110, 111, 112, 113, 114, 115, 116, 117, 164, 165, 166, 167, 168, 169, 170, 171, 172, 173, 174, 175, 176, 177, 178, 179, 180, 181, 182, 183, 184] (by decide +kernel) (by decide +kernel)
set_option maxRecDepth 20000 in
theorem gX8_pour_X0_measure : GoodIn wsX8_pour (wsV RX8 148 RX0 yX0_measure wsX0_measure) := goodIn_app (goodIn_of _ (by decide +kernel)) ggX8_pour_X0_measure
set_option maxRecDepth 20000 in
theorem ggX8_pour_X0_most : GoodIn wsX8_pour wsX0_most := goodIn_r _ [121, 36, 32, 33, 34, 35, 122, 123, 124, 29, 125, 37, 38, 40, 175, 176, 177, 178] (by decide +kernel) (by decide +kernel)
set_option maxRecDepth 20000 in
theorem gX8_pour_X0_most : GoodIn wsX8_pour (wsV RX8 152 RX0 yX0_most wsX0_most) := goodIn_app (goodIn_of _ (by decide +kernel)) ggX8_pour_X0_most
set_option maxRecDepth 20000 in
theorem ggX8_pour_X0_leastCut : GoodIn wsX8_pour wsX0_leastCut := goodIn_r _ [129, 36, 130, 119, 120, 29, 121, 32, 33, 34, 35, 122, 123, 124, 125, 37, 38, 40, 175, 176, 177, 178] (by decide +kernel) (by decide +kernel)
set_option maxRecDepth 20000 in
theorem gX8_pour_X0_leastCut : GoodIn wsX8_pour (wsV RX8 155 RX0 yX0_leastCut wsX0_leastCut) := goodIn_app (goodIn_of _ (by decide +kernel)) ggX8_pour_X0_leastCut
set_option maxRecDepth 20000 in
theorem ggX8_pour_X3_pourAll : GoodIn wsX8_pour wsX3_pourAll := goodIn_r _ [135, 136, 137, 138, 139, 140, 134, 141, 142, 143, 33, 34, 35, 144, 145, 43, 44, 45, 46, 47, 48, 49, 50, 51, 9, 52, 14, 53, 54, 55, 56, 57, 58, 59, 60, 61, 62, 63, 64, 65, 66, 67, 68, 69, 70, 71, 72, 73, 74, 75, 76, 77, 78, 79, 80, 81, 82, 83, 84, 85, 86, 87, 88, 89, 90, 91, 92, 93, 94, 95, 96, 97, 98, 99, 100, 101, 102, 103, 104, 105, 106, 146, 112, 113, 114, 115, 116, 117, 164, 165, 166, 167, 168, 169, 170, 171, 172, 173, 174, 185, 179, 180, 181, 182, 183, 184] (by decide +kernel) (by decide +kernel)
set_option maxRecDepth 20000 in
theorem gX8_pour_X3_pourAll : GoodIn wsX8_pour (wsV RX8 158 RX3 yX3_pourAll wsX3_pourAll) := goodIn_app (goodIn_of _ (by decide +kernel)) ggX8_pour_X3_pourAll
set_option maxRecDepth 20000 in
theorem ggX8_pour_X1_fullCups : GoodIn wsX8_pour wsX1_fullCups := goodIn_r _ [150, 25, 23, 164, 165, 166, 167, 168, 169, 170, 171, 172, 173, 174] (by decide +kernel) (by decide +kernel)
set_option maxRecDepth 20000 in
theorem gX8_pour_X1_fullCups : GoodIn wsX8_pour (wsV RX8 161 RX1 yX1_fullCups wsX1_fullCups) := goodIn_app (goodIn_of _ (by decide +kernel)) ggX8_pour_X1_fullCups
set_option maxRecDepth 20000 in
theorem ggX8_pour_X0_starved : GoodIn wsX8_pour wsX0_starved := goodIn_r _ [154, 36, 37, 38, 175, 176, 177, 178] (by decide +kernel) (by decide +kernel)
set_option maxRecDepth 20000 in
theorem gX8_pour_X0_starved : GoodIn wsX8_pour (wsV RX8 164 RX0 yX0_starved wsX0_starved) := goodIn_app (goodIn_of _ (by decide +kernel)) ggX8_pour_X0_starved
theorem dX8_pour_0 : decode cX8_pour 0 = .ok (.aload_n 0, 1) := by decide +kernel
theorem dX8_pour_1 : decode cX8_pour 1 = .ok (.getfield 16, 3) := by decide +kernel
theorem dX8_pour_4 : decode cX8_pour 4 = .ok (.aload_n 0, 1) := by decide +kernel
theorem dX8_pour_5 : decode cX8_pour 5 = .ok (.getfield 10, 3) := by decide +kernel
theorem dX8_pour_8 : decode cX8_pour 8 = .ok (.invokevirtual 137, 3) := by decide +kernel
theorem dX8_pour_11 : decode cX8_pour 11 = .ok (.aload_n 0, 1) := by decide +kernel
theorem dX8_pour_12 : decode cX8_pour 12 = .ok (.getfield 46, 3) := by decide +kernel
theorem dX8_pour_15 : decode cX8_pour 15 = .ok (.aload_n 0, 1) := by decide +kernel
theorem dX8_pour_16 : decode cX8_pour 16 = .ok (.getfield 32, 3) := by decide +kernel
theorem dX8_pour_19 : decode cX8_pour 19 = .ok (.aload_n 0, 1) := by decide +kernel
theorem dX8_pour_20 : decode cX8_pour 20 = .ok (.getfield 10, 3) := by decide +kernel
theorem dX8_pour_23 : decode cX8_pour 23 = .ok (.invokevirtual 148, 3) := by decide +kernel
theorem dX8_pour_26 : decode cX8_pour 26 = .ok (.iload_n 1, 1) := by decide +kernel
theorem dX8_pour_27 : decode cX8_pour 27 = .ok (.tableswitch 125 0 5 #[37, 45, 53, 77, 93, 117], 37) := by decide +kernel
theorem dX8_pour_64 : decode cX8_pour 64 = .ok (.aload_n 0, 1) := by decide +kernel
theorem dX8_pour_65 : decode cX8_pour 65 = .ok (.getfield 46, 3) := by decide +kernel
theorem dX8_pour_68 : decode cX8_pour 68 = .ok (.invokevirtual 152, 3) := by decide +kernel
theorem dX8_pour_71 : decode cX8_pour 71 = .ok (.ireturn, 1) := by decide +kernel
theorem dX8_pour_72 : decode cX8_pour 72 = .ok (.aload_n 0, 1) := by decide +kernel
theorem dX8_pour_73 : decode cX8_pour 73 = .ok (.getfield 46, 3) := by decide +kernel
theorem dX8_pour_76 : decode cX8_pour 76 = .ok (.invokevirtual 155, 3) := by decide +kernel
theorem dX8_pour_79 : decode cX8_pour 79 = .ok (.ireturn, 1) := by decide +kernel
theorem dX8_pour_80 : decode cX8_pour 80 = .ok (.aload_n 0, 1) := by decide +kernel
theorem dX8_pour_81 : decode cX8_pour 81 = .ok (.getfield 46, 3) := by decide +kernel
theorem dX8_pour_84 : decode cX8_pour 84 = .ok (.invokevirtual 152, 3) := by decide +kernel
theorem dX8_pour_87 : decode cX8_pour 87 = .ok (.aload_n 0, 1) := by decide +kernel
theorem dX8_pour_88 : decode cX8_pour 88 = .ok (.getfield 39, 3) := by decide +kernel
theorem dX8_pour_91 : decode cX8_pour 91 = .ok (.aload_n 0, 1) := by decide +kernel
theorem dX8_pour_92 : decode cX8_pour 92 = .ok (.getfield 32, 3) := by decide +kernel
theorem dX8_pour_95 : decode cX8_pour 95 = .ok (.aload_n 0, 1) := by decide +kernel
theorem dX8_pour_96 : decode cX8_pour 96 = .ok (.getfield 16, 3) := by decide +kernel
theorem dX8_pour_99 : decode cX8_pour 99 = .ok (.invokevirtual 158, 3) := by decide +kernel
theorem dX8_pour_102 : decode cX8_pour 102 = .ok (.isub, 1) := by decide +kernel
theorem dX8_pour_103 : decode cX8_pour 103 = .ok (.ireturn, 1) := by decide +kernel
theorem dX8_pour_104 : decode cX8_pour 104 = .ok (.aload_n 0, 1) := by decide +kernel
theorem dX8_pour_105 : decode cX8_pour 105 = .ok (.getfield 39, 3) := by decide +kernel
theorem dX8_pour_108 : decode cX8_pour 108 = .ok (.aload_n 0, 1) := by decide +kernel
theorem dX8_pour_109 : decode cX8_pour 109 = .ok (.getfield 32, 3) := by decide +kernel
theorem dX8_pour_112 : decode cX8_pour 112 = .ok (.aload_n 0, 1) := by decide +kernel
theorem dX8_pour_113 : decode cX8_pour 113 = .ok (.getfield 16, 3) := by decide +kernel
theorem dX8_pour_116 : decode cX8_pour 116 = .ok (.invokevirtual 158, 3) := by decide +kernel
theorem dX8_pour_119 : decode cX8_pour 119 = .ok (.ireturn, 1) := by decide +kernel
theorem dX8_pour_120 : decode cX8_pour 120 = .ok (.aload_n 0, 1) := by decide +kernel
theorem dX8_pour_121 : decode cX8_pour 121 = .ok (.getfield 39, 3) := by decide +kernel
theorem dX8_pour_124 : decode cX8_pour 124 = .ok (.aload_n 0, 1) := by decide +kernel
theorem dX8_pour_125 : decode cX8_pour 125 = .ok (.getfield 32, 3) := by decide +kernel
theorem dX8_pour_128 : decode cX8_pour 128 = .ok (.aload_n 0, 1) := by decide +kernel
theorem dX8_pour_129 : decode cX8_pour 129 = .ok (.getfield 16, 3) := by decide +kernel
theorem dX8_pour_132 : decode cX8_pour 132 = .ok (.invokevirtual 158, 3) := by decide +kernel
theorem dX8_pour_135 : decode cX8_pour 135 = .ok (.pop, 1) := by decide +kernel
theorem dX8_pour_136 : decode cX8_pour 136 = .ok (.aload_n 0, 1) := by decide +kernel
theorem dX8_pour_137 : decode cX8_pour 137 = .ok (.getfield 16, 3) := by decide +kernel
theorem dX8_pour_140 : decode cX8_pour 140 = .ok (.invokevirtual 161, 3) := by decide +kernel
theorem dX8_pour_143 : decode cX8_pour 143 = .ok (.ireturn, 1) := by decide +kernel
theorem dX8_pour_144 : decode cX8_pour 144 = .ok (.aload_n 0, 1) := by decide +kernel
theorem dX8_pour_145 : decode cX8_pour 145 = .ok (.getfield 46, 3) := by decide +kernel
theorem dX8_pour_148 : decode cX8_pour 148 = .ok (.invokevirtual 164, 3) := by decide +kernel
theorem dX8_pour_151 : decode cX8_pour 151 = .ok (.ireturn, 1) := by decide +kernel
theorem dX8_pour_152 : decode cX8_pour 152 = .ok (.bipush (-2), 2) := by decide +kernel
theorem dX8_pour_154 : decode cX8_pour 154 = .ok (.ireturn, 1) := by decide +kernel
set_option maxRecDepth 20000 in
theorem ggX8_best_X0_measure : GoodIn wsX8_best wsX0_measure := goodIn_r _ [8, 9, 10, 11, 12, 13, 14, 15, 16, 17, 18, 19, 20, 21, 22, 23, 24, 25, 26, 27, 28, 29, 30, 31, 32, 33, 34, 35, 36, 37, 38, 39, 40, 41, 42, 43, 44, 45, 46, 47, 48, 49, 50, 51, 52, 53, 54, 55, 56, 57, 58, 59, 60, 61, 62, 63, 64, 65, 66, 67, 68, 69, 70, 71, 72, 73, 74, 75, 76, 77, 78, 79, 80, 81, 82, 83, 84, 85, 86, 87, 88, 89, 90, 91, 92, 93, 94, 95, 96, 97, 98, 99, 100, 145, 146, 147, 148, 149, 150, 151, 152, 153, 154, 155, 156, 157, 158, 159, 160, 161, 162, 163, 164, 165] (by decide +kernel) (by decide +kernel)
set_option maxRecDepth 20000 in
theorem gX8_best_X0_measure : GoodIn wsX8_best (wsV RX8 148 RX0 yX0_measure wsX0_measure) := goodIn_app (goodIn_of _ (by decide +kernel)) ggX8_best_X0_measure
set_option maxRecDepth 20000 in
theorem ggX8_best_X0_leastLost : GoodIn wsX8_best wsX0_leastLost := goodIn_r _ [104, 14, 105, 106, 107, 7, 108, 15, 109, 110, 111, 112, 10, 11, 12, 13, 113, 114, 115, 116, 16, 18, 156, 157, 158, 159] (by decide +kernel) (by decide +kernel)
set_option maxRecDepth 20000 in
theorem gX8_best_X0_leastLost : GoodIn wsX8_best (wsV RX8 167 RX0 yX0_leastLost wsX0_leastLost) := goodIn_app (goodIn_of _ (by decide +kernel)) ggX8_best_X0_leastLost
set_option maxRecDepth 20000 in
theorem ggX8_best_X0_mostWithoutOne : GoodIn wsX8_best wsX0_mostWithoutOne := goodIn_r _ [108, 14, 15, 109, 110, 111, 7, 112, 10, 11, 12, 13, 113, 114, 115, 116, 16, 18, 156, 157, 158, 159] (by decide +kernel) (by decide +kernel)
set_option maxRecDepth 20000 in
theorem gX8_best_X0_mostWithoutOne : GoodIn wsX8_best (wsV RX8 170 RX0 yX0_mostWithoutOne wsX0_mostWithoutOne) := goodIn_app (goodIn_of _ (by decide +kernel)) ggX8_best_X0_mostWithoutOne
set_option maxRecDepth 20000 in
theorem ggX8_best_X0_emptiest : GoodIn wsX8_best wsX0_emptiest := goodIn_r _ [121, 122, 123, 124, 7, 125, 18, 99, 74, 100, 109, 110, 111, 112, 14, 10, 11, 12, 13, 113, 114, 115, 116, 15, 16, 156, 157, 158, 159] (by decide +kernel) (by decide +kernel)
set_option maxRecDepth 20000 in
theorem gX8_best_X0_emptiest : GoodIn wsX8_best (wsV RX8 173 RX0 yX0_emptiest wsX0_emptiest) := goodIn_app (goodIn_of _ (by decide +kernel)) ggX8_best_X0_emptiest
set_option maxRecDepth 20000 in
theorem ggX8_best_X0_mostWithWant : GoodIn wsX8_best wsX0_mostWithWant := goodIn_r _ [125, 18, 99, 74, 100, 109, 110, 111, 7, 112, 14, 10, 11, 12, 13, 113, 114, 115, 116, 15, 16, 156, 157, 158, 159] (by decide +kernel) (by decide +kernel)
set_option maxRecDepth 20000 in
theorem gX8_best_X0_mostWithWant : GoodIn wsX8_best (wsV RX8 176 RX0 yX0_mostWithWant wsX0_mostWithWant) := goodIn_app (goodIn_of _ (by decide +kernel)) ggX8_best_X0_mostWithWant
set_option maxRecDepth 20000 in
theorem ggX8_best_X0_dearest : GoodIn wsX8_best wsX0_dearest := goodIn_r _ [130, 131, 132, 133, 7, 134, 18, 99, 74, 100, 73, 75, 76, 11, 12, 13, 77, 78, 79, 122, 123, 124, 125, 109, 110, 111, 112, 14, 10, 113, 114, 115, 116, 15, 16, 156, 157, 158, 159] (by decide +kernel) (by decide +kernel)
set_option maxRecDepth 20000 in
theorem gX8_best_X0_dearest : GoodIn wsX8_best (wsV RX8 179 RX0 yX0_dearest wsX0_dearest) := goodIn_app (goodIn_of _ (by decide +kernel)) ggX8_best_X0_dearest
set_option maxRecDepth 20000 in
theorem ggX8_best_X0_mostWithOneMore : GoodIn wsX8_best wsX0_mostWithOneMore := goodIn_r _ [134, 18, 99, 74, 100, 73, 75, 76, 11, 12, 13, 77, 78, 79, 122, 123, 124, 7, 125, 109, 110, 111, 112, 14, 10, 113, 114, 115, 116, 15, 16, 156, 157, 158, 159] (by decide +kernel) (by decide +kernel)
set_option maxRecDepth 20000 in
theorem gX8_best_X0_mostWithOneMore : GoodIn wsX8_best (wsV RX8 182 RX0 yX0_mostWithOneMore wsX0_mostWithOneMore) := goodIn_app (goodIn_of _ (by decide +kernel)) ggX8_best_X0_mostWithOneMore
theorem dX8_best_0 : decode cX8_best 0 = .ok (.aload_n 0, 1) := by decide +kernel
theorem dX8_best_1 : decode cX8_best 1 = .ok (.getfield 46, 3) := by decide +kernel
theorem dX8_best_4 : decode cX8_best 4 = .ok (.aload_n 0, 1) := by decide +kernel
theorem dX8_best_5 : decode cX8_best 5 = .ok (.getfield 32, 3) := by decide +kernel
theorem dX8_best_8 : decode cX8_best 8 = .ok (.aload_n 0, 1) := by decide +kernel
theorem dX8_best_9 : decode cX8_best 9 = .ok (.getfield 10, 3) := by decide +kernel
theorem dX8_best_12 : decode cX8_best 12 = .ok (.invokevirtual 148, 3) := by decide +kernel
theorem dX8_best_15 : decode cX8_best 15 = .ok (.iload_n 1, 1) := by decide +kernel
theorem dX8_best_16 : decode cX8_best 16 = .ok (.tableswitch 110 0 5 #[40, 48, 63, 71, 87, 95], 40) := by decide +kernel
theorem dX8_best_56 : decode cX8_best 56 = .ok (.aload_n 0, 1) := by decide +kernel
theorem dX8_best_57 : decode cX8_best 57 = .ok (.getfield 46, 3) := by decide +kernel
theorem dX8_best_60 : decode cX8_best 60 = .ok (.invokevirtual 167, 3) := by decide +kernel
theorem dX8_best_63 : decode cX8_best 63 = .ok (.ireturn, 1) := by decide +kernel
theorem dX8_best_64 : decode cX8_best 64 = .ok (.aload_n 0, 1) := by decide +kernel
theorem dX8_best_65 : decode cX8_best 65 = .ok (.getfield 46, 3) := by decide +kernel
theorem dX8_best_68 : decode cX8_best 68 = .ok (.aload_n 0, 1) := by decide +kernel
theorem dX8_best_69 : decode cX8_best 69 = .ok (.getfield 46, 3) := by decide +kernel
theorem dX8_best_72 : decode cX8_best 72 = .ok (.invokevirtual 167, 3) := by decide +kernel
theorem dX8_best_75 : decode cX8_best 75 = .ok (.invokevirtual 170, 3) := by decide +kernel
theorem dX8_best_78 : decode cX8_best 78 = .ok (.ireturn, 1) := by decide +kernel
theorem dX8_best_79 : decode cX8_best 79 = .ok (.aload_n 0, 1) := by decide +kernel
theorem dX8_best_80 : decode cX8_best 80 = .ok (.getfield 46, 3) := by decide +kernel
theorem dX8_best_83 : decode cX8_best 83 = .ok (.invokevirtual 173, 3) := by decide +kernel
theorem dX8_best_86 : decode cX8_best 86 = .ok (.ireturn, 1) := by decide +kernel
theorem dX8_best_87 : decode cX8_best 87 = .ok (.aload_n 0, 1) := by decide +kernel
theorem dX8_best_88 : decode cX8_best 88 = .ok (.getfield 46, 3) := by decide +kernel
theorem dX8_best_91 : decode cX8_best 91 = .ok (.aload_n 0, 1) := by decide +kernel
theorem dX8_best_92 : decode cX8_best 92 = .ok (.getfield 46, 3) := by decide +kernel
theorem dX8_best_95 : decode cX8_best 95 = .ok (.invokevirtual 173, 3) := by decide +kernel
theorem dX8_best_98 : decode cX8_best 98 = .ok (.iconst 0, 1) := by decide +kernel
theorem dX8_best_99 : decode cX8_best 99 = .ok (.invokevirtual 176, 3) := by decide +kernel
theorem dX8_best_102 : decode cX8_best 102 = .ok (.ireturn, 1) := by decide +kernel
theorem dX8_best_103 : decode cX8_best 103 = .ok (.aload_n 0, 1) := by decide +kernel
theorem dX8_best_104 : decode cX8_best 104 = .ok (.getfield 46, 3) := by decide +kernel
theorem dX8_best_107 : decode cX8_best 107 = .ok (.invokevirtual 179, 3) := by decide +kernel
theorem dX8_best_110 : decode cX8_best 110 = .ok (.ireturn, 1) := by decide +kernel
theorem dX8_best_111 : decode cX8_best 111 = .ok (.aload_n 0, 1) := by decide +kernel
theorem dX8_best_112 : decode cX8_best 112 = .ok (.getfield 46, 3) := by decide +kernel
theorem dX8_best_115 : decode cX8_best 115 = .ok (.aload_n 0, 1) := by decide +kernel
theorem dX8_best_116 : decode cX8_best 116 = .ok (.getfield 46, 3) := by decide +kernel
theorem dX8_best_119 : decode cX8_best 119 = .ok (.invokevirtual 179, 3) := by decide +kernel
theorem dX8_best_122 : decode cX8_best 122 = .ok (.invokevirtual 182, 3) := by decide +kernel
theorem dX8_best_125 : decode cX8_best 125 = .ok (.ireturn, 1) := by decide +kernel
theorem dX8_best_126 : decode cX8_best 126 = .ok (.bipush (-2), 2) := by decide +kernel
theorem dX8_best_128 : decode cX8_best 128 = .ok (.ireturn, 1) := by decide +kernel
set_option maxRecDepth 20000 in
theorem ggX8_blend_X1_lodges : GoodIn wsX8_blend wsX1_lodges := goodIn_r _ [12, 13, 132, 133, 134, 135, 136, 137, 138, 139, 140, 141, 142] (by decide +kernel) (by decide +kernel)
set_option maxRecDepth 20000 in
theorem gX8_blend_X1_lodges : GoodIn wsX8_blend (wsV RX8 77 RX1 yX1_lodges wsX1_lodges) := goodIn_app (goodIn_of _ (by decide +kernel)) ggX8_blend_X1_lodges
set_option maxRecDepth 20000 in
theorem ggX8_blend_X8_isCup : GoodIn wsX8_blend wsX8_isCup := goodIn_r _ [17] (by decide +kernel) (by decide +kernel)
set_option maxRecDepth 20000 in
theorem gX8_blend_X8_isCup : GoodIn wsX8_blend (va_wsS RX8 134 yX8_isCup wsX8_isCup) := goodIn_app (goodIn_of _ (by decide +kernel)) ggX8_blend_X8_isCup
set_option maxRecDepth 20000 in
theorem ggX8_blend_X1_takeFrom : GoodIn wsX8_blend wsX1_takeFrom := goodIn_r _ [21, 22, 23, 24, 13, 25, 26, 27, 28, 29, 30, 31, 32, 33, 34, 35, 132, 133, 134, 135, 136, 137, 138, 139, 140, 141, 142] (by decide +kernel) (by decide +kernel)
set_option maxRecDepth 20000 in
theorem gX8_blend_X1_takeFrom : GoodIn wsX8_blend (wsV RX8 137 RX1 yX1_takeFrom wsX1_takeFrom) := goodIn_app (goodIn_of _ (by decide +kernel)) ggX8_blend_X1_takeFrom
set_option maxRecDepth 20000 in
theorem ggX8_blend_X3_pourAll : GoodIn wsX8_blend wsX3_pourAll := goodIn_r _ [40, 41, 42, 43, 44, 45, 39, 46, 47, 48, 49, 50, 51, 52, 53, 54, 55, 56, 57, 58, 59, 60, 9, 10, 11, 12, 13, 61, 62, 63, 64, 65, 66, 67, 68, 69, 70, 71, 72, 73, 74, 75, 76, 77, 78, 79, 80, 81, 82, 83, 84, 85, 86, 87, 88, 89, 90, 91, 92, 93, 94, 95, 96, 97, 98, 16, 99, 100, 101, 102, 103, 104, 105, 106, 107, 108, 109, 110, 111, 112, 113, 114, 115, 116, 117, 118, 15, 17, 132, 133, 134, 135, 136, 137, 138, 139, 140, 141, 142, 131, 143, 144, 145, 146, 147, 148] (by decide +kernel) (by decide +kernel)
set_option maxRecDepth 20000 in
theorem gX8_blend_X3_pourAll : GoodIn wsX8_blend (wsV RX8 158 RX3 yX3_pourAll wsX3_pourAll) := goodIn_app (goodIn_of _ (by decide +kernel)) ggX8_blend_X3_pourAll
set_option maxRecDepth 20000 in
theorem ggX8_blend_X8_lowest : GoodIn wsX8_blend wsX8_lowest := goodIn_r _ [121, 2] (by decide +kernel) (by decide +kernel)
set_option maxRecDepth 20000 in
theorem gX8_blend_X8_lowest : GoodIn wsX8_blend (va_wsS RX8 191 yX8_lowest wsX8_lowest) := goodIn_app (goodIn_of _ (by decide +kernel)) ggX8_blend_X8_lowest
theorem dX8_blend_0 : decode cX8_blend 0 = .ok (.aload_n 0, 1) := by decide +kernel
theorem dX8_blend_1 : decode cX8_blend 1 = .ok (.getfield 10, 3) := by decide +kernel
theorem dX8_blend_4 : decode cX8_blend 4 = .ok (.iload_n 1, 1) := by decide +kernel
theorem dX8_blend_5 : decode cX8_blend 5 = .ok (.invokevirtual 77, 3) := by decide +kernel
theorem dX8_blend_8 : decode cX8_blend 8 = .ok (.ifCond .eq 19, 3) := by decide +kernel
theorem dX8_blend_11 : decode cX8_blend 11 = .ok (.iload_n 2, 1) := by decide +kernel
theorem dX8_blend_12 : decode cX8_blend 12 = .ok (.invokestatic 134, 3) := by decide +kernel
theorem dX8_blend_15 : decode cX8_blend 15 = .ok (.ifCond .eq 12, 3) := by decide +kernel
theorem dX8_blend_18 : decode cX8_blend 18 = .ok (.iload_n 3, 1) := by decide +kernel
theorem dX8_blend_19 : decode cX8_blend 19 = .ok (.ifCond .lt 8, 3) := by decide +kernel
theorem dX8_blend_22 : decode cX8_blend 22 = .ok (.iload_n 3, 1) := by decide +kernel
theorem dX8_blend_23 : decode cX8_blend 23 = .ok (.iconst 1, 1) := by decide +kernel
theorem dX8_blend_24 : decode cX8_blend 24 = .ok (.if_icmp .le 7, 3) := by decide +kernel
theorem dX8_blend_27 : decode cX8_blend 27 = .ok (.ldc2_w 185, 3) := by decide +kernel
theorem dX8_blend_30 : decode cX8_blend 30 = .ok (.lreturn, 1) := by decide +kernel
theorem dX8_blend_31 : decode cX8_blend 31 = .ok (.aload_n 0, 1) := by decide +kernel
theorem dX8_blend_32 : decode cX8_blend 32 = .ok (.getfield 16, 3) := by decide +kernel
theorem dX8_blend_35 : decode cX8_blend 35 = .ok (.aload_n 0, 1) := by decide +kernel
theorem dX8_blend_36 : decode cX8_blend 36 = .ok (.getfield 10, 3) := by decide +kernel
theorem dX8_blend_39 : decode cX8_blend 39 = .ok (.invokevirtual 137, 3) := by decide +kernel
theorem dX8_blend_42 : decode cX8_blend 42 = .ok (.aload_n 0, 1) := by decide +kernel
theorem dX8_blend_43 : decode cX8_blend 43 = .ok (.getfield 39, 3) := by decide +kernel
theorem dX8_blend_46 : decode cX8_blend 46 = .ok (.aload_n 0, 1) := by decide +kernel
theorem dX8_blend_47 : decode cX8_blend 47 = .ok (.getfield 32, 3) := by decide +kernel
theorem dX8_blend_50 : decode cX8_blend 50 = .ok (.aload_n 0, 1) := by decide +kernel
theorem dX8_blend_51 : decode cX8_blend 51 = .ok (.getfield 16, 3) := by decide +kernel
theorem dX8_blend_54 : decode cX8_blend 54 = .ok (.invokevirtual 158, 3) := by decide +kernel
theorem dX8_blend_57 : decode cX8_blend 57 = .ok (.pop, 1) := by decide +kernel
theorem dX8_blend_58 : decode cX8_blend 58 = .ok (.aload_n 0, 1) := by decide +kernel
theorem dX8_blend_59 : decode cX8_blend 59 = .ok (.getfield 39, 3) := by decide +kernel
theorem dX8_blend_62 : decode cX8_blend 62 = .ok (.getfield 187, 3) := by decide +kernel
theorem dX8_blend_65 : decode cX8_blend 65 = .ok (.iload_n 1, 1) := by decide +kernel
theorem dX8_blend_66 : decode cX8_blend 66 = .ok (.aaload, 1) := by decide +kernel
theorem dX8_blend_67 : decode cX8_blend 67 = .ok (.iload_n 2, 1) := by decide +kernel
theorem dX8_blend_68 : decode cX8_blend 68 = .ok (.iaload, 1) := by decide +kernel
theorem dX8_blend_69 : decode cX8_blend 69 = .ok (.aload_n 0, 1) := by decide +kernel
theorem dX8_blend_70 : decode cX8_blend 70 = .ok (.getfield 16, 3) := by decide +kernel
theorem dX8_blend_73 : decode cX8_blend 73 = .ok (.getfield 141, 3) := by decide +kernel
theorem dX8_blend_76 : decode cX8_blend 76 = .ok (.iload_n 2, 1) := by decide +kernel
theorem dX8_blend_77 : decode cX8_blend 77 = .ok (.iaload, 1) := by decide +kernel
theorem dX8_blend_78 : decode cX8_blend 78 = .ok (.iload_n 3, 1) := by decide +kernel
theorem dX8_blend_79 : decode cX8_blend 79 = .ok (.invokestatic 191, 3) := by decide +kernel
theorem dX8_blend_82 : decode cX8_blend 82 = .ok (.lreturn, 1) := by decide +kernel
set_option maxRecDepth 20000 in
theorem ggX8_tells_X8_isSheet : GoodIn wsX8_tells wsX8_isSheet := goodIn_r _ [9] (by decide +kernel) (by decide +kernel)
set_option maxRecDepth 20000 in
theorem gX8_tells_X8_isSheet : GoodIn wsX8_tells (va_wsS RX8 195 yX8_isSheet wsX8_isSheet) := goodIn_app (goodIn_of _ (by decide +kernel)) ggX8_tells_X8_isSheet
set_option maxRecDepth 20000 in
theorem ggX8_tells_X1_lodges : GoodIn wsX8_tells wsX1_lodges := goodIn_r _ [14, 15, 166, 167, 168, 169, 170, 171, 172, 173, 174, 175, 176] (by decide +kernel) (by decide +kernel)
set_option maxRecDepth 20000 in
theorem gX8_tells_X1_lodges : GoodIn wsX8_tells (wsV RX8 77 RX1 yX1_lodges wsX1_lodges) := goodIn_app (goodIn_of _ (by decide +kernel)) ggX8_tells_X1_lodges
set_option maxRecDepth 20000 in
theorem ggX8_tells_X5_isMissing : GoodIn wsX8_tells wsX5_isMissing := goodIn_r _ [20, 21, 163, 164, 165] (by decide +kernel) (by decide +kernel)
set_option maxRecDepth 20000 in
theorem gX8_tells_X5_isMissing : GoodIn wsX8_tells (wsV RX8 198 RX5 yX5_isMissing wsX5_isMissing) := goodIn_app (goodIn_of _ (by decide +kernel)) ggX8_tells_X5_isMissing
set_option maxRecDepth 20000 in
theorem ggX8_tells_X1_takeFrom : GoodIn wsX8_tells wsX1_takeFrom := goodIn_r _ [25, 26, 27, 28, 15, 29, 30, 31, 32, 33, 34, 35, 36, 37, 38, 39, 166, 167, 168, 169, 170, 171, 172, 173, 174, 175, 176] (by decide +kernel) (by decide +kernel)
set_option maxRecDepth 20000 in
theorem gX8_tells_X1_takeFrom : GoodIn wsX8_tells (wsV RX8 137 RX1 yX1_takeFrom wsX1_takeFrom) := goodIn_app (goodIn_of _ (by decide +kernel)) ggX8_tells_X1_takeFrom
set_option maxRecDepth 20000 in
theorem ggX8_tells_X8_firstOtherwise : GoodIn wsX8_tells wsX8_firstOtherwise := goodIn_r _ [43, 3, 44, 5, 4, 45, 46, 47, 48, 49, 50, 51, 52, 53, 11, 12, 13, 14, 15, 54, 55, 56, 57, 58, 59, 60, 61, 62, 63, 64, 65, 66, 67, 68, 69, 70, 71, 72, 73, 74, 75, 76, 77, 78, 79, 80, 81, 82, 83, 84, 85, 86, 87, 88, 89, 90, 91, 8, 92, 93, 94, 95, 96, 97, 98, 99, 100, 101, 102, 103, 104, 105, 106, 107, 108, 109, 110, 111, 112, 113, 114, 115, 116, 117, 163, 164, 165, 154, 155, 156, 157, 158, 159, 160, 161, 162, 166, 167, 168, 169, 170, 171, 172, 173, 174, 175, 176, 177, 178, 179, 180, 181, 182] (by decide +kernel) (by decide +kernel)
set_option maxRecDepth 20000 in
theorem gX8_tells_X8_firstOtherwise : GoodIn wsX8_tells (wsV RX8 202 RX8 yX8_firstOtherwise wsX8_firstOtherwise) := goodIn_app (goodIn_of _ (by decide +kernel)) ggX8_tells_X8_firstOtherwise
set_option maxRecDepth 20000 in
theorem ggX8_tells_X8_fitting : GoodIn wsX8_tells wsX8_fitting := goodIn_r _ [121, 122, 123, 124, 8, 125, 4, 1, 22, 23, 24, 13, 25, 26, 27, 28, 15, 29, 30, 31, 32, 33, 34, 35, 36, 37, 38, 39, 126, 127, 128, 129, 130, 131, 132, 133, 134, 11, 12, 14, 135, 136, 40, 41, 42, 43, 3, 44, 5, 45, 46, 47, 48, 49, 50, 51, 52, 53, 54, 55, 56, 57, 58, 59, 60, 61, 62, 63, 64, 65, 66, 67, 68, 69, 70, 71, 72, 73, 74, 75, 76, 77, 78, 79, 80, 81, 82, 83, 84, 85, 86, 87, 88, 89, 90, 91, 92, 93, 94, 95, 96, 97, 98, 99, 100, 101, 102, 103, 104, 105, 106, 107, 108, 109, 110, 111, 112, 113, 114, 115, 116, 117, 154, 155, 156, 157, 158, 159, 160, 161, 162, 166, 167, 168, 169, 170, 171, 172, 173, 174, 175, 176, 163, 164, 165, 177, 178, 179, 180, 181, 182] (by decide +kernel) (by decide +kernel)
set_option maxRecDepth 20000 in
theorem gX8_tells_X8_fitting : GoodIn wsX8_tells (wsV RX8 206 RX8 yX8_fitting wsX8_fitting) := goodIn_app (goodIn_of _ (by decide +kernel)) ggX8_tells_X8_fitting
set_option maxRecDepth 20000 in
theorem ggX8_tells_X8_troublesFitting : GoodIn wsX8_tells wsX8_troublesFitting := goodIn_r _ [140, 122, 123, 124, 8, 125, 4, 1, 22, 23, 24, 13, 25, 26, 27, 28, 15, 29, 30, 31, 32, 33, 34, 35, 36, 37, 38, 39, 126, 127, 128, 129, 130, 131, 132, 133, 134, 11, 12, 14, 135, 136, 40, 41, 42, 43, 3, 44, 5, 45, 46, 47, 48, 49, 50, 51, 52, 53, 54, 55, 56, 57, 58, 59, 60, 61, 62, 63, 64, 65, 66, 67, 68, 69, 70, 71, 72, 73, 74, 75, 76, 77, 78, 79, 80, 81, 82, 83, 84, 85, 86, 87, 88, 89, 90, 91, 92, 93, 94, 95, 96, 97, 98, 99, 100, 101, 102, 103, 104, 105, 106, 107, 108, 109, 110, 111, 112, 113, 114, 115, 116, 117, 154, 155, 156, 157, 158, 159, 160, 161, 162, 166, 167, 168, 169, 170, 171, 172, 173, 174, 175, 176, 163, 164, 165, 177, 178, 179, 180, 181, 182] (by decide +kernel) (by decide +kernel)
set_option maxRecDepth 20000 in
theorem gX8_tells_X8_troublesFitting : GoodIn wsX8_tells (wsV RX8 210 RX8 yX8_troublesFitting wsX8_troublesFitting) := goodIn_app (goodIn_of _ (by decide +kernel)) ggX8_tells_X8_troublesFitting
set_option maxRecDepth 20000 in
theorem ggX8_tells_X8_leastTroubleFitting : GoodIn wsX8_tells wsX8_leastTroubleFitting := goodIn_r _ [144, 122, 123, 124, 8, 125, 4, 1, 22, 23, 24, 13, 25, 26, 27, 28, 15, 29, 30, 31, 32, 33, 34, 35, 36, 37, 38, 39, 126, 127, 128, 129, 130, 131, 132, 133, 134, 11, 12, 14, 135, 136, 40, 41, 42, 43, 3, 44, 5, 45, 46, 47, 48, 49, 50, 51, 52, 53, 54, 55, 56, 57, 58, 59, 60, 61, 62, 63, 64, 65, 66, 67, 68, 69, 70, 71, 72, 73, 74, 75, 76, 77, 78, 79, 80, 81, 82, 83, 84, 85, 86, 87, 88, 89, 90, 91, 92, 93, 94, 95, 96, 97, 98, 99, 100, 101, 102, 103, 104, 105, 106, 107, 108, 109, 110, 111, 112, 113, 114, 115, 116, 117, 154, 155, 156, 157, 158, 159, 160, 161, 162, 166, 167, 168, 169, 170, 171, 172, 173, 174, 175, 176, 163, 164, 165, 177, 178, 179, 180, 181, 182] (by decide +kernel) (by decide +kernel)
set_option maxRecDepth 20000 in
theorem gX8_tells_X8_leastTroubleFitting : GoodIn wsX8_tells (wsV RX8 213 RX8 yX8_leastTroubleFitting wsX8_leastTroubleFitting) := goodIn_app (goodIn_of _ (by decide +kernel)) ggX8_tells_X8_leastTroubleFitting
set_option maxRecDepth 20000 in
theorem ggX8_tells_X2_size : GoodIn wsX8_tells wsX2_size := goodIn_r _ [148, 64, 177, 178, 179] (by decide +kernel) (by decide +kernel)
set_option maxRecDepth 20000 in
theorem gX8_tells_X2_size : GoodIn wsX8_tells (wsV RX8 216 RX2 yX2_size wsX2_size) := goodIn_app (goodIn_of _ (by decide +kernel)) ggX8_tells_X2_size
set_option maxRecDepth 20000 in
theorem ggX8_tells_X8_onesFitting : GoodIn wsX8_tells wsX8_onesFitting := goodIn_r _ [152, 1, 153, 4, 22, 23, 24, 13, 25, 26, 27, 28, 15, 29, 30, 31, 32, 33, 34, 35, 36, 37, 38, 39, 40, 41, 42, 8, 43, 3, 44, 5, 45, 46, 47, 48, 49, 50, 51, 52, 53, 11, 12, 14, 54, 55, 56, 57, 58, 59, 60, 61, 62, 63, 64, 65, 66, 67, 68, 69, 70, 71, 72, 73, 74, 75, 76, 77, 78, 79, 80, 81, 82, 83, 84, 85, 86, 87, 88, 89, 90, 91, 92, 93, 94, 95, 96, 97, 98, 99, 100, 101, 102, 103, 104, 105, 106, 107, 108, 109, 110, 111, 112, 113, 114, 115, 116, 117, 154, 155, 156, 157, 158, 159, 160, 161, 162, 166, 167, 168, 169, 170, 171, 172, 173, 174, 175, 176, 163, 164, 165, 177, 178, 179, 180, 181, 182] (by decide +kernel) (by decide +kernel)
set_option maxRecDepth 20000 in
theorem gX8_tells_X8_onesFitting : GoodIn wsX8_tells (wsV RX8 218 RX8 yX8_onesFitting wsX8_onesFitting) := goodIn_app (goodIn_of _ (by decide +kernel)) ggX8_tells_X8_onesFitting
theorem dX8_tells_0 : decode cX8_tells 0 = .ok (.iload_n 1, 1) := by decide +kernel
theorem dX8_tells_1 : decode cX8_tells 1 = .ok (.invokestatic 195, 3) := by decide +kernel
theorem dX8_tells_4 : decode cX8_tells 4 = .ok (.ifCond .eq 24, 3) := by decide +kernel
theorem dX8_tells_7 : decode cX8_tells 7 = .ok (.aload_n 0, 1) := by decide +kernel
theorem dX8_tells_8 : decode cX8_tells 8 = .ok (.getfield 10, 3) := by decide +kernel
theorem dX8_tells_11 : decode cX8_tells 11 = .ok (.iload_n 2, 1) := by decide +kernel
theorem dX8_tells_12 : decode cX8_tells 12 = .ok (.invokevirtual 77, 3) := by decide +kernel
theorem dX8_tells_15 : decode cX8_tells 15 = .ok (.ifCond .eq 13, 3) := by decide +kernel
theorem dX8_tells_18 : decode cX8_tells 18 = .ok (.iload_n 3, 1) := by decide +kernel
theorem dX8_tells_19 : decode cX8_tells 19 = .ok (.ifCond .lt 9, 3) := by decide +kernel
theorem dX8_tells_22 : decode cX8_tells 22 = .ok (.iload_n 3, 1) := by decide +kernel
theorem dX8_tells_23 : decode cX8_tells 23 = .ok (.bipush 7, 2) := by decide +kernel
theorem dX8_tells_25 : decode cX8_tells 25 = .ok (.if_icmp .le 6, 3) := by decide +kernel
theorem dX8_tells_28 : decode cX8_tells 28 = .ok (.bipush (-2), 2) := by decide +kernel
theorem dX8_tells_30 : decode cX8_tells 30 = .ok (.ireturn, 1) := by decide +kernel
theorem dX8_tells_31 : decode cX8_tells 31 = .ok (.aload_n 0, 1) := by decide +kernel
theorem dX8_tells_32 : decode cX8_tells 32 = .ok (.getfield 52, 3) := by decide +kernel
theorem dX8_tells_35 : decode cX8_tells 35 = .ok (.iload_n 1, 1) := by decide +kernel
theorem dX8_tells_36 : decode cX8_tells 36 = .ok (.aaload, 1) := by decide +kernel
theorem dX8_tells_37 : decode cX8_tells 37 = .ok (.astore 4, 2) := by decide +kernel
theorem dX8_tells_39 : decode cX8_tells 39 = .ok (.aload 4, 2) := by decide +kernel
theorem dX8_tells_41 : decode cX8_tells 41 = .ok (.invokevirtual 198, 3) := by decide +kernel
theorem dX8_tells_44 : decode cX8_tells 44 = .ok (.ifCond .eq 6, 3) := by decide +kernel
theorem dX8_tells_47 : decode cX8_tells 47 = .ok (.bipush (-11), 2) := by decide +kernel
theorem dX8_tells_49 : decode cX8_tells 49 = .ok (.ireturn, 1) := by decide +kernel
theorem dX8_tells_50 : decode cX8_tells 50 = .ok (.aload 4, 2) := by decide +kernel
theorem dX8_tells_52 : decode cX8_tells 52 = .ok (.getfield 201, 3) := by decide +kernel
theorem dX8_tells_55 : decode cX8_tells 55 = .ok (.bipush 20, 2) := by decide +kernel
theorem dX8_tells_57 : decode cX8_tells 57 = .ok (.if_icmp .le 6, 3) := by decide +kernel
theorem dX8_tells_60 : decode cX8_tells 60 = .ok (.bipush (-2), 2) := by decide +kernel
theorem dX8_tells_62 : decode cX8_tells 62 = .ok (.ireturn, 1) := by decide +kernel
theorem dX8_tells_63 : decode cX8_tells 63 = .ok (.iload_n 3, 1) := by decide +kernel
theorem dX8_tells_64 : decode cX8_tells 64 = .ok (.tableswitch 131 0 6 #[44, 63, 74, 85, 93, 101, 112], 44) := by decide +kernel
theorem dX8_tells_108 : decode cX8_tells 108 = .ok (.aload_n 0, 1) := by decide +kernel
theorem dX8_tells_109 : decode cX8_tells 109 = .ok (.getfield 16, 3) := by decide +kernel
theorem dX8_tells_112 : decode cX8_tells 112 = .ok (.aload_n 0, 1) := by decide +kernel
theorem dX8_tells_113 : decode cX8_tells 113 = .ok (.getfield 10, 3) := by decide +kernel
theorem dX8_tells_116 : decode cX8_tells 116 = .ok (.invokevirtual 137, 3) := by decide +kernel
theorem dX8_tells_119 : decode cX8_tells 119 = .ok (.aload_n 0, 1) := by decide +kernel
theorem dX8_tells_120 : decode cX8_tells 120 = .ok (.aload 4, 2) := by decide +kernel
theorem dX8_tells_122 : decode cX8_tells 122 = .ok (.iload_n 2, 1) := by decide +kernel
theorem dX8_tells_123 : decode cX8_tells 123 = .ok (.invokevirtual 202, 3) := by decide +kernel
theorem dX8_tells_126 : decode cX8_tells 126 = .ok (.ireturn, 1) := by decide +kernel
theorem dX8_tells_127 : decode cX8_tells 127 = .ok (.aload_n 0, 1) := by decide +kernel
theorem dX8_tells_128 : decode cX8_tells 128 = .ok (.aload 4, 2) := by decide +kernel
theorem dX8_tells_130 : decode cX8_tells 130 = .ok (.iload_n 2, 1) := by decide +kernel
theorem dX8_tells_131 : decode cX8_tells 131 = .ok (.bipush 7, 2) := by decide +kernel
theorem dX8_tells_133 : decode cX8_tells 133 = .ok (.iconst 5, 1) := by decide +kernel
theorem dX8_tells_134 : decode cX8_tells 134 = .ok (.invokevirtual 206, 3) := by decide +kernel
theorem dX8_tells_137 : decode cX8_tells 137 = .ok (.ireturn, 1) := by decide +kernel
theorem dX8_tells_138 : decode cX8_tells 138 = .ok (.aload_n 0, 1) := by decide +kernel
theorem dX8_tells_139 : decode cX8_tells 139 = .ok (.aload 4, 2) := by decide +kernel
theorem dX8_tells_141 : decode cX8_tells 141 = .ok (.iload_n 2, 1) := by decide +kernel
theorem dX8_tells_142 : decode cX8_tells 142 = .ok (.iconst 2, 1) := by decide +kernel
theorem dX8_tells_143 : decode cX8_tells 143 = .ok (.bipush 9, 2) := by decide +kernel
theorem dX8_tells_145 : decode cX8_tells 145 = .ok (.invokevirtual 206, 3) := by decide +kernel
theorem dX8_tells_148 : decode cX8_tells 148 = .ok (.ireturn, 1) := by decide +kernel
theorem dX8_tells_149 : decode cX8_tells 149 = .ok (.aload_n 0, 1) := by decide +kernel
theorem dX8_tells_150 : decode cX8_tells 150 = .ok (.aload 4, 2) := by decide +kernel
theorem dX8_tells_152 : decode cX8_tells 152 = .ok (.iload_n 2, 1) := by decide +kernel
theorem dX8_tells_153 : decode cX8_tells 153 = .ok (.invokevirtual 210, 3) := by decide +kernel
theorem dX8_tells_156 : decode cX8_tells 156 = .ok (.ireturn, 1) := by decide +kernel
theorem dX8_tells_157 : decode cX8_tells 157 = .ok (.aload_n 0, 1) := by decide +kernel
theorem dX8_tells_158 : decode cX8_tells 158 = .ok (.aload 4, 2) := by decide +kernel
theorem dX8_tells_160 : decode cX8_tells 160 = .ok (.iload_n 2, 1) := by decide +kernel
theorem dX8_tells_161 : decode cX8_tells 161 = .ok (.invokevirtual 213, 3) := by decide +kernel
theorem dX8_tells_164 : decode cX8_tells 164 = .ok (.ireturn, 1) := by decide +kernel
theorem dX8_tells_165 : decode cX8_tells 165 = .ok (.aload_n 0, 1) := by decide +kernel
theorem dX8_tells_166 : decode cX8_tells 166 = .ok (.aload 4, 2) := by decide +kernel
theorem dX8_tells_168 : decode cX8_tells 168 = .ok (.iload_n 2, 1) := by decide +kernel
theorem dX8_tells_169 : decode cX8_tells 169 = .ok (.iconst 1, 1) := by decide +kernel
theorem dX8_tells_170 : decode cX8_tells 170 = .ok (.bipush 23, 2) := by decide +kernel
theorem dX8_tells_172 : decode cX8_tells 172 = .ok (.invokevirtual 206, 3) := by decide +kernel
theorem dX8_tells_175 : decode cX8_tells 175 = .ok (.ireturn, 1) := by decide +kernel
theorem dX8_tells_176 : decode cX8_tells 176 = .ok (.aload_n 0, 1) := by decide +kernel
theorem dX8_tells_177 : decode cX8_tells 177 = .ok (.aload 4, 2) := by decide +kernel
theorem dX8_tells_179 : decode cX8_tells 179 = .ok (.iload_n 2, 1) := by decide +kernel
theorem dX8_tells_180 : decode cX8_tells 180 = .ok (.bipush 11, 2) := by decide +kernel
theorem dX8_tells_182 : decode cX8_tells 182 = .ok (.aload_n 0, 1) := by decide +kernel
theorem dX8_tells_183 : decode cX8_tells 183 = .ok (.getfield 32, 3) := by decide +kernel
theorem dX8_tells_186 : decode cX8_tells 186 = .ok (.invokevirtual 216, 3) := by decide +kernel
theorem dX8_tells_189 : decode cX8_tells 189 = .ok (.iconst 1, 1) := by decide +kernel
theorem dX8_tells_190 : decode cX8_tells 190 = .ok (.isub, 1) := by decide +kernel
theorem dX8_tells_191 : decode cX8_tells 191 = .ok (.invokevirtual 206, 3) := by decide +kernel
theorem dX8_tells_194 : decode cX8_tells 194 = .ok (.ireturn, 1) := by decide +kernel
theorem dX8_tells_195 : decode cX8_tells 195 = .ok (.aload_n 0, 1) := by decide +kernel
theorem dX8_tells_196 : decode cX8_tells 196 = .ok (.aload 4, 2) := by decide +kernel
theorem dX8_tells_198 : decode cX8_tells 198 = .ok (.invokevirtual 218, 3) := by decide +kernel
theorem dX8_tells_201 : decode cX8_tells 201 = .ok (.ireturn, 1) := by decide +kernel
set_option maxRecDepth 20000 in
theorem ggX8_film_X8_isSheet : GoodIn wsX8_film wsX8_isSheet := goodIn_r _ [9] (by decide +kernel) (by decide +kernel)
set_option maxRecDepth 20000 in
theorem gX8_film_X8_isSheet : GoodIn wsX8_film (va_wsS RX8 195 yX8_isSheet wsX8_isSheet) := goodIn_app (goodIn_of _ (by decide +kernel)) ggX8_film_X8_isSheet
set_option maxRecDepth 20000 in
theorem ggX8_film_X1_lodges : GoodIn wsX8_film wsX1_lodges := goodIn_r _ [14, 15, 133, 134, 135, 136, 137, 138, 139, 140, 141, 142, 143] (by decide +kernel) (by decide +kernel)
set_option maxRecDepth 20000 in
theorem gX8_film_X1_lodges : GoodIn wsX8_film (wsV RX8 77 RX1 yX1_lodges wsX1_lodges) := goodIn_app (goodIn_of _ (by decide +kernel)) ggX8_film_X1_lodges
set_option maxRecDepth 20000 in
theorem ggX8_film_X5_become : GoodIn wsX8_film wsX5_become := goodIn_r _ [20, 21, 22, 23, 24, 25, 26, 27, 28, 29, 30, 144, 145, 146] (by decide +kernel) (by decide +kernel)
set_option maxRecDepth 20000 in
theorem gX8_film_X5_become : GoodIn wsX8_film (wsV RX8 222 RX5 yX5_become wsX5_become) := goodIn_app (goodIn_of _ (by decide +kernel)) ggX8_film_X5_become
set_option maxRecDepth 20000 in
theorem ggX8_film_X1_takeFrom : GoodIn wsX8_film wsX1_takeFrom := goodIn_r _ [34, 35, 36, 37, 15, 38, 39, 40, 41, 42, 43, 44, 45, 46, 47, 48, 133, 134, 135, 136, 137, 138, 139, 140, 141, 142, 143] (by decide +kernel) (by decide +kernel)
set_option maxRecDepth 20000 in
theorem gX8_film_X1_takeFrom : GoodIn wsX8_film (wsV RX8 137 RX1 yX1_takeFrom wsX1_takeFrom) := goodIn_app (goodIn_of _ (by decide +kernel)) ggX8_film_X1_takeFrom
set_option maxRecDepth 20000 in
theorem ggX8_film_X2_yieldOf : GoodIn wsX8_film wsX2_yieldOf := goodIn_r _ [53, 54, 55, 56, 11, 12, 13, 14, 15, 57, 58, 59, 52, 60, 61, 62, 63, 64, 65, 66, 67, 68, 69, 70, 71, 72, 73, 74, 75, 76, 77, 78, 79, 80, 81, 82, 83, 84, 85, 86, 87, 88, 89, 90, 91, 92, 93, 94, 8, 95, 96, 23, 24, 25, 97, 27, 28, 98, 99, 100, 101, 102, 103, 104, 105, 106, 107, 133, 134, 135, 136, 137, 138, 139, 140, 141, 142, 143, 147, 148, 149, 150, 151, 152] (by decide +kernel) (by decide +kernel)
set_option maxRecDepth 20000 in
theorem gX8_film_X2_yieldOf : GoodIn wsX8_film (wsV RX8 81 RX2 yX2_yieldOf wsX2_yieldOf) := goodIn_app (goodIn_of _ (by decide +kernel)) ggX8_film_X2_yieldOf
set_option maxRecDepth 20000 in
theorem ggX8_film_X5_put : GoodIn wsX8_film wsX5_put := goodIn_r _ [111, 21, 30, 112, 113, 114, 19, 115, 29, 144, 145, 146] (by decide +kernel) (by decide +kernel)
set_option maxRecDepth 20000 in
theorem gX8_film_X5_put : GoodIn wsX8_film (wsV RX8 226 RX5 yX5_put wsX5_put) := goodIn_app (goodIn_of _ (by decide +kernel)) ggX8_film_X5_put
set_option maxRecDepth 20000 in
theorem ggX8_film_X2_easeOne : GoodIn wsX8_film wsX2_easeOne := goodIn_r _ [119, 54, 56, 11, 12, 13, 14, 15, 120, 121, 122, 52, 123, 55, 104, 102, 103, 107, 57, 58, 59, 60, 61, 62, 63, 64, 65, 66, 67, 68, 69, 70, 71, 72, 73, 74, 75, 76, 77, 78, 79, 80, 81, 82, 83, 84, 85, 86, 87, 88, 89, 90, 91, 92, 93, 94, 8, 95, 96, 23, 24, 25, 97, 27, 28, 133, 134, 135, 136, 137, 138, 139, 140, 141, 142, 143, 147, 148, 149, 150, 151, 152] (by decide +kernel) (by decide +kernel)
set_option maxRecDepth 20000 in
theorem gX8_film_X2_easeOne : GoodIn wsX8_film (wsV RX8 144 RX2 yX2_easeOne wsX2_easeOne) := goodIn_app (goodIn_of _ (by decide +kernel)) ggX8_film_X2_easeOne
theorem dX8_film_0 : decode cX8_film 0 = .ok (.iload_n 1, 1) := by decide +kernel
theorem dX8_film_1 : decode cX8_film 1 = .ok (.invokestatic 195, 3) := by decide +kernel
theorem dX8_film_4 : decode cX8_film 4 = .ok (.ifCond .eq 24, 3) := by decide +kernel
theorem dX8_film_7 : decode cX8_film 7 = .ok (.aload_n 0, 1) := by decide +kernel
theorem dX8_film_8 : decode cX8_film 8 = .ok (.getfield 10, 3) := by decide +kernel
theorem dX8_film_11 : decode cX8_film 11 = .ok (.iload_n 2, 1) := by decide +kernel
theorem dX8_film_12 : decode cX8_film 12 = .ok (.invokevirtual 77, 3) := by decide +kernel
theorem dX8_film_15 : decode cX8_film 15 = .ok (.ifCond .eq 13, 3) := by decide +kernel
theorem dX8_film_18 : decode cX8_film 18 = .ok (.iload_n 3, 1) := by decide +kernel
theorem dX8_film_19 : decode cX8_film 19 = .ok (.ifCond .lt 9, 3) := by decide +kernel
theorem dX8_film_22 : decode cX8_film 22 = .ok (.iload_n 3, 1) := by decide +kernel
theorem dX8_film_23 : decode cX8_film 23 = .ok (.bipush 20, 2) := by decide +kernel
theorem dX8_film_25 : decode cX8_film 25 = .ok (.if_icmp .le 6, 3) := by decide +kernel
theorem dX8_film_28 : decode cX8_film 28 = .ok (.bipush (-2), 2) := by decide +kernel
theorem dX8_film_30 : decode cX8_film 30 = .ok (.ireturn, 1) := by decide +kernel
theorem dX8_film_31 : decode cX8_film 31 = .ok (.aload_n 0, 1) := by decide +kernel
theorem dX8_film_32 : decode cX8_film 32 = .ok (.getfield 52, 3) := by decide +kernel
theorem dX8_film_35 : decode cX8_film 35 = .ok (.iload_n 1, 1) := by decide +kernel
theorem dX8_film_36 : decode cX8_film 36 = .ok (.aaload, 1) := by decide +kernel
theorem dX8_film_37 : decode cX8_film 37 = .ok (.astore 4, 2) := by decide +kernel
theorem dX8_film_39 : decode cX8_film 39 = .ok (.aload 4, 2) := by decide +kernel
theorem dX8_film_41 : decode cX8_film 41 = .ok (.iconst 0, 1) := by decide +kernel
theorem dX8_film_42 : decode cX8_film 42 = .ok (.iload_n 3, 1) := by decide +kernel
theorem dX8_film_43 : decode cX8_film 43 = .ok (.invokevirtual 222, 3) := by decide +kernel
theorem dX8_film_46 : decode cX8_film 46 = .ok (.aload_n 0, 1) := by decide +kernel
theorem dX8_film_47 : decode cX8_film 47 = .ok (.getfield 16, 3) := by decide +kernel
theorem dX8_film_50 : decode cX8_film 50 = .ok (.aload_n 0, 1) := by decide +kernel
theorem dX8_film_51 : decode cX8_film 51 = .ok (.getfield 10, 3) := by decide +kernel
theorem dX8_film_54 : decode cX8_film 54 = .ok (.invokevirtual 137, 3) := by decide +kernel
theorem dX8_film_57 : decode cX8_film 57 = .ok (.iconst 0, 1) := by decide +kernel
theorem dX8_film_58 : decode cX8_film 58 = .ok (.istore 5, 2) := by decide +kernel
theorem dX8_film_60 : decode cX8_film 60 = .ok (.iconst 0, 1) := by decide +kernel
theorem dX8_film_61 : decode cX8_film 61 = .ok (.istore 6, 2) := by decide +kernel
theorem dX8_film_63 : decode cX8_film 63 = .ok (.iload 6, 2) := by decide +kernel
theorem dX8_film_65 : decode cX8_film 65 = .ok (.iload_n 3, 1) := by decide +kernel
theorem dX8_film_66 : decode cX8_film 66 = .ok (.if_icmp .ge 65, 3) := by decide +kernel
theorem dX8_film_69 : decode cX8_film 69 = .ok (.aload_n 0, 1) := by decide +kernel
theorem dX8_film_70 : decode cX8_film 70 = .ok (.getfield 32, 3) := by decide +kernel
theorem dX8_film_73 : decode cX8_film 73 = .ok (.aload_n 0, 1) := by decide +kernel
theorem dX8_film_74 : decode cX8_film 74 = .ok (.getfield 16, 3) := by decide +kernel
theorem dX8_film_77 : decode cX8_film 77 = .ok (.iload_n 2, 1) := by decide +kernel
theorem dX8_film_78 : decode cX8_film 78 = .ok (.invokevirtual 81, 3) := by decide +kernel
theorem dX8_film_81 : decode cX8_film 81 = .ok (.istore 7, 2) := by decide +kernel
theorem dX8_film_83 : decode cX8_film 83 = .ok (.aload 4, 2) := by decide +kernel
theorem dX8_film_85 : decode cX8_film 85 = .ok (.iload 6, 2) := by decide +kernel
theorem dX8_film_87 : decode cX8_film 87 = .ok (.iload 7, 2) := by decide +kernel
theorem dX8_film_89 : decode cX8_film 89 = .ok (.invokevirtual 226, 3) := by decide +kernel
theorem dX8_film_92 : decode cX8_film 92 = .ok (.pop, 1) := by decide +kernel
theorem dX8_film_93 : decode cX8_film 93 = .ok (.iload 5, 2) := by decide +kernel
theorem dX8_film_95 : decode cX8_film 95 = .ok (.iload 7, 2) := by decide +kernel
theorem dX8_film_97 : decode cX8_film 97 = .ok (.iadd, 1) := by decide +kernel
theorem dX8_film_98 : decode cX8_film 98 = .ok (.istore 5, 2) := by decide +kernel
theorem dX8_film_100 : decode cX8_film 100 = .ok (.aload_n 0, 1) := by decide +kernel
theorem dX8_film_101 : decode cX8_film 101 = .ok (.getfield 32, 3) := by decide +kernel
theorem dX8_film_104 : decode cX8_film 104 = .ok (.aload_n 0, 1) := by decide +kernel
theorem dX8_film_105 : decode cX8_film 105 = .ok (.getfield 16, 3) := by decide +kernel
theorem dX8_film_108 : decode cX8_film 108 = .ok (.iload_n 2, 1) := by decide +kernel
theorem dX8_film_109 : decode cX8_film 109 = .ok (.invokevirtual 144, 3) := by decide +kernel
theorem dX8_film_112 : decode cX8_film 112 = .ok (.aload_n 0, 1) := by decide +kernel
theorem dX8_film_113 : decode cX8_film 113 = .ok (.getfield 16, 3) := by decide +kernel
theorem dX8_film_116 : decode cX8_film 116 = .ok (.dup, 1) := by decide +kernel
theorem dX8_film_117 : decode cX8_film 117 = .ok (.getfield 119, 3) := by decide +kernel
theorem dX8_film_120 : decode cX8_film 120 = .ok (.iconst 1, 1) := by decide +kernel
theorem dX8_film_121 : decode cX8_film 121 = .ok (.iadd, 1) := by decide +kernel
theorem dX8_film_122 : decode cX8_film 122 = .ok (.putfield 119, 3) := by decide +kernel
theorem dX8_film_125 : decode cX8_film 125 = .ok (.iinc 6 1, 3) := by decide +kernel
theorem dX8_film_128 : decode cX8_film 128 = .ok (.goto (-65), 3) := by decide +kernel
theorem dX8_film_131 : decode cX8_film 131 = .ok (.iload 5, 2) := by decide +kernel
theorem dX8_film_133 : decode cX8_film 133 = .ok (.ireturn, 1) := by decide +kernel
set_option maxRecDepth 20000 in
theorem ggX8_drawn_X8_pouredBySeed : GoodIn wsX8_drawn wsX8_pouredBySeed := goodIn_r _ [5, 6, 7, 8, 9, 10, 11, 12, 13, 14, 15, 16, 17, 18, 19, 20, 21, 22, 23, 24, 25, 26, 27, 28, 29, 30, 31, 32, 33, 34, 35, 36, 37, 38, 39, 40, 4, 41, 42, 43, 44, 45, 46, 47, 48, 49, 50, 51, 52, 53, 54, 55, 56, 57, 58, 59, 60, 61, 62, 63, 64, 65, 66, 67, 68, 69, 70, 71, 72, 73, 74, 75, 76, 77, 78, 79, 80, 81, 82, 83, 84, 85, 86, 87, 88, 89, 90, 91, 92, 93, 94, 95, 96, 97, 98, 99, 100, 101, 102, 103, 104, 105, 106, 107, 108, 109, 110, 111, 112, 113, 114, 115, 116, 117, 118, 119, 120, 121, 122, 123, 124, 125, 126, 127, 128, 129, 130, 131, 132, 133, 134, 135, 136, 137, 138, 139, 140, 141, 142, 143, 144, 145, 146, 147, 148, 149, 150, 151, 152, 153, 154, 155, 156, 157, 158, 159, 160, 161, 162, 163, 164] (by decide +kernel) (by decide +kernel)
set_option maxRecDepth 20000 in
theorem gX8_drawn_X8_pouredBySeed : GoodIn wsX8_drawn (wsV RX8 229 RX8 yX8_pouredBySeed wsX8_pouredBySeed) := goodIn_app (goodIn_of _ (by decide +kernel)) ggX8_drawn_X8_pouredBySeed
theorem dX8_drawn_0 : decode cX8_drawn 0 = .ok (.iload_n 2, 1) := by decide +kernel
theorem dX8_drawn_1 : decode cX8_drawn 1 = .ok (.ifCond .lt 9, 3) := by decide +kernel
theorem dX8_drawn_4 : decode cX8_drawn 4 = .ok (.iload_n 2, 1) := by decide +kernel
theorem dX8_drawn_5 : decode cX8_drawn 5 = .ok (.bipush 40, 2) := by decide +kernel
theorem dX8_drawn_7 : decode cX8_drawn 7 = .ok (.if_icmp .le 8, 3) := by decide +kernel
theorem dX8_drawn_10 : decode cX8_drawn 10 = .ok (.bipush (-2), 2) := by decide +kernel
theorem dX8_drawn_12 : decode cX8_drawn 12 = .ok (.goto 9, 3) := by decide +kernel
theorem dX8_drawn_15 : decode cX8_drawn 15 = .ok (.aload_n 0, 1) := by decide +kernel
theorem dX8_drawn_16 : decode cX8_drawn 16 = .ok (.iload_n 1, 1) := by decide +kernel
theorem dX8_drawn_17 : decode cX8_drawn 17 = .ok (.iload_n 2, 1) := by decide +kernel
theorem dX8_drawn_18 : decode cX8_drawn 18 = .ok (.invokevirtual 229, 3) := by decide +kernel
theorem dX8_drawn_21 : decode cX8_drawn 21 = .ok (.ireturn, 1) := by decide +kernel
set_option maxRecDepth 20000 in
theorem ggX8_chance_X8_pouredBySeed : GoodIn wsX8_chance wsX8_pouredBySeed := goodIn_r _ [6, 7, 8, 9, 10, 11, 12, 13, 14, 15, 16, 17, 18, 19, 20, 21, 22, 23, 24, 25, 26, 27, 28, 29, 30, 31, 32, 33, 34, 35, 36, 37, 38, 39, 40, 41, 5, 42, 43, 44, 45, 46, 47, 48, 49, 50, 51, 52, 53, 54, 55, 56, 57, 58, 59, 60, 61, 62, 63, 64, 65, 66, 67, 68, 69, 70, 71, 72, 73, 74, 75, 76, 77, 78, 79, 80, 81, 82, 83, 84, 85, 86, 87, 88, 89, 90, 91, 92, 93, 94, 95, 96, 97, 98, 99, 100, 101, 102, 103, 104, 105, 106, 107, 108, 109, 110, 111, 112, 113, 114, 115, 116, 117, 118, 119, 120, 121, 122, 123, 124, 125, 126, 127, 128, 129, 130, 131, 132, 133, 134, 135, 136, 137, 138, 142, 143, 144, 145, 146, 147, 148, 149, 150, 151, 152, 153, 154, 155, 156, 157, 158, 159, 160, 161, 162, 163, 164, 165, 166, 167, 168] (by decide +kernel) (by decide +kernel)
set_option maxRecDepth 20000 in
theorem gX8_chance_X8_pouredBySeed : GoodIn wsX8_chance (wsV RX8 229 RX8 yX8_pouredBySeed wsX8_pouredBySeed) := goodIn_app (goodIn_of _ (by decide +kernel)) ggX8_chance_X8_pouredBySeed
set_option maxRecDepth 20000 in
theorem ggX8_chance_X8_lowest : GoodIn wsX8_chance wsX8_lowest := goodIn_r _ [141, 1] (by decide +kernel) (by decide +kernel)
set_option maxRecDepth 20000 in
theorem gX8_chance_X8_lowest : GoodIn wsX8_chance (va_wsS RX8 191 yX8_lowest wsX8_lowest) := goodIn_app (goodIn_of _ (by decide +kernel)) ggX8_chance_X8_lowest
theorem dX8_chance_0 : decode cX8_chance 0 = .ok (.iload_n 2, 1) := by decide +kernel
theorem dX8_chance_1 : decode cX8_chance 1 = .ok (.iconst 1, 1) := by decide +kernel
theorem dX8_chance_2 : decode cX8_chance 2 = .ok (.if_icmp .lt 31, 3) := by decide +kernel
theorem dX8_chance_5 : decode cX8_chance 5 = .ok (.iload_n 2, 1) := by decide +kernel
theorem dX8_chance_6 : decode cX8_chance 6 = .ok (.bipush 20, 2) := by decide +kernel
theorem dX8_chance_8 : decode cX8_chance 8 = .ok (.if_icmp .gt 25, 3) := by decide +kernel
theorem dX8_chance_11 : decode cX8_chance 11 = .ok (.iload_n 3, 1) := by decide +kernel
theorem dX8_chance_12 : decode cX8_chance 12 = .ok (.ifCond .lt 21, 3) := by decide +kernel
theorem dX8_chance_15 : decode cX8_chance 15 = .ok (.iload_n 3, 1) := by decide +kernel
theorem dX8_chance_16 : decode cX8_chance 16 = .ok (.sipush 9999, 3) := by decide +kernel
theorem dX8_chance_19 : decode cX8_chance 19 = .ok (.if_icmp .gt 14, 3) := by decide +kernel
theorem dX8_chance_22 : decode cX8_chance 22 = .ok (.iload 4, 2) := by decide +kernel
theorem dX8_chance_24 : decode cX8_chance 24 = .ok (.ifCond .lt 9, 3) := by decide +kernel
theorem dX8_chance_27 : decode cX8_chance 27 = .ok (.iload 4, 2) := by decide +kernel
theorem dX8_chance_29 : decode cX8_chance 29 = .ok (.iconst 1, 1) := by decide +kernel
theorem dX8_chance_30 : decode cX8_chance 30 = .ok (.if_icmp .le 7, 3) := by decide +kernel
theorem dX8_chance_33 : decode cX8_chance 33 = .ok (.ldc2_w 185, 3) := by decide +kernel
theorem dX8_chance_36 : decode cX8_chance 36 = .ok (.lreturn, 1) := by decide +kernel
theorem dX8_chance_37 : decode cX8_chance 37 = .ok (.iconst 0, 1) := by decide +kernel
theorem dX8_chance_38 : decode cX8_chance 38 = .ok (.istore 5, 2) := by decide +kernel
theorem dX8_chance_40 : decode cX8_chance 40 = .ok (.iconst 0, 1) := by decide +kernel
theorem dX8_chance_41 : decode cX8_chance 41 = .ok (.istore 6, 2) := by decide +kernel
theorem dX8_chance_43 : decode cX8_chance 43 = .ok (.iload 6, 2) := by decide +kernel
theorem dX8_chance_45 : decode cX8_chance 45 = .ok (.iload_n 2, 1) := by decide +kernel
theorem dX8_chance_46 : decode cX8_chance 46 = .ok (.if_icmp .ge 26, 3) := by decide +kernel
theorem dX8_chance_49 : decode cX8_chance 49 = .ok (.aload_n 0, 1) := by decide +kernel
theorem dX8_chance_50 : decode cX8_chance 50 = .ok (.iload_n 1, 1) := by decide +kernel
theorem dX8_chance_51 : decode cX8_chance 51 = .ok (.iload 6, 2) := by decide +kernel
theorem dX8_chance_53 : decode cX8_chance 53 = .ok (.iadd, 1) := by decide +kernel
theorem dX8_chance_54 : decode cX8_chance 54 = .ok (.bipush 6, 2) := by decide +kernel
theorem dX8_chance_56 : decode cX8_chance 56 = .ok (.invokevirtual 229, 3) := by decide +kernel
theorem dX8_chance_59 : decode cX8_chance 59 = .ok (.iload_n 3, 1) := by decide +kernel
theorem dX8_chance_60 : decode cX8_chance 60 = .ok (.if_icmp .lt 6, 3) := by decide +kernel
theorem dX8_chance_63 : decode cX8_chance 63 = .ok (.iinc 5 1, 3) := by decide +kernel
theorem dX8_chance_66 : decode cX8_chance 66 = .ok (.iinc 6 1, 3) := by decide +kernel
theorem dX8_chance_69 : decode cX8_chance 69 = .ok (.goto (-26), 3) := by decide +kernel
theorem dX8_chance_72 : decode cX8_chance 72 = .ok (.iload 5, 2) := by decide +kernel
theorem dX8_chance_74 : decode cX8_chance 74 = .ok (.iload_n 2, 1) := by decide +kernel
theorem dX8_chance_75 : decode cX8_chance 75 = .ok (.iload 4, 2) := by decide +kernel
theorem dX8_chance_77 : decode cX8_chance 77 = .ok (.invokestatic 191, 3) := by decide +kernel
theorem dX8_chance_80 : decode cX8_chance 80 = .ok (.lreturn, 1) := by decide +kernel
set_option maxRecDepth 20000 in
theorem ggX8_image_X1_takeFrom : GoodIn wsX8_image wsX1_takeFrom := goodIn_r _ [9, 10, 11, 12, 13, 14, 15, 16, 17, 18, 19, 20, 21, 22, 23, 24, 34, 35, 36, 37, 38, 39, 40, 41, 42, 43, 44] (by decide +kernel) (by decide +kernel)
set_option maxRecDepth 20000 in
theorem gX8_image_X1_takeFrom : GoodIn wsX8_image (wsV RX8 137 RX1 yX1_takeFrom wsX1_takeFrom) := goodIn_app (goodIn_of _ (by decide +kernel)) ggX8_image_X1_takeFrom
theorem dX8_image_0 : decode cX8_image 0 = .ok (.aload_n 0, 1) := by decide +kernel
theorem dX8_image_1 : decode cX8_image 1 = .ok (.getfield 19, 3) := by decide +kernel
theorem dX8_image_4 : decode cX8_image 4 = .ok (.aload_n 0, 1) := by decide +kernel
theorem dX8_image_5 : decode cX8_image 5 = .ok (.getfield 10, 3) := by decide +kernel
theorem dX8_image_8 : decode cX8_image 8 = .ok (.invokevirtual 137, 3) := by decide +kernel
theorem dX8_image_11 : decode cX8_image 11 = .ok (.aload_n 0, 1) := by decide +kernel
theorem dX8_image_12 : decode cX8_image 12 = .ok (.iconst 1, 1) := by decide +kernel
theorem dX8_image_13 : decode cX8_image 13 = .ok (.putfield 232, 3) := by decide +kernel
theorem dX8_image_16 : decode cX8_image 16 = .ok (.aload_n 0, 1) := by decide +kernel
theorem dX8_image_17 : decode cX8_image 17 = .ok (.getfield 19, 3) := by decide +kernel
theorem dX8_image_20 : decode cX8_image 20 = .ok (.getfield 236, 3) := by decide +kernel
theorem dX8_image_23 : decode cX8_image 23 = .ok (.ireturn, 1) := by decide +kernel
set_option maxRecDepth 20000 in
theorem ggX8_back_X1_takeFrom : GoodIn wsX8_back wsX1_takeFrom := goodIn_r _ [9, 10, 11, 12, 13, 14, 15, 16, 17, 18, 19, 20, 21, 22, 23, 24, 34, 35, 36, 37, 38, 39, 40, 41, 42, 43, 44] (by decide +kernel) (by decide +kernel)
set_option maxRecDepth 20000 in
theorem gX8_back_X1_takeFrom : GoodIn wsX8_back (wsV RX8 137 RX1 yX1_takeFrom wsX1_takeFrom) := goodIn_app (goodIn_of _ (by decide +kernel)) ggX8_back_X1_takeFrom
theorem dX8_back_0 : decode cX8_back 0 = .ok (.aload_n 0, 1) := by decide +kernel
theorem dX8_back_1 : decode cX8_back 1 = .ok (.getfield 232, 3) := by decide +kernel
theorem dX8_back_4 : decode cX8_back 4 = .ok (.ifCond .ne 6, 3) := by decide +kernel
theorem dX8_back_7 : decode cX8_back 7 = .ok (.bipush (-3), 2) := by decide +kernel
theorem dX8_back_9 : decode cX8_back 9 = .ok (.ireturn, 1) := by decide +kernel
theorem dX8_back_10 : decode cX8_back 10 = .ok (.aload_n 0, 1) := by decide +kernel
theorem dX8_back_11 : decode cX8_back 11 = .ok (.getfield 10, 3) := by decide +kernel
