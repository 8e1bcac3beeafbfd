theorem dX8_back_14 : decode cX8_back 14 = .ok (.aload_n 0, 1) := by decide +kernel
theorem dX8_back_15 : decode cX8_back 15 = .ok (.getfield 19, 3) := by decide +kernel
theorem dX8_back_18 : decode cX8_back 18 = .ok (.invokevirtual 137, 3) := by decide +kernel
theorem dX8_back_21 : decode cX8_back 21 = .ok (.aload_n 0, 1) := by decide +kernel
theorem dX8_back_22 : decode cX8_back 22 = .ok (.getfield 10, 3) := by decide +kernel
theorem dX8_back_25 : decode cX8_back 25 = .ok (.getfield 236, 3) := by decide +kernel
theorem dX8_back_28 : decode cX8_back 28 = .ok (.ireturn, 1) := by decide +kernel
set_option maxRecDepth 20000 in
theorem ggX8_count_X1_heldInAll : GoodIn wsX8_count wsX1_heldInAll := goodIn_r _ [12, 13, 29, 30, 31, 32, 33, 34, 35, 36, 37, 38, 39] (by decide +kernel) (by decide +kernel)
set_option maxRecDepth 20000 in
theorem gX8_count_X1_heldInAll : GoodIn wsX8_count (wsV RX8 239 RX1 yX1_heldInAll wsX1_heldInAll) := goodIn_app (goodIn_of _ (by decide +kernel)) ggX8_count_X1_heldInAll
set_option maxRecDepth 20000 in
theorem ggX8_count_X2_size : GoodIn wsX8_count wsX2_size := goodIn_r _ [18, 19, 47, 48, 49] (by decide +kernel) (by decide +kernel)
set_option maxRecDepth 20000 in
theorem gX8_count_X2_size : GoodIn wsX8_count (wsV RX8 216 RX2 yX2_size wsX2_size) := goodIn_app (goodIn_of _ (by decide +kernel)) ggX8_count_X2_size
theorem dX8_count_0 : decode cX8_count 0 = .ok (.iload_n 1, 1) := by decide +kernel
theorem dX8_count_1 : decode cX8_count 1 = .ok (.tableswitch 87 0 5 #[39, 47, 55, 63, 71, 79], 39) := by decide +kernel
theorem dX8_count_40 : decode cX8_count 40 = .ok (.aload_n 0, 1) := by decide +kernel
theorem dX8_count_41 : decode cX8_count 41 = .ok (.getfield 10, 3) := by decide +kernel
theorem dX8_count_44 : decode cX8_count 44 = .ok (.getfield 236, 3) := by decide +kernel
theorem dX8_count_47 : decode cX8_count 47 = .ok (.ireturn, 1) := by decide +kernel
theorem dX8_count_48 : decode cX8_count 48 = .ok (.aload_n 0, 1) := by decide +kernel
theorem dX8_count_49 : decode cX8_count 49 = .ok (.getfield 10, 3) := by decide +kernel
theorem dX8_count_52 : decode cX8_count 52 = .ok (.invokevirtual 239, 3) := by decide +kernel
theorem dX8_count_55 : decode cX8_count 55 = .ok (.ireturn, 1) := by decide +kernel
theorem dX8_count_56 : decode cX8_count 56 = .ok (.aload_n 0, 1) := by decide +kernel
theorem dX8_count_57 : decode cX8_count 57 = .ok (.getfield 10, 3) := by decide +kernel
theorem dX8_count_60 : decode cX8_count 60 = .ok (.getfield 119, 3) := by decide +kernel
theorem dX8_count_63 : decode cX8_count 63 = .ok (.ireturn, 1) := by decide +kernel
theorem dX8_count_64 : decode cX8_count 64 = .ok (.aload_n 0, 1) := by decide +kernel
theorem dX8_count_65 : decode cX8_count 65 = .ok (.getfield 32, 3) := by decide +kernel
theorem dX8_count_68 : decode cX8_count 68 = .ok (.invokevirtual 216, 3) := by decide +kernel
theorem dX8_count_71 : decode cX8_count 71 = .ok (.ireturn, 1) := by decide +kernel
theorem dX8_count_72 : decode cX8_count 72 = .ok (.aload_n 0, 1) := by decide +kernel
theorem dX8_count_73 : decode cX8_count 73 = .ok (.getfield 25, 3) := by decide +kernel
theorem dX8_count_76 : decode cX8_count 76 = .ok (.getfield 94, 3) := by decide +kernel
theorem dX8_count_79 : decode cX8_count 79 = .ok (.ireturn, 1) := by decide +kernel
theorem dX8_count_80 : decode cX8_count 80 = .ok (.aload_n 0, 1) := by decide +kernel
theorem dX8_count_81 : decode cX8_count 81 = .ok (.getfield 10, 3) := by decide +kernel
theorem dX8_count_84 : decode cX8_count 84 = .ok (.getfield 116, 3) := by decide +kernel
theorem dX8_count_87 : decode cX8_count 87 = .ok (.ireturn, 1) := by decide +kernel
theorem dX8_count_88 : decode cX8_count 88 = .ok (.bipush (-2), 2) := by decide +kernel
theorem dX8_count_90 : decode cX8_count 90 = .ok (.ireturn, 1) := by decide +kernel
set_option maxRecDepth 20000 in
theorem ggX8_sheet_X8_isSheet : GoodIn wsX8_sheet wsX8_isSheet := goodIn_r _ [5] (by decide +kernel) (by decide +kernel)
set_option maxRecDepth 20000 in
theorem gX8_sheet_X8_isSheet : GoodIn wsX8_sheet (va_wsS RX8 195 yX8_isSheet wsX8_isSheet) := goodIn_app (goodIn_of _ (by decide +kernel)) ggX8_sheet_X8_isSheet
set_option maxRecDepth 20000 in
theorem ggX8_sheet_X5_become : GoodIn wsX8_sheet wsX5_become := goodIn_r _ [10, 11, 12, 13, 14, 15, 16, 17, 18, 19, 20, 30, 31, 32] (by decide +kernel) (by decide +kernel)
set_option maxRecDepth 20000 in
theorem gX8_sheet_X5_become : GoodIn wsX8_sheet (wsV RX8 222 RX5 yX5_become wsX5_become) := goodIn_app (goodIn_of _ (by decide +kernel)) ggX8_sheet_X5_become
theorem dX8_sheet_0 : decode cX8_sheet 0 = .ok (.iload_n 1, 1) := by decide +kernel
theorem dX8_sheet_1 : decode cX8_sheet 1 = .ok (.invokestatic 195, 3) := by decide +kernel
theorem dX8_sheet_4 : decode cX8_sheet 4 = .ok (.ifCond .eq 13, 3) := by decide +kernel
theorem dX8_sheet_7 : decode cX8_sheet 7 = .ok (.iload_n 2, 1) := by decide +kernel
theorem dX8_sheet_8 : decode cX8_sheet 8 = .ok (.iconst (-1), 1) := by decide +kernel
theorem dX8_sheet_9 : decode cX8_sheet 9 = .ok (.if_icmp .lt 8, 3) := by decide +kernel
theorem dX8_sheet_12 : decode cX8_sheet 12 = .ok (.iload_n 2, 1) := by decide +kernel
theorem dX8_sheet_13 : decode cX8_sheet 13 = .ok (.iconst 2, 1) := by decide +kernel
theorem dX8_sheet_14 : decode cX8_sheet 14 = .ok (.if_icmp .le 6, 3) := by decide +kernel
theorem dX8_sheet_17 : decode cX8_sheet 17 = .ok (.bipush (-2), 2) := by decide +kernel
theorem dX8_sheet_19 : decode cX8_sheet 19 = .ok (.ireturn, 1) := by decide +kernel
theorem dX8_sheet_20 : decode cX8_sheet 20 = .ok (.iload_n 2, 1) := by decide +kernel
theorem dX8_sheet_21 : decode cX8_sheet 21 = .ok (.iconst (-1), 1) := by decide +kernel
theorem dX8_sheet_22 : decode cX8_sheet 22 = .ok (.if_icmp .ne 16, 3) := by decide +kernel
theorem dX8_sheet_25 : decode cX8_sheet 25 = .ok (.aload_n 0, 1) := by decide +kernel
theorem dX8_sheet_26 : decode cX8_sheet 26 = .ok (.getfield 52, 3) := by decide +kernel
theorem dX8_sheet_29 : decode cX8_sheet 29 = .ok (.iload_n 1, 1) := by decide +kernel
theorem dX8_sheet_30 : decode cX8_sheet 30 = .ok (.aaload, 1) := by decide +kernel
theorem dX8_sheet_31 : decode cX8_sheet 31 = .ok (.iconst (-1), 1) := by decide +kernel
theorem dX8_sheet_32 : decode cX8_sheet 32 = .ok (.iconst 0, 1) := by decide +kernel
theorem dX8_sheet_33 : decode cX8_sheet 33 = .ok (.invokevirtual 222, 3) := by decide +kernel
theorem dX8_sheet_36 : decode cX8_sheet 36 = .ok (.iconst 1, 1) := by decide +kernel
theorem dX8_sheet_37 : decode cX8_sheet 37 = .ok (.ireturn, 1) := by decide +kernel
theorem dX8_sheet_38 : decode cX8_sheet 38 = .ok (.iload_n 3, 1) := by decide +kernel
theorem dX8_sheet_39 : decode cX8_sheet 39 = .ok (.bipush 40, 2) := by decide +kernel
theorem dX8_sheet_41 : decode cX8_sheet 41 = .ok (.if_icmp .le 6, 3) := by decide +kernel
theorem dX8_sheet_44 : decode cX8_sheet 44 = .ok (.bipush (-2), 2) := by decide +kernel
theorem dX8_sheet_46 : decode cX8_sheet 46 = .ok (.ireturn, 1) := by decide +kernel
theorem dX8_sheet_47 : decode cX8_sheet 47 = .ok (.iload_n 3, 1) := by decide +kernel
theorem dX8_sheet_48 : decode cX8_sheet 48 = .ok (.ifCond .ge 6, 3) := by decide +kernel
theorem dX8_sheet_51 : decode cX8_sheet 51 = .ok (.bipush (-14), 2) := by decide +kernel
theorem dX8_sheet_53 : decode cX8_sheet 53 = .ok (.ireturn, 1) := by decide +kernel
theorem dX8_sheet_54 : decode cX8_sheet 54 = .ok (.aload_n 0, 1) := by decide +kernel
theorem dX8_sheet_55 : decode cX8_sheet 55 = .ok (.getfield 52, 3) := by decide +kernel
theorem dX8_sheet_58 : decode cX8_sheet 58 = .ok (.iload_n 1, 1) := by decide +kernel
theorem dX8_sheet_59 : decode cX8_sheet 59 = .ok (.aaload, 1) := by decide +kernel
theorem dX8_sheet_60 : decode cX8_sheet 60 = .ok (.iload_n 2, 1) := by decide +kernel
theorem dX8_sheet_61 : decode cX8_sheet 61 = .ok (.iload_n 3, 1) := by decide +kernel
theorem dX8_sheet_62 : decode cX8_sheet 62 = .ok (.invokevirtual 222, 3) := by decide +kernel
theorem dX8_sheet_65 : decode cX8_sheet 65 = .ok (.iconst 1, 1) := by decide +kernel
theorem dX8_sheet_66 : decode cX8_sheet 66 = .ok (.ireturn, 1) := by decide +kernel
set_option maxRecDepth 20000 in
theorem ggX8_cell_X8_isSheet : GoodIn wsX8_cell wsX8_isSheet := goodIn_r _ [5] (by decide +kernel) (by decide +kernel)
set_option maxRecDepth 20000 in
theorem gX8_cell_X8_isSheet : GoodIn wsX8_cell (va_wsS RX8 195 yX8_isSheet wsX8_isSheet) := goodIn_app (goodIn_of _ (by decide +kernel)) ggX8_cell_X8_isSheet
set_option maxRecDepth 20000 in
theorem ggX8_cell_X5_isMissing : GoodIn wsX8_cell wsX5_isMissing := goodIn_r _ [10, 11, 31, 32, 33] (by decide +kernel) (by decide +kernel)
set_option maxRecDepth 20000 in
theorem gX8_cell_X5_isMissing : GoodIn wsX8_cell (wsV RX8 198 RX5 yX5_isMissing wsX5_isMissing) := goodIn_app (goodIn_of _ (by decide +kernel)) ggX8_cell_X5_isMissing
set_option maxRecDepth 20000 in
theorem ggX8_cell_X5_put : GoodIn wsX8_cell wsX5_put := goodIn_r _ [15, 11, 16, 17, 18, 19, 9, 20, 21, 31, 32, 33] (by decide +kernel) (by decide +kernel)
set_option maxRecDepth 20000 in
theorem gX8_cell_X5_put : GoodIn wsX8_cell (wsV RX8 226 RX5 yX5_put wsX5_put) := goodIn_app (goodIn_of _ (by decide +kernel)) ggX8_cell_X5_put
theorem dX8_cell_0 : decode cX8_cell 0 = .ok (.iload_n 1, 1) := by decide +kernel
theorem dX8_cell_1 : decode cX8_cell 1 = .ok (.invokestatic 195, 3) := by decide +kernel
theorem dX8_cell_4 : decode cX8_cell 4 = .ok (.ifCond .ne 6, 3) := by decide +kernel
theorem dX8_cell_7 : decode cX8_cell 7 = .ok (.bipush (-2), 2) := by decide +kernel
theorem dX8_cell_9 : decode cX8_cell 9 = .ok (.ireturn, 1) := by decide +kernel
theorem dX8_cell_10 : decode cX8_cell 10 = .ok (.aload_n 0, 1) := by decide +kernel
theorem dX8_cell_11 : decode cX8_cell 11 = .ok (.getfield 52, 3) := by decide +kernel
theorem dX8_cell_14 : decode cX8_cell 14 = .ok (.iload_n 1, 1) := by decide +kernel
theorem dX8_cell_15 : decode cX8_cell 15 = .ok (.aaload, 1) := by decide +kernel
theorem dX8_cell_16 : decode cX8_cell 16 = .ok (.invokevirtual 198, 3) := by decide +kernel
theorem dX8_cell_19 : decode cX8_cell 19 = .ok (.ifCond .eq 6, 3) := by decide +kernel
theorem dX8_cell_22 : decode cX8_cell 22 = .ok (.bipush (-11), 2) := by decide +kernel
theorem dX8_cell_24 : decode cX8_cell 24 = .ok (.ireturn, 1) := by decide +kernel
theorem dX8_cell_25 : decode cX8_cell 25 = .ok (.aload_n 0, 1) := by decide +kernel
theorem dX8_cell_26 : decode cX8_cell 26 = .ok (.getfield 52, 3) := by decide +kernel
theorem dX8_cell_29 : decode cX8_cell 29 = .ok (.iload_n 1, 1) := by decide +kernel
theorem dX8_cell_30 : decode cX8_cell 30 = .ok (.aaload, 1) := by decide +kernel
theorem dX8_cell_31 : decode cX8_cell 31 = .ok (.iload_n 2, 1) := by decide +kernel
theorem dX8_cell_32 : decode cX8_cell 32 = .ok (.iload_n 3, 1) := by decide +kernel
theorem dX8_cell_33 : decode cX8_cell 33 = .ok (.invokevirtual 226, 3) := by decide +kernel
theorem dX8_cell_36 : decode cX8_cell 36 = .ok (.ifCond .eq 7, 3) := by decide +kernel
theorem dX8_cell_39 : decode cX8_cell 39 = .ok (.iconst 1, 1) := by decide +kernel
theorem dX8_cell_40 : decode cX8_cell 40 = .ok (.goto 5, 3) := by decide +kernel
theorem dX8_cell_43 : decode cX8_cell 43 = .ok (.bipush (-12), 2) := by decide +kernel
theorem dX8_cell_45 : decode cX8_cell 45 = .ok (.ireturn, 1) := by decide +kernel
set_option maxRecDepth 20000 in
theorem ggX8_copy_X8_isSheet : GoodIn wsX8_copy wsX8_isSheet := goodIn_r _ [11] (by decide +kernel) (by decide +kernel)
set_option maxRecDepth 20000 in
theorem gX8_copy_X8_isSheet : GoodIn wsX8_copy (va_wsS RX8 195 yX8_isSheet wsX8_isSheet) := goodIn_app (goodIn_of _ (by decide +kernel)) ggX8_copy_X8_isSheet
set_option maxRecDepth 20000 in
theorem ggX8_copy_X5_isMissing : GoodIn wsX8_copy wsX5_isMissing := goodIn_r _ [16, 17, 32, 33, 34] (by decide +kernel) (by decide +kernel)
set_option maxRecDepth 20000 in
theorem gX8_copy_X5_isMissing : GoodIn wsX8_copy (wsV RX8 198 RX5 yX5_isMissing wsX5_isMissing) := goodIn_app (goodIn_of _ (by decide +kernel)) ggX8_copy_X5_isMissing
set_option maxRecDepth 20000 in
theorem ggX8_copy_X5_hasRange : GoodIn wsX8_copy wsX5_hasRange := goodIn_r _ [21, 22, 32, 33, 34] (by decide +kernel) (by decide +kernel)
set_option maxRecDepth 20000 in
theorem gX8_copy_X5_hasRange : GoodIn wsX8_copy (wsV RX8 245 RX5 yX5_hasRange wsX5_hasRange) := goodIn_app (goodIn_of _ (by decide +kernel)) ggX8_copy_X5_hasRange
theorem dX8_copy_0 : decode cX8_copy 0 = .ok (.iload_n 1, 1) := by decide +kernel
theorem dX8_copy_1 : decode cX8_copy 1 = .ok (.invokestatic 195, 3) := by decide +kernel
theorem dX8_copy_4 : decode cX8_copy 4 = .ok (.ifCond .eq 10, 3) := by decide +kernel
theorem dX8_copy_7 : decode cX8_copy 7 = .ok (.iload_n 3, 1) := by decide +kernel
theorem dX8_copy_8 : decode cX8_copy 8 = .ok (.invokestatic 195, 3) := by decide +kernel
theorem dX8_copy_11 : decode cX8_copy 11 = .ok (.ifCond .ne 6, 3) := by decide +kernel
theorem dX8_copy_14 : decode cX8_copy 14 = .ok (.bipush (-2), 2) := by decide +kernel
theorem dX8_copy_16 : decode cX8_copy 16 = .ok (.ireturn, 1) := by decide +kernel
theorem dX8_copy_17 : decode cX8_copy 17 = .ok (.aload_n 0, 1) := by decide +kernel
theorem dX8_copy_18 : decode cX8_copy 18 = .ok (.getfield 52, 3) := by decide +kernel
theorem dX8_copy_21 : decode cX8_copy 21 = .ok (.iload_n 1, 1) := by decide +kernel
theorem dX8_copy_22 : decode cX8_copy 22 = .ok (.aaload, 1) := by decide +kernel
theorem dX8_copy_23 : decode cX8_copy 23 = .ok (.astore 6, 2) := by decide +kernel
theorem dX8_copy_25 : decode cX8_copy 25 = .ok (.aload_n 0, 1) := by decide +kernel
theorem dX8_copy_26 : decode cX8_copy 26 = .ok (.getfield 52, 3) := by decide +kernel
theorem dX8_copy_29 : decode cX8_copy 29 = .ok (.iload_n 3, 1) := by decide +kernel
theorem dX8_copy_30 : decode cX8_copy 30 = .ok (.aaload, 1) := by decide +kernel
theorem dX8_copy_31 : decode cX8_copy 31 = .ok (.astore 7, 2) := by decide +kernel
theorem dX8_copy_33 : decode cX8_copy 33 = .ok (.aload 6, 2) := by decide +kernel
theorem dX8_copy_35 : decode cX8_copy 35 = .ok (.invokevirtual 198, 3) := by decide +kernel
theorem dX8_copy_38 : decode cX8_copy 38 = .ok (.ifCond .ne 11, 3) := by decide +kernel
theorem dX8_copy_41 : decode cX8_copy 41 = .ok (.aload 7, 2) := by decide +kernel
theorem dX8_copy_43 : decode cX8_copy 43 = .ok (.invokevirtual 198, 3) := by decide +kernel
theorem dX8_copy_46 : decode cX8_copy 46 = .ok (.ifCond .eq 6, 3) := by decide +kernel
theorem dX8_copy_49 : decode cX8_copy 49 = .ok (.bipush (-11), 2) := by decide +kernel
theorem dX8_copy_51 : decode cX8_copy 51 = .ok (.ireturn, 1) := by decide +kernel
theorem dX8_copy_52 : decode cX8_copy 52 = .ok (.aload 6, 2) := by decide +kernel
theorem dX8_copy_54 : decode cX8_copy 54 = .ok (.getfield 242, 3) := by decide +kernel
theorem dX8_copy_57 : decode cX8_copy 57 = .ok (.aload 7, 2) := by decide +kernel
theorem dX8_copy_59 : decode cX8_copy 59 = .ok (.getfield 242, 3) := by decide +kernel
theorem dX8_copy_62 : decode cX8_copy 62 = .ok (.if_icmp .eq 6, 3) := by decide +kernel
theorem dX8_copy_65 : decode cX8_copy 65 = .ok (.bipush (-13), 2) := by decide +kernel
theorem dX8_copy_67 : decode cX8_copy 67 = .ok (.ireturn, 1) := by decide +kernel
theorem dX8_copy_68 : decode cX8_copy 68 = .ok (.aload 6, 2) := by decide +kernel
theorem dX8_copy_70 : decode cX8_copy 70 = .ok (.iload_n 2, 1) := by decide +kernel
theorem dX8_copy_71 : decode cX8_copy 71 = .ok (.iload 5, 2) := by decide +kernel
theorem dX8_copy_73 : decode cX8_copy 73 = .ok (.invokevirtual 245, 3) := by decide +kernel
theorem dX8_copy_76 : decode cX8_copy 76 = .ok (.ifCond .eq 15, 3) := by decide +kernel
theorem dX8_copy_79 : decode cX8_copy 79 = .ok (.aload 7, 2) := by decide +kernel
theorem dX8_copy_81 : decode cX8_copy 81 = .ok (.iload 4, 2) := by decide +kernel
theorem dX8_copy_83 : decode cX8_copy 83 = .ok (.iload 5, 2) := by decide +kernel
theorem dX8_copy_85 : decode cX8_copy 85 = .ok (.invokevirtual 245, 3) := by decide +kernel
theorem dX8_copy_88 : decode cX8_copy 88 = .ok (.ifCond .ne 6, 3) := by decide +kernel
theorem dX8_copy_91 : decode cX8_copy 91 = .ok (.bipush (-12), 2) := by decide +kernel
theorem dX8_copy_93 : decode cX8_copy 93 = .ok (.ireturn, 1) := by decide +kernel
theorem dX8_copy_94 : decode cX8_copy 94 = .ok (.aload 6, 2) := by decide +kernel
theorem dX8_copy_96 : decode cX8_copy 96 = .ok (.getfield 248, 3) := by decide +kernel
theorem dX8_copy_99 : decode cX8_copy 99 = .ok (.iload_n 2, 1) := by decide +kernel
theorem dX8_copy_100 : decode cX8_copy 100 = .ok (.aload 7, 2) := by decide +kernel
theorem dX8_copy_102 : decode cX8_copy 102 = .ok (.getfield 248, 3) := by decide +kernel
theorem dX8_copy_105 : decode cX8_copy 105 = .ok (.iload 4, 2) := by decide +kernel
theorem dX8_copy_107 : decode cX8_copy 107 = .ok (.iload 5, 2) := by decide +kernel
theorem dX8_copy_109 : decode cX8_copy 109 = .ok (.invokestatic 251, 3) := by decide +kernel
theorem dX8_copy_112 : decode cX8_copy 112 = .ok (.iload 5, 2) := by decide +kernel
theorem dX8_copy_114 : decode cX8_copy 114 = .ok (.ireturn, 1) := by decide +kernel
set_option maxRecDepth 20000 in
theorem ggX8_house_X8_isSheet : GoodIn wsX8_house wsX8_isSheet := goodIn_r _ [8] (by decide +kernel) (by decide +kernel)
set_option maxRecDepth 20000 in
theorem gX8_house_X8_isSheet : GoodIn wsX8_house (va_wsS RX8 195 yX8_isSheet wsX8_isSheet) := goodIn_app (goodIn_of _ (by decide +kernel)) ggX8_house_X8_isSheet
set_option maxRecDepth 20000 in
theorem ggX8_house_X5_isMissing : GoodIn wsX8_house wsX5_isMissing := goodIn_r _ [13, 14, 39, 40, 41] (by decide +kernel) (by decide +kernel)
set_option maxRecDepth 20000 in
theorem gX8_house_X5_isMissing : GoodIn wsX8_house (wsV RX8 198 RX5 yX5_isMissing wsX5_isMissing) := goodIn_app (goodIn_of _ (by decide +kernel)) ggX8_house_X5_isMissing
set_option maxRecDepth 20000 in
theorem ggX8_house_X5_hasRange : GoodIn wsX8_house wsX5_hasRange := goodIn_r _ [18, 19, 39, 40, 41] (by decide +kernel) (by decide +kernel)
set_option maxRecDepth 20000 in
theorem gX8_house_X5_hasRange : GoodIn wsX8_house (wsV RX8 245 RX5 yX5_hasRange wsX5_hasRange) := goodIn_app (goodIn_of _ (by decide +kernel)) ggX8_house_X5_hasRange
set_option maxRecDepth 20000 in
theorem ggX8_house_X1_admit : GoodIn wsX8_house wsX1_admit := goodIn_r _ [24, 25, 26, 27, 28, 29, 42, 43, 44, 45, 46, 47, 48, 49, 50, 51, 52] (by decide +kernel) (by decide +kernel)
set_option maxRecDepth 20000 in
theorem gX8_house_X1_admit : GoodIn wsX8_house (wsV RX8 73 RX1 yX1_admit wsX1_admit) := goodIn_app (goodIn_of _ (by decide +kernel)) ggX8_house_X1_admit
theorem dX8_house_0 : decode cX8_house 0 = .ok (.iload_n 1, 1) := by decide +kernel
theorem dX8_house_1 : decode cX8_house 1 = .ok (.invokestatic 195, 3) := by decide +kernel
theorem dX8_house_4 : decode cX8_house 4 = .ok (.ifCond .eq 23, 3) := by decide +kernel
theorem dX8_house_7 : decode cX8_house 7 = .ok (.iload_n 2, 1) := by decide +kernel
theorem dX8_house_8 : decode cX8_house 8 = .ok (.ifCond .lt 19, 3) := by decide +kernel
theorem dX8_house_11 : decode cX8_house 11 = .ok (.iload_n 2, 1) := by decide +kernel
theorem dX8_house_12 : decode cX8_house 12 = .ok (.iconst 2, 1) := by decide +kernel
theorem dX8_house_13 : decode cX8_house 13 = .ok (.if_icmp .gt 14, 3) := by decide +kernel
theorem dX8_house_16 : decode cX8_house 16 = .ok (.iload 4, 2) := by decide +kernel
theorem dX8_house_18 : decode cX8_house 18 = .ok (.ifCond .lt 9, 3) := by decide +kernel
theorem dX8_house_21 : decode cX8_house 21 = .ok (.iload 4, 2) := by decide +kernel
theorem dX8_house_23 : decode cX8_house 23 = .ok (.iconst 5, 1) := by decide +kernel
theorem dX8_house_24 : decode cX8_house 24 = .ok (.if_icmp .le 6, 3) := by decide +kernel
theorem dX8_house_27 : decode cX8_house 27 = .ok (.bipush (-2), 2) := by decide +kernel
theorem dX8_house_29 : decode cX8_house 29 = .ok (.ireturn, 1) := by decide +kernel
theorem dX8_house_30 : decode cX8_house 30 = .ok (.aload_n 0, 1) := by decide +kernel
theorem dX8_house_31 : decode cX8_house 31 = .ok (.getfield 52, 3) := by decide +kernel
theorem dX8_house_34 : decode cX8_house 34 = .ok (.iload_n 1, 1) := by decide +kernel
theorem dX8_house_35 : decode cX8_house 35 = .ok (.aaload, 1) := by decide +kernel
theorem dX8_house_36 : decode cX8_house 36 = .ok (.astore 5, 2) := by decide +kernel
theorem dX8_house_38 : decode cX8_house 38 = .ok (.aload 5, 2) := by decide +kernel
theorem dX8_house_40 : decode cX8_house 40 = .ok (.invokevirtual 198, 3) := by decide +kernel
theorem dX8_house_43 : decode cX8_house 43 = .ok (.ifCond .eq 6, 3) := by decide +kernel
theorem dX8_house_46 : decode cX8_house 46 = .ok (.bipush (-11), 2) := by decide +kernel
theorem dX8_house_48 : decode cX8_house 48 = .ok (.ireturn, 1) := by decide +kernel
theorem dX8_house_49 : decode cX8_house 49 = .ok (.aload 5, 2) := by decide +kernel
theorem dX8_house_51 : decode cX8_house 51 = .ok (.getfield 242, 3) := by decide +kernel
theorem dX8_house_54 : decode cX8_house 54 = .ok (.iload_n 2, 1) := by decide +kernel
theorem dX8_house_55 : decode cX8_house 55 = .ok (.if_icmp .eq 6, 3) := by decide +kernel
theorem dX8_house_58 : decode cX8_house 58 = .ok (.bipush (-13), 2) := by decide +kernel
theorem dX8_house_60 : decode cX8_house 60 = .ok (.ireturn, 1) := by decide +kernel
theorem dX8_house_61 : decode cX8_house 61 = .ok (.iconst 0, 1) := by decide +kernel
theorem dX8_house_62 : decode cX8_house 62 = .ok (.istore 6, 2) := by decide +kernel
theorem dX8_house_64 : decode cX8_house 64 = .ok (.iconst 0, 1) := by decide +kernel
theorem dX8_house_65 : decode cX8_house 65 = .ok (.istore 7, 2) := by decide +kernel
theorem dX8_house_67 : decode cX8_house 67 = .ok (.iload 7, 2) := by decide +kernel
theorem dX8_house_69 : decode cX8_house 69 = .ok (.iload 4, 2) := by decide +kernel
theorem dX8_house_71 : decode cX8_house 71 = .ok (.if_icmp .ge 76, 3) := by decide +kernel
theorem dX8_house_74 : decode cX8_house 74 = .ok (.aload 5, 2) := by decide +kernel
theorem dX8_house_76 : decode cX8_house 76 = .ok (.iload_n 3, 1) := by decide +kernel
theorem dX8_house_77 : decode cX8_house 77 = .ok (.iconst 3, 1) := by decide +kernel
theorem dX8_house_78 : decode cX8_house 78 = .ok (.iload 7, 2) := by decide +kernel
theorem dX8_house_80 : decode cX8_house 80 = .ok (.iconst 1, 1) := by decide +kernel
theorem dX8_house_81 : decode cX8_house 81 = .ok (.iadd, 1) := by decide +kernel
theorem dX8_house_82 : decode cX8_house 82 = .ok (.imul, 1) := by decide +kernel
theorem dX8_house_83 : decode cX8_house 83 = .ok (.invokevirtual 245, 3) := by decide +kernel
theorem dX8_house_86 : decode cX8_house 86 = .ok (.ifCond .ne 6, 3) := by decide +kernel
theorem dX8_house_89 : decode cX8_house 89 = .ok (.bipush (-12), 2) := by decide +kernel
theorem dX8_house_91 : decode cX8_house 91 = .ok (.ireturn, 1) := by decide +kernel
theorem dX8_house_92 : decode cX8_house 92 = .ok (.iload_n 3, 1) := by decide +kernel
theorem dX8_house_93 : decode cX8_house 93 = .ok (.iconst 3, 1) := by decide +kernel
theorem dX8_house_94 : decode cX8_house 94 = .ok (.iload 7, 2) := by decide +kernel
theorem dX8_house_96 : decode cX8_house 96 = .ok (.imul, 1) := by decide +kernel
theorem dX8_house_97 : decode cX8_house 97 = .ok (.iadd, 1) := by decide +kernel
theorem dX8_house_98 : decode cX8_house 98 = .ok (.istore 8, 2) := by decide +kernel
theorem dX8_house_100 : decode cX8_house 100 = .ok (.aload_n 0, 1) := by decide +kernel
theorem dX8_house_101 : decode cX8_house 101 = .ok (.getfield 10, 3) := by decide +kernel
theorem dX8_house_104 : decode cX8_house 104 = .ok (.aload 5, 2) := by decide +kernel
theorem dX8_house_106 : decode cX8_house 106 = .ok (.getfield 248, 3) := by decide +kernel
theorem dX8_house_109 : decode cX8_house 109 = .ok (.iload 8, 2) := by decide +kernel
theorem dX8_house_111 : decode cX8_house 111 = .ok (.iaload, 1) := by decide +kernel
theorem dX8_house_112 : decode cX8_house 112 = .ok (.aload 5, 2) := by decide +kernel
theorem dX8_house_114 : decode cX8_house 114 = .ok (.getfield 248, 3) := by decide +kernel
theorem dX8_house_117 : decode cX8_house 117 = .ok (.iload 8, 2) := by decide +kernel
theorem dX8_house_119 : decode cX8_house 119 = .ok (.iconst 1, 1) := by decide +kernel
theorem dX8_house_120 : decode cX8_house 120 = .ok (.iadd, 1) := by decide +kernel
theorem dX8_house_121 : decode cX8_house 121 = .ok (.iaload, 1) := by decide +kernel
theorem dX8_house_122 : decode cX8_house 122 = .ok (.aload 5, 2) := by decide +kernel
theorem dX8_house_124 : decode cX8_house 124 = .ok (.getfield 248, 3) := by decide +kernel
theorem dX8_house_127 : decode cX8_house 127 = .ok (.iload 8, 2) := by decide +kernel
theorem dX8_house_129 : decode cX8_house 129 = .ok (.iconst 2, 1) := by decide +kernel
theorem dX8_house_130 : decode cX8_house 130 = .ok (.iadd, 1) := by decide +kernel
theorem dX8_house_131 : decode cX8_house 131 = .ok (.iaload, 1) := by decide +kernel
theorem dX8_house_132 : decode cX8_house 132 = .ok (.invokevirtual 73, 3) := by decide +kernel
theorem dX8_house_135 : decode cX8_house 135 = .ok (.ifCond .lt 6, 3) := by decide +kernel
theorem dX8_house_138 : decode cX8_house 138 = .ok (.iinc 6 1, 3) := by decide +kernel
theorem dX8_house_141 : decode cX8_house 141 = .ok (.iinc 7 1, 3) := by decide +kernel
theorem dX8_house_144 : decode cX8_house 144 = .ok (.goto (-77), 3) := by decide +kernel
theorem dX8_house_147 : decode cX8_house 147 = .ok (.iload 6, 2) := by decide +kernel
theorem dX8_house_149 : decode cX8_house 149 = .ok (.ireturn, 1) := by decide +kernel
set_option maxRecDepth 20000 in
theorem ggX8_taken_X1_lodges : GoodIn wsX8_taken wsX1_lodges := goodIn_r _ [8, 9, 23, 24, 25, 26, 27, 28, 29, 30, 31, 32, 33] (by decide +kernel) (by decide +kernel)
set_option maxRecDepth 20000 in
theorem gX8_taken_X1_lodges : GoodIn wsX8_taken (wsV RX8 77 RX1 yX1_lodges wsX1_lodges) := goodIn_app (goodIn_of _ (by decide +kernel)) ggX8_taken_X1_lodges
set_option maxRecDepth 20000 in
theorem ggX8_taken_X8_isUnder : GoodIn wsX8_taken wsX8_isUnder := goodIn_r _ [13] (by decide +kernel) (by decide +kernel)
set_option maxRecDepth 20000 in
theorem gX8_taken_X8_isUnder : GoodIn wsX8_taken (va_wsS RX8 260 yX8_isUnder wsX8_isUnder) := goodIn_app (goodIn_of _ (by decide +kernel)) ggX8_taken_X8_isUnder
theorem dX8_taken_0 : decode cX8_taken 0 = .ok (.iload_n 2, 1) := by decide +kernel
theorem dX8_taken_1 : decode cX8_taken 1 = .ok (.ifCond .lt 8, 3) := by decide +kernel
theorem dX8_taken_4 : decode cX8_taken 4 = .ok (.iload_n 2, 1) := by decide +kernel
theorem dX8_taken_5 : decode cX8_taken 5 = .ok (.iconst 5, 1) := by decide +kernel
theorem dX8_taken_6 : decode cX8_taken 6 = .ok (.if_icmp .le 6, 3) := by decide +kernel
theorem dX8_taken_9 : decode cX8_taken 9 = .ok (.bipush (-2), 2) := by decide +kernel
theorem dX8_taken_11 : decode cX8_taken 11 = .ok (.ireturn, 1) := by decide +kernel
theorem dX8_taken_12 : decode cX8_taken 12 = .ok (.aload_n 0, 1) := by decide +kernel
theorem dX8_taken_13 : decode cX8_taken 13 = .ok (.getfield 10, 3) := by decide +kernel
theorem dX8_taken_16 : decode cX8_taken 16 = .ok (.iload_n 1, 1) := by decide +kernel
theorem dX8_taken_17 : decode cX8_taken 17 = .ok (.invokevirtual 77, 3) := by decide +kernel
theorem dX8_taken_20 : decode cX8_taken 20 = .ok (.ifCond .ne 6, 3) := by decide +kernel
theorem dX8_taken_23 : decode cX8_taken 23 = .ok (.bipush (-11), 2) := by decide +kernel
theorem dX8_taken_25 : decode cX8_taken 25 = .ok (.ireturn, 1) := by decide +kernel
theorem dX8_taken_26 : decode cX8_taken 26 = .ok (.aload_n 0, 1) := by decide +kernel
theorem dX8_taken_27 : decode cX8_taken 27 = .ok (.getfield 10, 3) := by decide +kernel
theorem dX8_taken_30 : decode cX8_taken 30 = .ok (.getfield 257, 3) := by decide +kernel
theorem dX8_taken_33 : decode cX8_taken 33 = .ok (.iload_n 1, 1) := by decide +kernel
theorem dX8_taken_34 : decode cX8_taken 34 = .ok (.iaload, 1) := by decide +kernel
theorem dX8_taken_35 : decode cX8_taken 35 = .ok (.iload_n 2, 1) := by decide +kernel
theorem dX8_taken_36 : decode cX8_taken 36 = .ok (.invokestatic 260, 3) := by decide +kernel
theorem dX8_taken_39 : decode cX8_taken 39 = .ok (.ifCond .eq 15, 3) := by decide +kernel
theorem dX8_taken_42 : decode cX8_taken 42 = .ok (.aload_n 0, 1) := by decide +kernel
theorem dX8_taken_43 : decode cX8_taken 43 = .ok (.getfield 10, 3) := by decide +kernel
theorem dX8_taken_46 : decode cX8_taken 46 = .ok (.getfield 263, 3) := by decide +kernel
theorem dX8_taken_49 : decode cX8_taken 49 = .ok (.iload_n 1, 1) := by decide +kernel
theorem dX8_taken_50 : decode cX8_taken 50 = .ok (.iaload, 1) := by decide +kernel
theorem dX8_taken_51 : decode cX8_taken 51 = .ok (.goto 5, 3) := by decide +kernel
theorem dX8_taken_54 : decode cX8_taken 54 = .ok (.bipush (-13), 2) := by decide +kernel
theorem dX8_taken_56 : decode cX8_taken 56 = .ok (.ireturn, 1) := by decide +kernel
theorem dX8_isCup_0 : decode cX8_isCup 0 = .ok (.iload_n 0, 1) := by decide +kernel
theorem dX8_isCup_1 : decode cX8_isCup 1 = .ok (.ifCond .lt 13, 3) := by decide +kernel
theorem dX8_isCup_4 : decode cX8_isCup 4 = .ok (.iload_n 0, 1) := by decide +kernel
theorem dX8_isCup_5 : decode cX8_isCup 5 = .ok (.bipush 6, 2) := by decide +kernel
theorem dX8_isCup_7 : decode cX8_isCup 7 = .ok (.if_icmp .ge 7, 3) := by decide +kernel
theorem dX8_isCup_10 : decode cX8_isCup 10 = .ok (.iconst 1, 1) := by decide +kernel
theorem dX8_isCup_11 : decode cX8_isCup 11 = .ok (.goto 4, 3) := by decide +kernel
theorem dX8_isCup_14 : decode cX8_isCup 14 = .ok (.iconst 0, 1) := by decide +kernel
theorem dX8_isCup_15 : decode cX8_isCup 15 = .ok (.ireturn, 1) := by decide +kernel
theorem dX8_isSheet_0 : decode cX8_isSheet 0 = .ok (.iload_n 0, 1) := by decide +kernel
theorem dX8_isSheet_1 : decode cX8_isSheet 1 = .ok (.ifCond .lt 12, 3) := by decide +kernel
theorem dX8_isSheet_4 : decode cX8_isSheet 4 = .ok (.iload_n 0, 1) := by decide +kernel
theorem dX8_isSheet_5 : decode cX8_isSheet 5 = .ok (.iconst 4, 1) := by decide +kernel
theorem dX8_isSheet_6 : decode cX8_isSheet 6 = .ok (.if_icmp .ge 7, 3) := by decide +kernel
theorem dX8_isSheet_9 : decode cX8_isSheet 9 = .ok (.iconst 1, 1) := by decide +kernel
theorem dX8_isSheet_10 : decode cX8_isSheet 10 = .ok (.goto 4, 3) := by decide +kernel
theorem dX8_isSheet_13 : decode cX8_isSheet 13 = .ok (.iconst 0, 1) := by decide +kernel
theorem dX8_isSheet_14 : decode cX8_isSheet 14 = .ok (.ireturn, 1) := by decide +kernel
theorem dX8_bounded_0 : decode cX8_bounded 0 = .ok (.iconst 0, 1) := by decide +kernel
theorem dX8_bounded_1 : decode cX8_bounded 1 = .ok (.bipush 99, 2) := by decide +kernel
theorem dX8_bounded_3 : decode cX8_bounded 3 = .ok (.iload_n 0, 1) := by decide +kernel
theorem dX8_bounded_4 : decode cX8_bounded 4 = .ok (.invokestatic 266, 3) := by decide +kernel
theorem dX8_bounded_7 : decode cX8_bounded 7 = .ok (.invokestatic 271, 3) := by decide +kernel
theorem dX8_bounded_10 : decode cX8_bounded 10 = .ok (.ireturn, 1) := by decide +kernel
theorem dX8_mostOf_0 : decode cX8_mostOf 0 = .ok (.iload_n 0, 1) := by decide +kernel
theorem dX8_mostOf_1 : decode cX8_mostOf 1 = .ok (.tableswitch 53 0 6 #[43, 47, 50, 53, 53, 53, 50], 43) := by decide +kernel
theorem dX8_mostOf_44 : decode cX8_mostOf 44 = .ok (.sipush 999, 3) := by decide +kernel
theorem dX8_mostOf_47 : decode cX8_mostOf 47 = .ok (.ireturn, 1) := by decide +kernel
theorem dX8_mostOf_48 : decode cX8_mostOf 48 = .ok (.bipush 23, 2) := by decide +kernel
theorem dX8_mostOf_50 : decode cX8_mostOf 50 = .ok (.ireturn, 1) := by decide +kernel
theorem dX8_mostOf_51 : decode cX8_mostOf 51 = .ok (.bipush 9, 2) := by decide +kernel
theorem dX8_mostOf_53 : decode cX8_mostOf 53 = .ok (.ireturn, 1) := by decide +kernel
theorem dX8_mostOf_54 : decode cX8_mostOf 54 = .ok (.bipush 99, 2) := by decide +kernel
theorem dX8_mostOf_56 : decode cX8_mostOf 56 = .ok (.ireturn, 1) := by decide +kernel
theorem dX8_isUnder_0 : decode cX8_isUnder 0 = .ok (.iload_n 1, 1) := by decide +kernel
theorem dX8_isUnder_1 : decode cX8_isUnder 1 = .ok (.tableswitch 61 0 2 #[27, 29, 45], 27) := by decide +kernel
theorem dX8_isUnder_28 : decode cX8_isUnder 28 = .ok (.iconst 1, 1) := by decide +kernel
theorem dX8_isUnder_29 : decode cX8_isUnder 29 = .ok (.ireturn, 1) := by decide +kernel
theorem dX8_isUnder_30 : decode cX8_isUnder 30 = .ok (.iload_n 0, 1) := by decide +kernel
theorem dX8_isUnder_31 : decode cX8_isUnder 31 = .ok (.iconst 1, 1) := by decide +kernel
theorem dX8_isUnder_32 : decode cX8_isUnder 32 = .ok (.if_icmp .eq 8, 3) := by decide +kernel
theorem dX8_isUnder_35 : decode cX8_isUnder 35 = .ok (.iload_n 0, 1) := by decide +kernel
theorem dX8_isUnder_36 : decode cX8_isUnder 36 = .ok (.iconst 3, 1) := by decide +kernel
theorem dX8_isUnder_37 : decode cX8_isUnder 37 = .ok (.if_icmp .ne 7, 3) := by decide +kernel
theorem dX8_isUnder_40 : decode cX8_isUnder 40 = .ok (.iconst 1, 1) := by decide +kernel
theorem dX8_isUnder_41 : decode cX8_isUnder 41 = .ok (.goto 4, 3) := by decide +kernel
theorem dX8_isUnder_44 : decode cX8_isUnder 44 = .ok (.iconst 0, 1) := by decide +kernel
theorem dX8_isUnder_45 : decode cX8_isUnder 45 = .ok (.ireturn, 1) := by decide +kernel
theorem dX8_isUnder_46 : decode cX8_isUnder 46 = .ok (.iload_n 0, 1) := by decide +kernel
theorem dX8_isUnder_47 : decode cX8_isUnder 47 = .ok (.iconst 2, 1) := by decide +kernel
theorem dX8_isUnder_48 : decode cX8_isUnder 48 = .ok (.if_icmp .eq 8, 3) := by decide +kernel
theorem dX8_isUnder_51 : decode cX8_isUnder 51 = .ok (.iload_n 0, 1) := by decide +kernel
theorem dX8_isUnder_52 : decode cX8_isUnder 52 = .ok (.iconst 4, 1) := by decide +kernel
theorem dX8_isUnder_53 : decode cX8_isUnder 53 = .ok (.if_icmp .ne 7, 3) := by decide +kernel
theorem dX8_isUnder_56 : decode cX8_isUnder 56 = .ok (.iconst 1, 1) := by decide +kernel
theorem dX8_isUnder_57 : decode cX8_isUnder 57 = .ok (.goto 4, 3) := by decide +kernel
theorem dX8_isUnder_60 : decode cX8_isUnder 60 = .ok (.iconst 0, 1) := by decide +kernel
theorem dX8_isUnder_61 : decode cX8_isUnder 61 = .ok (.ireturn, 1) := by decide +kernel
theorem dX8_isUnder_62 : decode cX8_isUnder 62 = .ok (.iload_n 0, 1) := by decide +kernel
theorem dX8_isUnder_63 : decode cX8_isUnder 63 = .ok (.iload_n 1, 1) := by decide +kernel
theorem dX8_isUnder_64 : decode cX8_isUnder 64 = .ok (.if_icmp .ne 7, 3) := by decide +kernel
theorem dX8_isUnder_67 : decode cX8_isUnder 67 = .ok (.iconst 1, 1) := by decide +kernel
theorem dX8_isUnder_68 : decode cX8_isUnder 68 = .ok (.goto 4, 3) := by decide +kernel
theorem dX8_isUnder_71 : decode cX8_isUnder 71 = .ok (.iconst 0, 1) := by decide +kernel
theorem dX8_isUnder_72 : decode cX8_isUnder 72 = .ok (.ireturn, 1) := by decide +kernel
theorem dX8_lowest_0 : decode cX8_lowest 0 = .ok (.iload_n 1, 1) := by decide +kernel
theorem dX8_lowest_1 : decode cX8_lowest 1 = .ok (.istore_n 3, 1) := by decide +kernel
theorem dX8_lowest_2 : decode cX8_lowest 2 = .ok (.iload_n 0, 1) := by decide +kernel
theorem dX8_lowest_3 : decode cX8_lowest 3 = .ok (.istore 4, 2) := by decide +kernel
theorem dX8_lowest_5 : decode cX8_lowest 5 = .ok (.iconst 0, 1) := by decide +kernel
theorem dX8_lowest_6 : decode cX8_lowest 6 = .ok (.istore 5, 2) := by decide +kernel
theorem dX8_lowest_8 : decode cX8_lowest 8 = .ok (.iload 5, 2) := by decide +kernel
theorem dX8_lowest_10 : decode cX8_lowest 10 = .ok (.bipush 50, 2) := by decide +kernel
theorem dX8_lowest_12 : decode cX8_lowest 12 = .ok (.if_icmp .ge 27, 3) := by decide +kernel
theorem dX8_lowest_15 : decode cX8_lowest 15 = .ok (.iload 4, 2) := by decide +kernel
theorem dX8_lowest_17 : decode cX8_lowest 17 = .ok (.ifCond .eq 22, 3) := by decide +kernel
theorem dX8_lowest_20 : decode cX8_lowest 20 = .ok (.iload_n 3, 1) := by decide +kernel
theorem dX8_lowest_21 : decode cX8_lowest 21 = .ok (.iload 4, 2) := by decide +kernel
theorem dX8_lowest_23 : decode cX8_lowest 23 = .ok (.irem, 1) := by decide +kernel
theorem dX8_lowest_24 : decode cX8_lowest 24 = .ok (.istore 6, 2) := by decide +kernel
theorem dX8_lowest_26 : decode cX8_lowest 26 = .ok (.iload 4, 2) := by decide +kernel
theorem dX8_lowest_28 : decode cX8_lowest 28 = .ok (.istore_n 3, 1) := by decide +kernel
theorem dX8_lowest_29 : decode cX8_lowest 29 = .ok (.iload 6, 2) := by decide +kernel
theorem dX8_lowest_31 : decode cX8_lowest 31 = .ok (.istore 4, 2) := by decide +kernel
theorem dX8_lowest_33 : decode cX8_lowest 33 = .ok (.iinc 5 1, 3) := by decide +kernel
theorem dX8_lowest_36 : decode cX8_lowest 36 = .ok (.goto (-28), 3) := by decide +kernel
theorem dX8_lowest_39 : decode cX8_lowest 39 = .ok (.iload_n 1, 1) := by decide +kernel
theorem dX8_lowest_40 : decode cX8_lowest 40 = .ok (.ifCond .eq 7, 3) := by decide +kernel
theorem dX8_lowest_43 : decode cX8_lowest 43 = .ok (.iload_n 3, 1) := by decide +kernel
theorem dX8_lowest_44 : decode cX8_lowest 44 = .ok (.ifCond .ne 7, 3) := by decide +kernel
theorem dX8_lowest_47 : decode cX8_lowest 47 = .ok (.ldc2_w 185, 3) := by decide +kernel
theorem dX8_lowest_50 : decode cX8_lowest 50 = .ok (.lreturn, 1) := by decide +kernel
theorem dX8_lowest_51 : decode cX8_lowest 51 = .ok (.iload_n 2, 1) := by decide +kernel
theorem dX8_lowest_52 : decode cX8_lowest 52 = .ok (.ifCond .ne 10, 3) := by decide +kernel
theorem dX8_lowest_55 : decode cX8_lowest 55 = .ok (.iload_n 0, 1) := by decide +kernel
theorem dX8_lowest_56 : decode cX8_lowest 56 = .ok (.iload_n 3, 1) := by decide +kernel
theorem dX8_lowest_57 : decode cX8_lowest 57 = .ok (.idiv, 1) := by decide +kernel
theorem dX8_lowest_58 : decode cX8_lowest 58 = .ok (.i2l, 1) := by decide +kernel
theorem dX8_lowest_59 : decode cX8_lowest 59 = .ok (.goto 7, 3) := by decide +kernel
theorem dX8_lowest_62 : decode cX8_lowest 62 = .ok (.iload_n 1, 1) := by decide +kernel
theorem dX8_lowest_63 : decode cX8_lowest 63 = .ok (.iload_n 3, 1) := by decide +kernel
theorem dX8_lowest_64 : decode cX8_lowest 64 = .ok (.idiv, 1) := by decide +kernel
theorem dX8_lowest_65 : decode cX8_lowest 65 = .ok (.i2l, 1) := by decide +kernel
theorem dX8_lowest_66 : decode cX8_lowest 66 = .ok (.lreturn, 1) := by decide +kernel
set_option maxRecDepth 20000 in
theorem ggX8_pouredBySeed_X1_takeFrom : GoodIn wsX8_pouredBySeed wsX1_takeFrom := goodIn_r _ [10, 11, 12, 13, 14, 15, 16, 17, 18, 19, 20, 21, 22, 23, 24, 25, 143, 144, 145, 146, 147, 148, 149, 150, 151, 152, 153] (by decide +kernel) (by decide +kernel)
set_option maxRecDepth 20000 in
theorem gX8_pouredBySeed_X1_takeFrom : GoodIn wsX8_pouredBySeed (wsV RX8 137 RX1 yX1_takeFrom wsX1_takeFrom) := goodIn_app (goodIn_of _ (by decide +kernel)) ggX8_pouredBySeed_X1_takeFrom
set_option maxRecDepth 20000 in
theorem ggX8_pouredBySeed_X1_lodges : GoodIn wsX8_pouredBySeed wsX1_lodges := goodIn_r _ [29, 14, 143, 144, 145, 146, 147, 148, 149, 150, 151, 152, 153] (by decide +kernel) (by decide +kernel)
set_option maxRecDepth 20000 in
theorem gX8_pouredBySeed_X1_lodges : GoodIn wsX8_pouredBySeed (wsV RX8 77 RX1 yX1_lodges wsX1_lodges) := goodIn_app (goodIn_of _ (by decide +kernel)) ggX8_pouredBySeed_X1_lodges
set_option maxRecDepth 20000 in
theorem ggX8_pouredBySeed_X1_bringNews : GoodIn wsX8_pouredBySeed wsX1_bringNews := goodIn_r _ [33, 22, 21, 34, 27, 28, 9, 29, 14, 35, 36, 37, 38, 39, 40, 41, 42, 43, 44, 143, 144, 145, 146, 147, 148, 149, 150, 151, 152, 153] (by decide +kernel) (by decide +kernel)
set_option maxRecDepth 20000 in
theorem gX8_pouredBySeed_X1_bringNews : GoodIn wsX8_pouredBySeed (wsV RX8 130 RX1 yX1_bringNews wsX1_bringNews) := goodIn_app (goodIn_of _ (by decide +kernel)) ggX8_pouredBySeed_X1_bringNews
set_option maxRecDepth 20000 in
theorem ggX8_pouredBySeed_X3_pass : GoodIn wsX8_pouredBySeed wsX3_pass := goodIn_r _ [49, 50, 51, 52, 53, 54, 48, 55, 56, 57, 58, 59, 60, 61, 62, 39, 40, 41, 63, 64, 65, 66, 67, 68, 69, 70, 71, 27, 28, 9, 29, 14, 72, 73, 74, 75, 76, 77, 78, 79, 80, 81, 82, 83, 84, 85, 86, 87, 88, 89, 90, 91, 92, 93, 94, 95, 96, 97, 98, 99, 100, 101, 102, 103, 104, 105, 106, 107, 108, 35, 36, 37, 38, 42, 43, 44, 109, 110, 111, 112, 113, 114, 115, 116, 117, 118, 119, 120, 121, 122, 123, 124, 125, 126, 127, 128, 129, 130, 131, 132, 133, 143, 144, 145, 146, 147, 148, 149, 150, 151, 152, 153, 154, 155, 156, 157, 158, 159, 160] (by decide +kernel) (by decide +kernel)
set_option maxRecDepth 20000 in
theorem gX8_pouredBySeed_X3_pass : GoodIn wsX8_pouredBySeed (wsV RX8 122 RX3 yX3_pass wsX3_pass) := goodIn_app (goodIn_of _ (by decide +kernel)) ggX8_pouredBySeed_X3_pass
theorem dX8_pouredBySeed_0 : decode cX8_pouredBySeed 0 = .ok (.aload_n 0, 1) := by decide +kernel
theorem dX8_pouredBySeed_1 : decode cX8_pouredBySeed 1 = .ok (.getfield 16, 3) := by decide +kernel
theorem dX8_pouredBySeed_4 : decode cX8_pouredBySeed 4 = .ok (.aload_n 0, 1) := by decide +kernel
theorem dX8_pouredBySeed_5 : decode cX8_pouredBySeed 5 = .ok (.getfield 10, 3) := by decide +kernel
theorem dX8_pouredBySeed_8 : decode cX8_pouredBySeed 8 = .ok (.invokevirtual 137, 3) := by decide +kernel
theorem dX8_pouredBySeed_11 : decode cX8_pouredBySeed 11 = .ok (.iconst 0, 1) := by decide +kernel
theorem dX8_pouredBySeed_12 : decode cX8_pouredBySeed 12 = .ok (.istore_n 3, 1) := by decide +kernel
theorem dX8_pouredBySeed_13 : decode cX8_pouredBySeed 13 = .ok (.iload_n 1, 1) := by decide +kernel
theorem dX8_pouredBySeed_14 : decode cX8_pouredBySeed 14 = .ok (.istore 4, 2) := by decide +kernel
theorem dX8_pouredBySeed_16 : decode cX8_pouredBySeed 16 = .ok (.iconst 0, 1) := by decide +kernel
theorem dX8_pouredBySeed_17 : decode cX8_pouredBySeed 17 = .ok (.istore 5, 2) := by decide +kernel
theorem dX8_pouredBySeed_19 : decode cX8_pouredBySeed 19 = .ok (.iload 5, 2) := by decide +kernel
theorem dX8_pouredBySeed_21 : decode cX8_pouredBySeed 21 = .ok (.iload_n 2, 1) := by decide +kernel
theorem dX8_pouredBySeed_22 : decode cX8_pouredBySeed 22 = .ok (.if_icmp .ge 70, 3) := by decide +kernel
theorem dX8_pouredBySeed_25 : decode cX8_pouredBySeed 25 = .ok (.iload 4, 2) := by decide +kernel
theorem dX8_pouredBySeed_27 : decode cX8_pouredBySeed 27 = .ok (.ldc_w 274, 3) := by decide +kernel
theorem dX8_pouredBySeed_30 : decode cX8_pouredBySeed 30 = .ok (.imul, 1) := by decide +kernel
theorem dX8_pouredBySeed_31 : decode cX8_pouredBySeed 31 = .ok (.sipush 12345, 3) := by decide +kernel
theorem dX8_pouredBySeed_34 : decode cX8_pouredBySeed 34 = .ok (.iadd, 1) := by decide +kernel
theorem dX8_pouredBySeed_35 : decode cX8_pouredBySeed 35 = .ok (.istore 4, 2) := by decide +kernel
theorem dX8_pouredBySeed_37 : decode cX8_pouredBySeed 37 = .ok (.iload 4, 2) := by decide +kernel
theorem dX8_pouredBySeed_39 : decode cX8_pouredBySeed 39 = .ok (.bipush 9, 2) := by decide +kernel
theorem dX8_pouredBySeed_41 : decode cX8_pouredBySeed 41 = .ok (.iushr, 1) := by decide +kernel
theorem dX8_pouredBySeed_42 : decode cX8_pouredBySeed 42 = .ok (.bipush 8, 2) := by decide +kernel
theorem dX8_pouredBySeed_44 : decode cX8_pouredBySeed 44 = .ok (.irem, 1) := by decide +kernel
theorem dX8_pouredBySeed_45 : decode cX8_pouredBySeed 45 = .ok (.istore 6, 2) := by decide +kernel
theorem dX8_pouredBySeed_47 : decode cX8_pouredBySeed 47 = .ok (.aload_n 0, 1) := by decide +kernel
theorem dX8_pouredBySeed_48 : decode cX8_pouredBySeed 48 = .ok (.getfield 16, 3) := by decide +kernel
theorem dX8_pouredBySeed_51 : decode cX8_pouredBySeed 51 = .ok (.iload 6, 2) := by decide +kernel
theorem dX8_pouredBySeed_53 : decode cX8_pouredBySeed 53 = .ok (.invokevirtual 77, 3) := by decide +kernel
theorem dX8_pouredBySeed_56 : decode cX8_pouredBySeed 56 = .ok (.ifCond .eq 12, 3) := by decide +kernel
theorem dX8_pouredBySeed_59 : decode cX8_pouredBySeed 59 = .ok (.aload_n 0, 1) := by decide +kernel
theorem dX8_pouredBySeed_60 : decode cX8_pouredBySeed 60 = .ok (.getfield 16, 3) := by decide +kernel
theorem dX8_pouredBySeed_63 : decode cX8_pouredBySeed 63 = .ok (.iload 6, 2) := by decide +kernel
theorem dX8_pouredBySeed_65 : decode cX8_pouredBySeed 65 = .ok (.invokevirtual 130, 3) := by decide +kernel
theorem dX8_pouredBySeed_68 : decode cX8_pouredBySeed 68 = .ok (.iload_n 3, 1) := by decide +kernel
theorem dX8_pouredBySeed_69 : decode cX8_pouredBySeed 69 = .ok (.aload_n 0, 1) := by decide +kernel
theorem dX8_pouredBySeed_70 : decode cX8_pouredBySeed 70 = .ok (.getfield 39, 3) := by decide +kernel
theorem dX8_pouredBySeed_73 : decode cX8_pouredBySeed 73 = .ok (.aload_n 0, 1) := by decide +kernel
theorem dX8_pouredBySeed_74 : decode cX8_pouredBySeed 74 = .ok (.getfield 32, 3) := by decide +kernel
theorem dX8_pouredBySeed_77 : decode cX8_pouredBySeed 77 = .ok (.aload_n 0, 1) := by decide +kernel
theorem dX8_pouredBySeed_78 : decode cX8_pouredBySeed 78 = .ok (.getfield 16, 3) := by decide +kernel
theorem dX8_pouredBySeed_81 : decode cX8_pouredBySeed 81 = .ok (.invokevirtual 122, 3) := by decide +kernel
theorem dX8_pouredBySeed_84 : decode cX8_pouredBySeed 84 = .ok (.iadd, 1) := by decide +kernel
theorem dX8_pouredBySeed_85 : decode cX8_pouredBySeed 85 = .ok (.istore_n 3, 1) := by decide +kernel
theorem dX8_pouredBySeed_86 : decode cX8_pouredBySeed 86 = .ok (.iinc 5 1, 3) := by decide +kernel
theorem dX8_pouredBySeed_89 : decode cX8_pouredBySeed 89 = .ok (.goto (-70), 3) := by decide +kernel
theorem dX8_pouredBySeed_92 : decode cX8_pouredBySeed 92 = .ok (.iload_n 3, 1) := by decide +kernel
theorem dX8_pouredBySeed_93 : decode cX8_pouredBySeed 93 = .ok (.ireturn, 1) := by decide +kernel
set_option maxRecDepth 20000 in
theorem ggX8_firstOtherwise_X2_yieldOf : GoodIn wsX8_firstOtherwise wsX2_yieldOf := goodIn_r _ [10, 11, 12, 13, 14, 15, 16, 17, 18, 19, 20, 21, 9, 22, 23, 24, 25, 26, 27, 28, 29, 30, 31, 32, 33, 34, 35, 36, 37, 38, 39, 40, 41, 42, 43, 44, 45, 46, 47, 48, 49, 50, 51, 52, 53, 54, 55, 56, 57, 58, 59, 60, 61, 62, 63, 64, 65, 66, 67, 68, 69, 70, 71, 72, 73, 74, 75, 96, 97, 98, 99, 100, 101, 102, 103, 104, 105, 106, 107, 108, 109, 110, 111, 112] (by decide +kernel) (by decide +kernel)
set_option maxRecDepth 20000 in
theorem gX8_firstOtherwise_X2_yieldOf : GoodIn wsX8_firstOtherwise (wsV RX8 81 RX2 yX2_yieldOf wsX2_yieldOf) := goodIn_app (goodIn_of _ (by decide +kernel)) ggX8_firstOtherwise_X2_yieldOf
set_option maxRecDepth 20000 in
theorem ggX8_firstOtherwise_X2_easeOne : GoodIn wsX8_firstOtherwise wsX2_easeOne := goodIn_r _ [79, 11, 13, 14, 15, 16, 17, 18, 80, 81, 82, 9, 83, 12, 72, 70, 71, 75, 19, 20, 21, 22, 23, 24, 25, 26, 27, 28, 29, 30, 31, 32, 33, 34, 35, 36, 37, 38, 39, 40, 41, 42, 43, 44, 45, 46, 47, 48, 49, 50, 51, 52, 53, 54, 55, 56, 57, 58, 59, 60, 61, 62, 63, 64, 65, 96, 97, 98, 99, 100, 101, 102, 103, 104, 105, 106, 107, 108, 109, 110, 111, 112] (by decide +kernel) (by decide +kernel)
set_option maxRecDepth 20000 in
theorem gX8_firstOtherwise_X2_easeOne : GoodIn wsX8_firstOtherwise (wsV RX8 144 RX2 yX2_easeOne wsX2_easeOne) := goodIn_app (goodIn_of _ (by decide +kernel)) ggX8_firstOtherwise_X2_easeOne
theorem dX8_firstOtherwise_0 : decode cX8_firstOtherwise 0 = .ok (.iconst 0, 1) := by decide +kernel
theorem dX8_firstOtherwise_1 : decode cX8_firstOtherwise 1 = .ok (.istore_n 3, 1) := by decide +kernel
theorem dX8_firstOtherwise_2 : decode cX8_firstOtherwise 2 = .ok (.iload_n 3, 1) := by decide +kernel
theorem dX8_firstOtherwise_3 : decode cX8_firstOtherwise 3 = .ok (.aload_n 1, 1) := by decide +kernel
theorem dX8_firstOtherwise_4 : decode cX8_firstOtherwise 4 = .ok (.getfield 201, 3) := by decide +kernel
theorem dX8_firstOtherwise_7 : decode cX8_firstOtherwise 7 = .ok (.if_icmp .ge 57, 3) := by decide +kernel
theorem dX8_firstOtherwise_10 : decode cX8_firstOtherwise 10 = .ok (.aload_n 1, 1) := by decide +kernel
theorem dX8_firstOtherwise_11 : decode cX8_firstOtherwise 11 = .ok (.getfield 248, 3) := by decide +kernel
theorem dX8_firstOtherwise_14 : decode cX8_firstOtherwise 14 = .ok (.iload_n 3, 1) := by decide +kernel
theorem dX8_firstOtherwise_15 : decode cX8_firstOtherwise 15 = .ok (.iaload, 1) := by decide +kernel
theorem dX8_firstOtherwise_16 : decode cX8_firstOtherwise 16 = .ok (.aload_n 0, 1) := by decide +kernel
theorem dX8_firstOtherwise_17 : decode cX8_firstOtherwise 17 = .ok (.getfield 32, 3) := by decide +kernel
theorem dX8_firstOtherwise_20 : decode cX8_firstOtherwise 20 = .ok (.aload_n 0, 1) := by decide +kernel
theorem dX8_firstOtherwise_21 : decode cX8_firstOtherwise 21 = .ok (.getfield 16, 3) := by decide +kernel
theorem dX8_firstOtherwise_24 : decode cX8_firstOtherwise 24 = .ok (.iload_n 2, 1) := by decide +kernel
theorem dX8_firstOtherwise_25 : decode cX8_firstOtherwise 25 = .ok (.invokevirtual 81, 3) := by decide +kernel
theorem dX8_firstOtherwise_28 : decode cX8_firstOtherwise 28 = .ok (.if_icmp .eq 5, 3) := by decide +kernel
theorem dX8_firstOtherwise_31 : decode cX8_firstOtherwise 31 = .ok (.iload_n 3, 1) := by decide +kernel
theorem dX8_firstOtherwise_32 : decode cX8_firstOtherwise 32 = .ok (.ireturn, 1) := by decide +kernel
theorem dX8_firstOtherwise_33 : decode cX8_firstOtherwise 33 = .ok (.aload_n 0, 1) := by decide +kernel
theorem dX8_firstOtherwise_34 : decode cX8_firstOtherwise 34 = .ok (.getfield 32, 3) := by decide +kernel
theorem dX8_firstOtherwise_37 : decode cX8_firstOtherwise 37 = .ok (.aload_n 0, 1) := by decide +kernel
theorem dX8_firstOtherwise_38 : decode cX8_firstOtherwise 38 = .ok (.getfield 16, 3) := by decide +kernel
theorem dX8_firstOtherwise_41 : decode cX8_firstOtherwise 41 = .ok (.iload_n 2, 1) := by decide +kernel
theorem dX8_firstOtherwise_42 : decode cX8_firstOtherwise 42 = .ok (.invokevirtual 144, 3) := by decide +kernel
theorem dX8_firstOtherwise_45 : decode cX8_firstOtherwise 45 = .ok (.aload_n 0, 1) := by decide +kernel
theorem dX8_firstOtherwise_46 : decode cX8_firstOtherwise 46 = .ok (.getfield 16, 3) := by decide +kernel
theorem dX8_firstOtherwise_49 : decode cX8_firstOtherwise 49 = .ok (.dup, 1) := by decide +kernel
theorem dX8_firstOtherwise_50 : decode cX8_firstOtherwise 50 = .ok (.getfield 119, 3) := by decide +kernel
theorem dX8_firstOtherwise_53 : decode cX8_firstOtherwise 53 = .ok (.iconst 1, 1) := by decide +kernel
theorem dX8_firstOtherwise_54 : decode cX8_firstOtherwise 54 = .ok (.iadd, 1) := by decide +kernel
theorem dX8_firstOtherwise_55 : decode cX8_firstOtherwise 55 = .ok (.putfield 119, 3) := by decide +kernel
theorem dX8_firstOtherwise_58 : decode cX8_firstOtherwise 58 = .ok (.iinc 3 1, 3) := by decide +kernel
theorem dX8_firstOtherwise_61 : decode cX8_firstOtherwise 61 = .ok (.goto (-59), 3) := by decide +kernel
theorem dX8_firstOtherwise_64 : decode cX8_firstOtherwise 64 = .ok (.iconst (-1), 1) := by decide +kernel
theorem dX8_firstOtherwise_65 : decode cX8_firstOtherwise 65 = .ok (.ireturn, 1) := by decide +kernel
set_option maxRecDepth 20000 in
theorem ggX8_fits_X1_takeFrom : GoodIn wsX8_fits wsX1_takeFrom := goodIn_r _ [7, 8, 9, 10, 11, 12, 13, 14, 15, 16, 17, 18, 19, 20, 21, 22, 127, 128, 129, 130, 131, 132, 133, 134, 135, 136, 137] (by decide +kernel) (by decide +kernel)
set_option maxRecDepth 20000 in
theorem gX8_fits_X1_takeFrom : GoodIn wsX8_fits (wsV RX8 137 RX1 yX1_takeFrom wsX1_takeFrom) := goodIn_app (goodIn_of _ (by decide +kernel)) ggX8_fits_X1_takeFrom
set_option maxRecDepth 20000 in
theorem ggX8_fits_X1_write : GoodIn wsX8_fits wsX1_write := goodIn_r _ [26, 8, 9, 17, 18, 19, 20, 21, 12, 22, 10, 27, 28, 29, 6, 30, 31, 32, 33, 34, 11, 35, 36, 37, 127, 128, 129, 130, 131, 132, 133, 134, 135, 136, 137] (by decide +kernel) (by decide +kernel)
set_option maxRecDepth 20000 in
theorem gX8_fits_X1_write : GoodIn wsX8_fits (wsV RX8 69 RX1 yX1_write wsX1_write) := goodIn_app (goodIn_of _ (by decide +kernel)) ggX8_fits_X1_write
set_option maxRecDepth 20000 in
theorem ggX8_fits_X8_firstOtherwise : GoodIn wsX8_fits wsX8_firstOtherwise := goodIn_r _ [41, 42, 43, 44, 1, 45, 46, 47, 48, 49, 50, 51, 52, 53, 32, 33, 6, 34, 11, 54, 55, 56, 57, 58, 59, 60, 61, 62, 63, 64, 65, 66, 67, 68, 69, 70, 71, 72, 73, 74, 75, 76, 77, 78, 79, 80, 81, 82, 83, 84, 85, 86, 87, 88, 89, 90, 91, 36, 92, 93, 94, 95, 96, 97, 98, 99, 100, 101, 102, 103, 104, 105, 106, 107, 108, 109, 110, 111, 112, 113, 114, 115, 116, 117, 138, 139, 140, 118, 119, 120, 121, 122, 123, 124, 125, 126, 127, 128, 129, 130, 131, 132, 133, 134, 135, 136, 137, 141, 142, 143, 144, 145, 146] (by decide +kernel) (by decide +kernel)
set_option maxRecDepth 20000 in
theorem gX8_fits_X8_firstOtherwise : GoodIn wsX8_fits (wsV RX8 202 RX8 yX8_firstOtherwise wsX8_firstOtherwise) := goodIn_app (goodIn_of _ (by decide +kernel)) ggX8_fits_X8_firstOtherwise
theorem dX8_fits_0 : decode cX8_fits 0 = .ok (.aload_n 0, 1) := by decide +kernel
theorem dX8_fits_1 : decode cX8_fits 1 = .ok (.getfield 16, 3) := by decide +kernel
theorem dX8_fits_4 : decode cX8_fits 4 = .ok (.aload_n 0, 1) := by decide +kernel
theorem dX8_fits_5 : decode cX8_fits 5 = .ok (.getfield 10, 3) := by decide +kernel
theorem dX8_fits_8 : decode cX8_fits 8 = .ok (.invokevirtual 137, 3) := by decide +kernel
theorem dX8_fits_11 : decode cX8_fits 11 = .ok (.aload_n 0, 1) := by decide +kernel
theorem dX8_fits_12 : decode cX8_fits 12 = .ok (.getfield 16, 3) := by decide +kernel
theorem dX8_fits_15 : decode cX8_fits 15 = .ok (.iload_n 3, 1) := by decide +kernel
theorem dX8_fits_16 : decode cX8_fits 16 = .ok (.iload_n 2, 1) := by decide +kernel
theorem dX8_fits_17 : decode cX8_fits 17 = .ok (.iload 4, 2) := by decide +kernel
theorem dX8_fits_19 : decode cX8_fits 19 = .ok (.invokevirtual 69, 3) := by decide +kernel
theorem dX8_fits_22 : decode cX8_fits 22 = .ok (.aload_n 0, 1) := by decide +kernel
theorem dX8_fits_23 : decode cX8_fits 23 = .ok (.aload_n 1, 1) := by decide +kernel
theorem dX8_fits_24 : decode cX8_fits 24 = .ok (.iload_n 2, 1) := by decide +kernel
theorem dX8_fits_25 : decode cX8_fits 25 = .ok (.invokevirtual 202, 3) := by decide +kernel
theorem dX8_fits_28 : decode cX8_fits 28 = .ok (.iconst (-1), 1) := by decide +kernel
theorem dX8_fits_29 : decode cX8_fits 29 = .ok (.if_icmp .ne 7, 3) := by decide +kernel
theorem dX8_fits_32 : decode cX8_fits 32 = .ok (.iconst 1, 1) := by decide +kernel
theorem dX8_fits_33 : decode cX8_fits 33 = .ok (.goto 4, 3) := by decide +kernel
theorem dX8_fits_36 : decode cX8_fits 36 = .ok (.iconst 0, 1) := by decide +kernel
theorem dX8_fits_37 : decode cX8_fits 37 = .ok (.ireturn, 1) := by decide +kernel
set_option maxRecDepth 20000 in
theorem ggX8_fitting_X8_fits : GoodIn wsX8_fitting wsX8_fits := goodIn_r _ [5, 6, 7, 8, 9, 10, 11, 12, 13, 14, 15, 16, 17, 18, 19, 20, 21, 22, 23, 24, 25, 26, 27, 28, 29, 30, 31, 32, 33, 34, 35, 36, 37, 38, 39, 40, 4, 41, 42, 43, 44, 45, 46, 47, 48, 49, 50, 51, 52, 53, 54, 55, 56, 57, 58, 59, 60, 61, 62, 63, 64, 65, 66, 67, 68, 69, 70, 71, 72, 73, 74, 75, 76, 77, 78, 79, 80, 81, 82, 83, 84, 85, 86, 87, 88, 89, 90, 91, 92, 93, 94, 95, 96, 97, 98, 99, 100, 101, 102, 103, 104, 105, 106, 107, 108, 109, 110, 111, 112, 113, 114, 115, 116, 117, 118, 119, 120, 121, 122, 123, 124, 125, 126, 127, 128, 129, 130, 131, 132, 133, 134, 135, 136, 137, 138, 139, 140, 141, 142, 143, 144, 145, 146, 147, 148, 149, 150] (by decide +kernel) (by decide +kernel)
set_option maxRecDepth 20000 in
theorem gX8_fitting_X8_fits : GoodIn wsX8_fitting (wsV RX8 275 RX8 yX8_fits wsX8_fits) := goodIn_app (goodIn_of _ (by decide +kernel)) ggX8_fitting_X8_fits
theorem dX8_fitting_0 : decode cX8_fitting 0 = .ok (.iconst 0, 1) := by decide +kernel
theorem dX8_fitting_1 : decode cX8_fitting 1 = .ok (.istore 5, 2) := by decide +kernel
theorem dX8_fitting_3 : decode cX8_fitting 3 = .ok (.iconst 0, 1) := by decide +kernel
theorem dX8_fitting_4 : decode cX8_fitting 4 = .ok (.istore 6, 2) := by decide +kernel
theorem dX8_fitting_6 : decode cX8_fitting 6 = .ok (.iload 6, 2) := by decide +kernel
theorem dX8_fitting_8 : decode cX8_fitting 8 = .ok (.iload 4, 2) := by decide +kernel
theorem dX8_fitting_10 : decode cX8_fitting 10 = .ok (.if_icmp .gt 30, 3) := by decide +kernel
theorem dX8_fitting_13 : decode cX8_fitting 13 = .ok (.aload_n 0, 1) := by decide +kernel
theorem dX8_fitting_14 : decode cX8_fitting 14 = .ok (.aload_n 1, 1) := by decide +kernel
theorem dX8_fitting_15 : decode cX8_fitting 15 = .ok (.iload_n 2, 1) := by decide +kernel
theorem dX8_fitting_16 : decode cX8_fitting 16 = .ok (.iload_n 3, 1) := by decide +kernel
theorem dX8_fitting_17 : decode cX8_fitting 17 = .ok (.iload 6, 2) := by decide +kernel
theorem dX8_fitting_19 : decode cX8_fitting 19 = .ok (.invokevirtual 275, 3) := by decide +kernel
theorem dX8_fitting_22 : decode cX8_fitting 22 = .ok (.ifCond .eq 12, 3) := by decide +kernel
theorem dX8_fitting_25 : decode cX8_fitting 25 = .ok (.iload 5, 2) := by decide +kernel
theorem dX8_fitting_27 : decode cX8_fitting 27 = .ok (.iconst 1, 1) := by decide +kernel
theorem dX8_fitting_28 : decode cX8_fitting 28 = .ok (.iload 6, 2) := by decide +kernel
theorem dX8_fitting_30 : decode cX8_fitting 30 = .ok (.ishl, 1) := by decide +kernel
theorem dX8_fitting_31 : decode cX8_fitting 31 = .ok (.ior, 1) := by decide +kernel
theorem dX8_fitting_32 : decode cX8_fitting 32 = .ok (.istore 5, 2) := by decide +kernel
