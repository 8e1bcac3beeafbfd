theorem dX9_atom_110 : decode cX9_atom 110 = .ok (.aload_n 0, 1) := by decide +kernel
theorem dX9_atom_111 : decode cX9_atom 111 = .ok (.getfield 163, 3) := by decide +kernel
theorem dX9_atom_114 : decode cX9_atom 114 = .ok (.l2i, 1) := by decide +kernel
theorem dX9_atom_115 : decode cX9_atom 115 = .ok (.istore_n 1, 1) := by decide +kernel
theorem dX9_atom_116 : decode cX9_atom 116 = .ok (.aload_n 0, 1) := by decide +kernel
theorem dX9_atom_117 : decode cX9_atom 117 = .ok (.invokevirtual 183, 3) := by decide +kernel
theorem dX9_atom_120 : decode cX9_atom 120 = .ok (.goto 41, 3) := by decide +kernel
theorem dX9_atom_123 : decode cX9_atom 123 = .ok (.aload_n 0, 1) := by decide +kernel
theorem dX9_atom_124 : decode cX9_atom 124 = .ok (.getfield 167, 3) := by decide +kernel
theorem dX9_atom_127 : decode cX9_atom 127 = .ok (.ifCond .ne 30, 3) := by decide +kernel
theorem dX9_atom_130 : decode cX9_atom 130 = .ok (.aload_n 0, 1) := by decide +kernel
theorem dX9_atom_131 : decode cX9_atom 131 = .ok (.getfield 152, 3) := by decide +kernel
theorem dX9_atom_134 : decode cX9_atom 134 = .ok (.iconst 1, 1) := by decide +kernel
theorem dX9_atom_135 : decode cX9_atom 135 = .ok (.if_icmp .ne 22, 3) := by decide +kernel
theorem dX9_atom_138 : decode cX9_atom 138 = .ok (.aload_n 0, 1) := by decide +kernel
theorem dX9_atom_139 : decode cX9_atom 139 = .ok (.invokevirtual 222, 3) := by decide +kernel
theorem dX9_atom_142 : decode cX9_atom 142 = .ok (.istore_n 1, 1) := by decide +kernel
theorem dX9_atom_143 : decode cX9_atom 143 = .ok (.aload_n 0, 1) := by decide +kernel
theorem dX9_atom_144 : decode cX9_atom 144 = .ok (.getfield 167, 3) := by decide +kernel
theorem dX9_atom_147 : decode cX9_atom 147 = .ok (.ifCond .ne 14, 3) := by decide +kernel
theorem dX9_atom_150 : decode cX9_atom 150 = .ok (.aload_n 0, 1) := by decide +kernel
theorem dX9_atom_151 : decode cX9_atom 151 = .ok (.invokevirtual 183, 3) := by decide +kernel
theorem dX9_atom_154 : decode cX9_atom 154 = .ok (.goto 7, 3) := by decide +kernel
theorem dX9_atom_157 : decode cX9_atom 157 = .ok (.aload_n 0, 1) := by decide +kernel
theorem dX9_atom_158 : decode cX9_atom 158 = .ok (.invokevirtual 180, 3) := by decide +kernel
theorem dX9_atom_161 : decode cX9_atom 161 = .ok (.iload_n 1, 1) := by decide +kernel
theorem dX9_atom_162 : decode cX9_atom 162 = .ok (.ireturn, 1) := by decide +kernel
theorem dX9_term_0 : decode cX9_term 0 = .ok (.aload_n 0, 1) := by decide +kernel
theorem dX9_term_1 : decode cX9_term 1 = .ok (.invokevirtual 215, 3) := by decide +kernel
theorem dX9_term_4 : decode cX9_term 4 = .ok (.istore_n 1, 1) := by decide +kernel
theorem dX9_term_5 : decode cX9_term 5 = .ok (.aload_n 0, 1) := by decide +kernel
theorem dX9_term_6 : decode cX9_term 6 = .ok (.bipush 42, 2) := by decide +kernel
theorem dX9_term_8 : decode cX9_term 8 = .ok (.invokevirtual 208, 3) := by decide +kernel
theorem dX9_term_11 : decode cX9_term 11 = .ok (.ifCond .eq 17, 3) := by decide +kernel
theorem dX9_term_14 : decode cX9_term 14 = .ok (.aload_n 0, 1) := by decide +kernel
theorem dX9_term_15 : decode cX9_term 15 = .ok (.invokevirtual 183, 3) := by decide +kernel
theorem dX9_term_18 : decode cX9_term 18 = .ok (.iload_n 1, 1) := by decide +kernel
theorem dX9_term_19 : decode cX9_term 19 = .ok (.aload_n 0, 1) := by decide +kernel
theorem dX9_term_20 : decode cX9_term 20 = .ok (.invokevirtual 215, 3) := by decide +kernel
theorem dX9_term_23 : decode cX9_term 23 = .ok (.imul, 1) := by decide +kernel
theorem dX9_term_24 : decode cX9_term 24 = .ok (.istore_n 1, 1) := by decide +kernel
theorem dX9_term_25 : decode cX9_term 25 = .ok (.goto (-20), 3) := by decide +kernel
theorem dX9_term_28 : decode cX9_term 28 = .ok (.iload_n 1, 1) := by decide +kernel
theorem dX9_term_29 : decode cX9_term 29 = .ok (.ireturn, 1) := by decide +kernel
theorem dX9_added_0 : decode cX9_added 0 = .ok (.aload_n 0, 1) := by decide +kernel
theorem dX9_added_1 : decode cX9_added 1 = .ok (.invokevirtual 225, 3) := by decide +kernel
theorem dX9_added_4 : decode cX9_added 4 = .ok (.istore_n 1, 1) := by decide +kernel
theorem dX9_added_5 : decode cX9_added 5 = .ok (.aload_n 0, 1) := by decide +kernel
theorem dX9_added_6 : decode cX9_added 6 = .ok (.bipush 43, 2) := by decide +kernel
theorem dX9_added_8 : decode cX9_added 8 = .ok (.invokevirtual 208, 3) := by decide +kernel
theorem dX9_added_11 : decode cX9_added 11 = .ok (.ifCond .ne 12, 3) := by decide +kernel
theorem dX9_added_14 : decode cX9_added 14 = .ok (.aload_n 0, 1) := by decide +kernel
theorem dX9_added_15 : decode cX9_added 15 = .ok (.bipush 45, 2) := by decide +kernel
theorem dX9_added_17 : decode cX9_added 17 = .ok (.invokevirtual 208, 3) := by decide +kernel
theorem dX9_added_20 : decode cX9_added 20 = .ok (.ifCond .eq 46, 3) := by decide +kernel
theorem dX9_added_23 : decode cX9_added 23 = .ok (.aload_n 0, 1) := by decide +kernel
theorem dX9_added_24 : decode cX9_added 24 = .ok (.getfield 163, 3) := by decide +kernel
theorem dX9_added_27 : decode cX9_added 27 = .ok (.ldc2_w 228, 3) := by decide +kernel
theorem dX9_added_30 : decode cX9_added 30 = .ok (.lcmp, 1) := by decide +kernel
theorem dX9_added_31 : decode cX9_added 31 = .ok (.ifCond .ne 7, 3) := by decide +kernel
theorem dX9_added_34 : decode cX9_added 34 = .ok (.iconst 1, 1) := by decide +kernel
theorem dX9_added_35 : decode cX9_added 35 = .ok (.goto 4, 3) := by decide +kernel
theorem dX9_added_38 : decode cX9_added 38 = .ok (.iconst 0, 1) := by decide +kernel
theorem dX9_added_39 : decode cX9_added 39 = .ok (.istore_n 2, 1) := by decide +kernel
theorem dX9_added_40 : decode cX9_added 40 = .ok (.aload_n 0, 1) := by decide +kernel
theorem dX9_added_41 : decode cX9_added 41 = .ok (.invokevirtual 183, 3) := by decide +kernel
theorem dX9_added_44 : decode cX9_added 44 = .ok (.aload_n 0, 1) := by decide +kernel
theorem dX9_added_45 : decode cX9_added 45 = .ok (.invokevirtual 225, 3) := by decide +kernel
theorem dX9_added_48 : decode cX9_added 48 = .ok (.istore_n 3, 1) := by decide +kernel
theorem dX9_added_49 : decode cX9_added 49 = .ok (.iload_n 2, 1) := by decide +kernel
theorem dX9_added_50 : decode cX9_added 50 = .ok (.ifCond .eq 9, 3) := by decide +kernel
theorem dX9_added_53 : decode cX9_added 53 = .ok (.iload_n 1, 1) := by decide +kernel
theorem dX9_added_54 : decode cX9_added 54 = .ok (.iload_n 3, 1) := by decide +kernel
theorem dX9_added_55 : decode cX9_added 55 = .ok (.iadd, 1) := by decide +kernel
theorem dX9_added_56 : decode cX9_added 56 = .ok (.goto 6, 3) := by decide +kernel
theorem dX9_added_59 : decode cX9_added 59 = .ok (.iload_n 1, 1) := by decide +kernel
theorem dX9_added_60 : decode cX9_added 60 = .ok (.iload_n 3, 1) := by decide +kernel
theorem dX9_added_61 : decode cX9_added 61 = .ok (.isub, 1) := by decide +kernel
theorem dX9_added_62 : decode cX9_added 62 = .ok (.istore_n 1, 1) := by decide +kernel
theorem dX9_added_63 : decode cX9_added 63 = .ok (.goto (-58), 3) := by decide +kernel
theorem dX9_added_66 : decode cX9_added 66 = .ok (.iload_n 1, 1) := by decide +kernel
theorem dX9_added_67 : decode cX9_added 67 = .ok (.ireturn, 1) := by decide +kernel
theorem dX9_not_0 : decode cX9_not 0 = .ok (.aload_n 0, 1) := by decide +kernel
theorem dX9_not_1 : decode cX9_not 1 = .ok (.bipush 110, 2) := by decide +kernel
theorem dX9_not_3 : decode cX9_not 3 = .ok (.bipush 111, 2) := by decide +kernel
theorem dX9_not_5 : decode cX9_not 5 = .ok (.bipush 116, 2) := by decide +kernel
theorem dX9_not_7 : decode cX9_not 7 = .ok (.iconst 0, 1) := by decide +kernel
theorem dX9_not_8 : decode cX9_not 8 = .ok (.iconst 0, 1) := by decide +kernel
theorem dX9_not_9 : decode cX9_not 9 = .ok (.iconst 0, 1) := by decide +kernel
theorem dX9_not_10 : decode cX9_not 10 = .ok (.iconst 0, 1) := by decide +kernel
theorem dX9_not_11 : decode cX9_not 11 = .ok (.iconst 0, 1) := by decide +kernel
theorem dX9_not_12 : decode cX9_not 12 = .ok (.invokevirtual 186, 3) := by decide +kernel
theorem dX9_not_15 : decode cX9_not 15 = .ok (.ifCond .eq 37, 3) := by decide +kernel
theorem dX9_not_18 : decode cX9_not 18 = .ok (.aload_n 0, 1) := by decide +kernel
theorem dX9_not_19 : decode cX9_not 19 = .ok (.invokevirtual 211, 3) := by decide +kernel
theorem dX9_not_22 : decode cX9_not 22 = .ok (.ifCond .ne 5, 3) := by decide +kernel
theorem dX9_not_25 : decode cX9_not 25 = .ok (.iconst 0, 1) := by decide +kernel
theorem dX9_not_26 : decode cX9_not 26 = .ok (.ireturn, 1) := by decide +kernel
theorem dX9_not_27 : decode cX9_not 27 = .ok (.aload_n 0, 1) := by decide +kernel
theorem dX9_not_28 : decode cX9_not 28 = .ok (.invokevirtual 230, 3) := by decide +kernel
theorem dX9_not_31 : decode cX9_not 31 = .ok (.istore_n 1, 1) := by decide +kernel
theorem dX9_not_32 : decode cX9_not 32 = .ok (.aload_n 0, 1) := by decide +kernel
theorem dX9_not_33 : decode cX9_not 33 = .ok (.dup, 1) := by decide +kernel
theorem dX9_not_34 : decode cX9_not 34 = .ok (.getfield 177, 3) := by decide +kernel
theorem dX9_not_37 : decode cX9_not 37 = .ok (.iconst 1, 1) := by decide +kernel
theorem dX9_not_38 : decode cX9_not 38 = .ok (.isub, 1) := by decide +kernel
theorem dX9_not_39 : decode cX9_not 39 = .ok (.putfield 177, 3) := by decide +kernel
theorem dX9_not_42 : decode cX9_not 42 = .ok (.iload_n 1, 1) := by decide +kernel
theorem dX9_not_43 : decode cX9_not 43 = .ok (.ifCond .ne 7, 3) := by decide +kernel
theorem dX9_not_46 : decode cX9_not 46 = .ok (.iconst 1, 1) := by decide +kernel
theorem dX9_not_47 : decode cX9_not 47 = .ok (.goto 4, 3) := by decide +kernel
theorem dX9_not_50 : decode cX9_not 50 = .ok (.iconst 0, 1) := by decide +kernel
theorem dX9_not_51 : decode cX9_not 51 = .ok (.ireturn, 1) := by decide +kernel
theorem dX9_not_52 : decode cX9_not 52 = .ok (.aload_n 0, 1) := by decide +kernel
theorem dX9_not_53 : decode cX9_not 53 = .ok (.invokevirtual 233, 3) := by decide +kernel
theorem dX9_not_56 : decode cX9_not 56 = .ok (.istore_n 1, 1) := by decide +kernel
theorem dX9_not_57 : decode cX9_not 57 = .ok (.aload_n 0, 1) := by decide +kernel
theorem dX9_not_58 : decode cX9_not 58 = .ok (.bipush 60, 2) := by decide +kernel
theorem dX9_not_60 : decode cX9_not 60 = .ok (.invokevirtual 208, 3) := by decide +kernel
theorem dX9_not_63 : decode cX9_not 63 = .ok (.ifCond .ne 14, 3) := by decide +kernel
theorem dX9_not_66 : decode cX9_not 66 = .ok (.aload_n 0, 1) := by decide +kernel
theorem dX9_not_67 : decode cX9_not 67 = .ok (.bipush 61, 2) := by decide +kernel
theorem dX9_not_69 : decode cX9_not 69 = .ok (.invokevirtual 208, 3) := by decide +kernel
theorem dX9_not_72 : decode cX9_not 72 = .ok (.ifCond .ne 5, 3) := by decide +kernel
theorem dX9_not_75 : decode cX9_not 75 = .ok (.iload_n 1, 1) := by decide +kernel
theorem dX9_not_76 : decode cX9_not 76 = .ok (.ireturn, 1) := by decide +kernel
theorem dX9_not_77 : decode cX9_not 77 = .ok (.aload_n 0, 1) := by decide +kernel
theorem dX9_not_78 : decode cX9_not 78 = .ok (.getfield 163, 3) := by decide +kernel
theorem dX9_not_81 : decode cX9_not 81 = .ok (.ldc2_w 236, 3) := by decide +kernel
theorem dX9_not_84 : decode cX9_not 84 = .ok (.lcmp, 1) := by decide +kernel
theorem dX9_not_85 : decode cX9_not 85 = .ok (.ifCond .ne 7, 3) := by decide +kernel
theorem dX9_not_88 : decode cX9_not 88 = .ok (.iconst 1, 1) := by decide +kernel
theorem dX9_not_89 : decode cX9_not 89 = .ok (.goto 4, 3) := by decide +kernel
theorem dX9_not_92 : decode cX9_not 92 = .ok (.iconst 0, 1) := by decide +kernel
theorem dX9_not_93 : decode cX9_not 93 = .ok (.istore_n 2, 1) := by decide +kernel
theorem dX9_not_94 : decode cX9_not 94 = .ok (.aload_n 0, 1) := by decide +kernel
theorem dX9_not_95 : decode cX9_not 95 = .ok (.invokevirtual 183, 3) := by decide +kernel
theorem dX9_not_98 : decode cX9_not 98 = .ok (.aload_n 0, 1) := by decide +kernel
theorem dX9_not_99 : decode cX9_not 99 = .ok (.invokevirtual 233, 3) := by decide +kernel
theorem dX9_not_102 : decode cX9_not 102 = .ok (.istore_n 3, 1) := by decide +kernel
theorem dX9_not_103 : decode cX9_not 103 = .ok (.iload_n 2, 1) := by decide +kernel
theorem dX9_not_104 : decode cX9_not 104 = .ok (.ifCond .eq 11, 3) := by decide +kernel
theorem dX9_not_107 : decode cX9_not 107 = .ok (.iload_n 1, 1) := by decide +kernel
theorem dX9_not_108 : decode cX9_not 108 = .ok (.iload_n 3, 1) := by decide +kernel
theorem dX9_not_109 : decode cX9_not 109 = .ok (.if_icmp .ge 15, 3) := by decide +kernel
theorem dX9_not_112 : decode cX9_not 112 = .ok (.goto 8, 3) := by decide +kernel
theorem dX9_not_115 : decode cX9_not 115 = .ok (.iload_n 1, 1) := by decide +kernel
theorem dX9_not_116 : decode cX9_not 116 = .ok (.iload_n 3, 1) := by decide +kernel
theorem dX9_not_117 : decode cX9_not 117 = .ok (.if_icmp .ne 7, 3) := by decide +kernel
theorem dX9_not_120 : decode cX9_not 120 = .ok (.iconst 1, 1) := by decide +kernel
theorem dX9_not_121 : decode cX9_not 121 = .ok (.goto 4, 3) := by decide +kernel
theorem dX9_not_124 : decode cX9_not 124 = .ok (.iconst 0, 1) := by decide +kernel
theorem dX9_not_125 : decode cX9_not 125 = .ok (.ireturn, 1) := by decide +kernel
theorem dX9_both_0 : decode cX9_both 0 = .ok (.aload_n 0, 1) := by decide +kernel
theorem dX9_both_1 : decode cX9_both 1 = .ok (.invokevirtual 230, 3) := by decide +kernel
theorem dX9_both_4 : decode cX9_both 4 = .ok (.istore_n 1, 1) := by decide +kernel
theorem dX9_both_5 : decode cX9_both 5 = .ok (.aload_n 0, 1) := by decide +kernel
theorem dX9_both_6 : decode cX9_both 6 = .ok (.bipush 97, 2) := by decide +kernel
theorem dX9_both_8 : decode cX9_both 8 = .ok (.bipush 110, 2) := by decide +kernel
theorem dX9_both_10 : decode cX9_both 10 = .ok (.bipush 100, 2) := by decide +kernel
theorem dX9_both_12 : decode cX9_both 12 = .ok (.iconst 0, 1) := by decide +kernel
theorem dX9_both_13 : decode cX9_both 13 = .ok (.iconst 0, 1) := by decide +kernel
theorem dX9_both_14 : decode cX9_both 14 = .ok (.iconst 0, 1) := by decide +kernel
theorem dX9_both_15 : decode cX9_both 15 = .ok (.iconst 0, 1) := by decide +kernel
theorem dX9_both_16 : decode cX9_both 16 = .ok (.iconst 0, 1) := by decide +kernel
theorem dX9_both_17 : decode cX9_both 17 = .ok (.invokevirtual 186, 3) := by decide +kernel
theorem dX9_both_20 : decode cX9_both 20 = .ok (.ifCond .eq 29, 3) := by decide +kernel
theorem dX9_both_23 : decode cX9_both 23 = .ok (.aload_n 0, 1) := by decide +kernel
theorem dX9_both_24 : decode cX9_both 24 = .ok (.invokevirtual 183, 3) := by decide +kernel
theorem dX9_both_27 : decode cX9_both 27 = .ok (.aload_n 0, 1) := by decide +kernel
theorem dX9_both_28 : decode cX9_both 28 = .ok (.invokevirtual 230, 3) := by decide +kernel
theorem dX9_both_31 : decode cX9_both 31 = .ok (.istore_n 2, 1) := by decide +kernel
theorem dX9_both_32 : decode cX9_both 32 = .ok (.iload_n 1, 1) := by decide +kernel
theorem dX9_both_33 : decode cX9_both 33 = .ok (.ifCond .eq 11, 3) := by decide +kernel
theorem dX9_both_36 : decode cX9_both 36 = .ok (.iload_n 2, 1) := by decide +kernel
theorem dX9_both_37 : decode cX9_both 37 = .ok (.ifCond .eq 7, 3) := by decide +kernel
theorem dX9_both_40 : decode cX9_both 40 = .ok (.iconst 1, 1) := by decide +kernel
theorem dX9_both_41 : decode cX9_both 41 = .ok (.goto 4, 3) := by decide +kernel
theorem dX9_both_44 : decode cX9_both 44 = .ok (.iconst 0, 1) := by decide +kernel
theorem dX9_both_45 : decode cX9_both 45 = .ok (.istore_n 1, 1) := by decide +kernel
theorem dX9_both_46 : decode cX9_both 46 = .ok (.goto (-41), 3) := by decide +kernel
theorem dX9_both_49 : decode cX9_both 49 = .ok (.iload_n 1, 1) := by decide +kernel
theorem dX9_both_50 : decode cX9_both 50 = .ok (.ireturn, 1) := by decide +kernel
theorem dX9_either_0 : decode cX9_either 0 = .ok (.aload_n 0, 1) := by decide +kernel
theorem dX9_either_1 : decode cX9_either 1 = .ok (.invokevirtual 238, 3) := by decide +kernel
theorem dX9_either_4 : decode cX9_either 4 = .ok (.istore_n 1, 1) := by decide +kernel
theorem dX9_either_5 : decode cX9_either 5 = .ok (.aload_n 0, 1) := by decide +kernel
theorem dX9_either_6 : decode cX9_either 6 = .ok (.bipush 111, 2) := by decide +kernel
theorem dX9_either_8 : decode cX9_either 8 = .ok (.bipush 114, 2) := by decide +kernel
theorem dX9_either_10 : decode cX9_either 10 = .ok (.iconst 0, 1) := by decide +kernel
theorem dX9_either_11 : decode cX9_either 11 = .ok (.iconst 0, 1) := by decide +kernel
theorem dX9_either_12 : decode cX9_either 12 = .ok (.iconst 0, 1) := by decide +kernel
theorem dX9_either_13 : decode cX9_either 13 = .ok (.iconst 0, 1) := by decide +kernel
theorem dX9_either_14 : decode cX9_either 14 = .ok (.iconst 0, 1) := by decide +kernel
theorem dX9_either_15 : decode cX9_either 15 = .ok (.iconst 0, 1) := by decide +kernel
theorem dX9_either_16 : decode cX9_either 16 = .ok (.invokevirtual 186, 3) := by decide +kernel
theorem dX9_either_19 : decode cX9_either 19 = .ok (.ifCond .eq 29, 3) := by decide +kernel
theorem dX9_either_22 : decode cX9_either 22 = .ok (.aload_n 0, 1) := by decide +kernel
theorem dX9_either_23 : decode cX9_either 23 = .ok (.invokevirtual 183, 3) := by decide +kernel
theorem dX9_either_26 : decode cX9_either 26 = .ok (.aload_n 0, 1) := by decide +kernel
theorem dX9_either_27 : decode cX9_either 27 = .ok (.invokevirtual 238, 3) := by decide +kernel
theorem dX9_either_30 : decode cX9_either 30 = .ok (.istore_n 2, 1) := by decide +kernel
theorem dX9_either_31 : decode cX9_either 31 = .ok (.iload_n 1, 1) := by decide +kernel
theorem dX9_either_32 : decode cX9_either 32 = .ok (.ifCond .ne 7, 3) := by decide +kernel
theorem dX9_either_35 : decode cX9_either 35 = .ok (.iload_n 2, 1) := by decide +kernel
theorem dX9_either_36 : decode cX9_either 36 = .ok (.ifCond .eq 7, 3) := by decide +kernel
theorem dX9_either_39 : decode cX9_either 39 = .ok (.iconst 1, 1) := by decide +kernel
theorem dX9_either_40 : decode cX9_either 40 = .ok (.goto 4, 3) := by decide +kernel
theorem dX9_either_43 : decode cX9_either 43 = .ok (.iconst 0, 1) := by decide +kernel
theorem dX9_either_44 : decode cX9_either 44 = .ok (.istore_n 1, 1) := by decide +kernel
theorem dX9_either_45 : decode cX9_either 45 = .ok (.goto (-40), 3) := by decide +kernel
theorem dX9_either_48 : decode cX9_either 48 = .ok (.iload_n 1, 1) := by decide +kernel
theorem dX9_either_49 : decode cX9_either 49 = .ok (.ireturn, 1) := by decide +kernel
theorem dX9_part_0 : decode cX9_part 0 = .ok (.iload_n 1, 1) := by decide +kernel
theorem dX9_part_1 : decode cX9_part 1 = .ok (.ifCond .ne 7, 3) := by decide +kernel
theorem dX9_part_4 : decode cX9_part 4 = .ok (.aload_n 0, 1) := by decide +kernel
theorem dX9_part_5 : decode cX9_part 5 = .ok (.invokevirtual 180, 3) := by decide +kernel
theorem dX9_part_8 : decode cX9_part 8 = .ok (.aload_n 0, 1) := by decide +kernel
theorem dX9_part_9 : decode cX9_part 9 = .ok (.getfield 167, 3) := by decide +kernel
theorem dX9_part_12 : decode cX9_part 12 = .ok (.ifCond .ne 7, 3) := by decide +kernel
theorem dX9_part_15 : decode cX9_part 15 = .ok (.aload_n 0, 1) := by decide +kernel
theorem dX9_part_16 : decode cX9_part 16 = .ok (.invokevirtual 183, 3) := by decide +kernel
theorem dX9_part_19 : decode cX9_part 19 = .ok (.aload_n 0, 1) := by decide +kernel
theorem dX9_part_20 : decode cX9_part 20 = .ok (.getfield 167, 3) := by decide +kernel
theorem dX9_part_23 : decode cX9_part 23 = .ok (.ifCond .eq 7, 3) := by decide +kernel
theorem dX9_part_26 : decode cX9_part 26 = .ok (.iconst 0, 1) := by decide +kernel
theorem dX9_part_27 : decode cX9_part 27 = .ok (.goto 7, 3) := by decide +kernel
theorem dX9_part_30 : decode cX9_part 30 = .ok (.aload_n 0, 1) := by decide +kernel
theorem dX9_part_31 : decode cX9_part 31 = .ok (.invokevirtual 219, 3) := by decide +kernel
theorem dX9_part_34 : decode cX9_part 34 = .ok (.istore_n 2, 1) := by decide +kernel
theorem dX9_part_35 : decode cX9_part 35 = .ok (.aload_n 0, 1) := by decide +kernel
theorem dX9_part_36 : decode cX9_part 36 = .ok (.bipush 59, 2) := by decide +kernel
theorem dX9_part_38 : decode cX9_part 38 = .ok (.invokevirtual 208, 3) := by decide +kernel
theorem dX9_part_41 : decode cX9_part 41 = .ok (.ifCond .ne 7, 3) := by decide +kernel
theorem dX9_part_44 : decode cX9_part 44 = .ok (.aload_n 0, 1) := by decide +kernel
theorem dX9_part_45 : decode cX9_part 45 = .ok (.invokevirtual 180, 3) := by decide +kernel
theorem dX9_part_48 : decode cX9_part 48 = .ok (.aload_n 0, 1) := by decide +kernel
theorem dX9_part_49 : decode cX9_part 49 = .ok (.getfield 167, 3) := by decide +kernel
theorem dX9_part_52 : decode cX9_part 52 = .ok (.ifCond .ne 7, 3) := by decide +kernel
theorem dX9_part_55 : decode cX9_part 55 = .ok (.aload_n 0, 1) := by decide +kernel
theorem dX9_part_56 : decode cX9_part 56 = .ok (.invokevirtual 183, 3) := by decide +kernel
theorem dX9_part_59 : decode cX9_part 59 = .ok (.iload_n 2, 1) := by decide +kernel
theorem dX9_part_60 : decode cX9_part 60 = .ok (.ireturn, 1) := by decide +kernel
theorem dX9_read_0 : decode cX9_read 0 = .ok (.aload_n 0, 1) := by decide +kernel
theorem dX9_read_1 : decode cX9_read 1 = .ok (.sipush 160, 3) := by decide +kernel
theorem dX9_read_4 : decode cX9_read 4 = .ok (.iload_n 1, 1) := by decide +kernel
theorem dX9_read_5 : decode cX9_read 5 = .ok (.imul, 1) := by decide +kernel
theorem dX9_read_6 : decode cX9_read 6 = .ok (.putfield 140, 3) := by decide +kernel
theorem dX9_read_9 : decode cX9_read 9 = .ok (.aload_n 0, 1) := by decide +kernel
theorem dX9_read_10 : decode cX9_read 10 = .ok (.aload_n 0, 1) := by decide +kernel
theorem dX9_read_11 : decode cX9_read 11 = .ok (.getfield 17, 3) := by decide +kernel
theorem dX9_read_14 : decode cX9_read 14 = .ok (.iload_n 1, 1) := by decide +kernel
theorem dX9_read_15 : decode cX9_read 15 = .ok (.iaload, 1) := by decide +kernel
theorem dX9_read_16 : decode cX9_read 16 = .ok (.putfield 137, 3) := by decide +kernel
theorem dX9_read_19 : decode cX9_read 19 = .ok (.aload_n 0, 1) := by decide +kernel
theorem dX9_read_20 : decode cX9_read 20 = .ok (.iconst 0, 1) := by decide +kernel
theorem dX9_read_21 : decode cX9_read 21 = .ok (.putfield 143, 3) := by decide +kernel
theorem dX9_read_24 : decode cX9_read 24 = .ok (.aload_n 0, 1) := by decide +kernel
theorem dX9_read_25 : decode cX9_read 25 = .ok (.iconst 0, 1) := by decide +kernel
theorem dX9_read_26 : decode cX9_read 26 = .ok (.putfield 177, 3) := by decide +kernel
theorem dX9_read_29 : decode cX9_read 29 = .ok (.aload_n 0, 1) := by decide +kernel
theorem dX9_read_30 : decode cX9_read 30 = .ok (.iconst 0, 1) := by decide +kernel
theorem dX9_read_31 : decode cX9_read 31 = .ok (.putfield 167, 3) := by decide +kernel
theorem dX9_read_34 : decode cX9_read 34 = .ok (.aload_n 0, 1) := by decide +kernel
theorem dX9_read_35 : decode cX9_read 35 = .ok (.invokevirtual 183, 3) := by decide +kernel
theorem dX9_read_38 : decode cX9_read 38 = .ok (.aload_n 0, 1) := by decide +kernel
theorem dX9_read_39 : decode cX9_read 39 = .ok (.aload_n 0, 1) := by decide +kernel
theorem dX9_read_40 : decode cX9_read 40 = .ok (.bipush 121, 2) := by decide +kernel
theorem dX9_read_42 : decode cX9_read 42 = .ok (.bipush 105, 2) := by decide +kernel
theorem dX9_read_44 : decode cX9_read 44 = .ok (.bipush 101, 2) := by decide +kernel
theorem dX9_read_46 : decode cX9_read 46 = .ok (.bipush 108, 2) := by decide +kernel
theorem dX9_read_48 : decode cX9_read 48 = .ok (.bipush 100, 2) := by decide +kernel
theorem dX9_read_50 : decode cX9_read 50 = .ok (.bipush 115, 2) := by decide +kernel
theorem dX9_read_52 : decode cX9_read 52 = .ok (.iconst 0, 1) := by decide +kernel
theorem dX9_read_53 : decode cX9_read 53 = .ok (.iconst 0, 1) := by decide +kernel
theorem dX9_read_54 : decode cX9_read 54 = .ok (.invokevirtual 186, 3) := by decide +kernel
theorem dX9_read_57 : decode cX9_read 57 = .ok (.invokevirtual 241, 3) := by decide +kernel
theorem dX9_read_60 : decode cX9_read 60 = .ok (.istore_n 3, 1) := by decide +kernel
theorem dX9_read_61 : decode cX9_read 61 = .ok (.aload_n 0, 1) := by decide +kernel
theorem dX9_read_62 : decode cX9_read 62 = .ok (.getfield 167, 3) := by decide +kernel
theorem dX9_read_65 : decode cX9_read 65 = .ok (.ifCond .eq 7, 3) := by decide +kernel
theorem dX9_read_68 : decode cX9_read 68 = .ok (.iconst 0, 1) := by decide +kernel
theorem dX9_read_69 : decode cX9_read 69 = .ok (.goto 24, 3) := by decide +kernel
theorem dX9_read_72 : decode cX9_read 72 = .ok (.aload_n 0, 1) := by decide +kernel
theorem dX9_read_73 : decode cX9_read 73 = .ok (.aload_n 0, 1) := by decide +kernel
theorem dX9_read_74 : decode cX9_read 74 = .ok (.bipush 115, 2) := by decide +kernel
theorem dX9_read_76 : decode cX9_read 76 = .ok (.bipush 117, 2) := by decide +kernel
theorem dX9_read_78 : decode cX9_read 78 = .ok (.bipush 105, 2) := by decide +kernel
theorem dX9_read_80 : decode cX9_read 80 = .ok (.bipush 116, 2) := by decide +kernel
theorem dX9_read_82 : decode cX9_read 82 = .ok (.bipush 115, 2) := by decide +kernel
theorem dX9_read_84 : decode cX9_read 84 = .ok (.iconst 0, 1) := by decide +kernel
theorem dX9_read_85 : decode cX9_read 85 = .ok (.iconst 0, 1) := by decide +kernel
theorem dX9_read_86 : decode cX9_read 86 = .ok (.iconst 0, 1) := by decide +kernel
theorem dX9_read_87 : decode cX9_read 87 = .ok (.invokevirtual 186, 3) := by decide +kernel
theorem dX9_read_90 : decode cX9_read 90 = .ok (.invokevirtual 241, 3) := by decide +kernel
theorem dX9_read_93 : decode cX9_read 93 = .ok (.istore 4, 2) := by decide +kernel
theorem dX9_read_95 : decode cX9_read 95 = .ok (.aload_n 0, 1) := by decide +kernel
theorem dX9_read_96 : decode cX9_read 96 = .ok (.getfield 167, 3) := by decide +kernel
theorem dX9_read_99 : decode cX9_read 99 = .ok (.ifCond .eq 7, 3) := by decide +kernel
theorem dX9_read_102 : decode cX9_read 102 = .ok (.iconst 0, 1) := by decide +kernel
theorem dX9_read_103 : decode cX9_read 103 = .ok (.goto 24, 3) := by decide +kernel
theorem dX9_read_106 : decode cX9_read 106 = .ok (.aload_n 0, 1) := by decide +kernel
theorem dX9_read_107 : decode cX9_read 107 = .ok (.aload_n 0, 1) := by decide +kernel
theorem dX9_read_108 : decode cX9_read 108 = .ok (.bipush 101, 2) := by decide +kernel
theorem dX9_read_110 : decode cX9_read 110 = .ok (.bipush 97, 2) := by decide +kernel
theorem dX9_read_112 : decode cX9_read 112 = .ok (.bipush 115, 2) := by decide +kernel
theorem dX9_read_114 : decode cX9_read 114 = .ok (.bipush 101, 2) := by decide +kernel
theorem dX9_read_116 : decode cX9_read 116 = .ok (.bipush 115, 2) := by decide +kernel
theorem dX9_read_118 : decode cX9_read 118 = .ok (.iconst 0, 1) := by decide +kernel
theorem dX9_read_119 : decode cX9_read 119 = .ok (.iconst 0, 1) := by decide +kernel
theorem dX9_read_120 : decode cX9_read 120 = .ok (.iconst 0, 1) := by decide +kernel
theorem dX9_read_121 : decode cX9_read 121 = .ok (.invokevirtual 186, 3) := by decide +kernel
theorem dX9_read_124 : decode cX9_read 124 = .ok (.invokevirtual 241, 3) := by decide +kernel
theorem dX9_read_127 : decode cX9_read 127 = .ok (.istore 5, 2) := by decide +kernel
theorem dX9_read_129 : decode cX9_read 129 = .ok (.aload_n 0, 1) := by decide +kernel
theorem dX9_read_130 : decode cX9_read 130 = .ok (.getfield 167, 3) := by decide +kernel
theorem dX9_read_133 : decode cX9_read 133 = .ok (.ifCond .ne 14, 3) := by decide +kernel
theorem dX9_read_136 : decode cX9_read 136 = .ok (.aload_n 0, 1) := by decide +kernel
theorem dX9_read_137 : decode cX9_read 137 = .ok (.getfield 152, 3) := by decide +kernel
theorem dX9_read_140 : decode cX9_read 140 = .ok (.ifCond .eq 7, 3) := by decide +kernel
theorem dX9_read_143 : decode cX9_read 143 = .ok (.aload_n 0, 1) := by decide +kernel
theorem dX9_read_144 : decode cX9_read 144 = .ok (.invokevirtual 180, 3) := by decide +kernel
theorem dX9_read_147 : decode cX9_read 147 = .ok (.iload_n 2, 1) := by decide +kernel
theorem dX9_read_148 : decode cX9_read 148 = .ok (.ifCond .ne 7, 3) := by decide +kernel
theorem dX9_read_151 : decode cX9_read 151 = .ok (.iload_n 3, 1) := by decide +kernel
theorem dX9_read_152 : decode cX9_read 152 = .ok (.goto 15, 3) := by decide +kernel
theorem dX9_read_155 : decode cX9_read 155 = .ok (.iload_n 2, 1) := by decide +kernel
theorem dX9_read_156 : decode cX9_read 156 = .ok (.iconst 1, 1) := by decide +kernel
theorem dX9_read_157 : decode cX9_read 157 = .ok (.if_icmp .ne 8, 3) := by decide +kernel
theorem dX9_read_160 : decode cX9_read 160 = .ok (.iload 4, 2) := by decide +kernel
theorem dX9_read_162 : decode cX9_read 162 = .ok (.goto 5, 3) := by decide +kernel
theorem dX9_read_165 : decode cX9_read 165 = .ok (.iload 5, 2) := by decide +kernel
theorem dX9_read_167 : decode cX9_read 167 = .ok (.ireturn, 1) := by decide +kernel
theorem dX9_text_0 : decode cX9_text 0 = .ok (.aload_n 0, 1) := by decide +kernel
theorem dX9_text_1 : decode cX9_text 1 = .ok (.getfield 74, 3) := by decide +kernel
theorem dX9_text_4 : decode cX9_text 4 = .ok (.bipush 6, 2) := by decide +kernel
theorem dX9_text_6 : decode cX9_text 6 = .ok (.if_icmp .ne 6, 3) := by decide +kernel
theorem dX9_text_9 : decode cX9_text 9 = .ok (.bipush (-4), 2) := by decide +kernel
theorem dX9_text_11 : decode cX9_text 11 = .ok (.ireturn, 1) := by decide +kernel
theorem dX9_text_12 : decode cX9_text 12 = .ok (.iconst 0, 1) := by decide +kernel
theorem dX9_text_13 : decode cX9_text 13 = .ok (.istore_n 1, 1) := by decide +kernel
theorem dX9_text_14 : decode cX9_text 14 = .ok (.iload_n 1, 1) := by decide +kernel
theorem dX9_text_15 : decode cX9_text 15 = .ok (.aload_n 0, 1) := by decide +kernel
theorem dX9_text_16 : decode cX9_text 16 = .ok (.getfield 134, 3) := by decide +kernel
theorem dX9_text_19 : decode cX9_text 19 = .ok (.if_icmp .ge 30, 3) := by decide +kernel
theorem dX9_text_22 : decode cX9_text 22 = .ok (.aload_n 0, 1) := by decide +kernel
theorem dX9_text_23 : decode cX9_text 23 = .ok (.getfield 13, 3) := by decide +kernel
theorem dX9_text_26 : decode cX9_text 26 = .ok (.sipush 160, 3) := by decide +kernel
theorem dX9_text_29 : decode cX9_text 29 = .ok (.aload_n 0, 1) := by decide +kernel
theorem dX9_text_30 : decode cX9_text 30 = .ok (.getfield 74, 3) := by decide +kernel
theorem dX9_text_33 : decode cX9_text 33 = .ok (.imul, 1) := by decide +kernel
theorem dX9_text_34 : decode cX9_text 34 = .ok (.iload_n 1, 1) := by decide +kernel
theorem dX9_text_35 : decode cX9_text 35 = .ok (.iadd, 1) := by decide +kernel
theorem dX9_text_36 : decode cX9_text 36 = .ok (.aload_n 0, 1) := by decide +kernel
theorem dX9_text_37 : decode cX9_text 37 = .ok (.getfield 20, 3) := by decide +kernel
theorem dX9_text_40 : decode cX9_text 40 = .ok (.iload_n 1, 1) := by decide +kernel
theorem dX9_text_41 : decode cX9_text 41 = .ok (.iaload, 1) := by decide +kernel
theorem dX9_text_42 : decode cX9_text 42 = .ok (.iastore, 1) := by decide +kernel
theorem dX9_text_43 : decode cX9_text 43 = .ok (.iinc 1 1, 3) := by decide +kernel
theorem dX9_text_46 : decode cX9_text 46 = .ok (.goto (-32), 3) := by decide +kernel
theorem dX9_text_49 : decode cX9_text 49 = .ok (.aload_n 0, 1) := by decide +kernel
theorem dX9_text_50 : decode cX9_text 50 = .ok (.getfield 17, 3) := by decide +kernel
theorem dX9_text_53 : decode cX9_text 53 = .ok (.aload_n 0, 1) := by decide +kernel
theorem dX9_text_54 : decode cX9_text 54 = .ok (.getfield 74, 3) := by decide +kernel
theorem dX9_text_57 : decode cX9_text 57 = .ok (.aload_n 0, 1) := by decide +kernel
theorem dX9_text_58 : decode cX9_text 58 = .ok (.getfield 134, 3) := by decide +kernel
theorem dX9_text_61 : decode cX9_text 61 = .ok (.iastore, 1) := by decide +kernel
theorem dX9_text_62 : decode cX9_text 62 = .ok (.aload_n 0, 1) := by decide +kernel
theorem dX9_text_63 : decode cX9_text 63 = .ok (.iconst 0, 1) := by decide +kernel
theorem dX9_text_64 : decode cX9_text 64 = .ok (.putfield 134, 3) := by decide +kernel
theorem dX9_text_67 : decode cX9_text 67 = .ok (.aload_n 0, 1) := by decide +kernel
theorem dX9_text_68 : decode cX9_text 68 = .ok (.aload_n 0, 1) := by decide +kernel
theorem dX9_text_69 : decode cX9_text 69 = .ok (.getfield 74, 3) := by decide +kernel
theorem dX9_text_72 : decode cX9_text 72 = .ok (.iconst 0, 1) := by decide +kernel
theorem dX9_text_73 : decode cX9_text 73 = .ok (.invokevirtual 245, 3) := by decide +kernel
theorem dX9_text_76 : decode cX9_text 76 = .ok (.istore_n 1, 1) := by decide +kernel
theorem dX9_text_77 : decode cX9_text 77 = .ok (.aload_n 0, 1) := by decide +kernel
theorem dX9_text_78 : decode cX9_text 78 = .ok (.getfield 167, 3) := by decide +kernel
theorem dX9_text_81 : decode cX9_text 81 = .ok (.ifCond .eq 11, 3) := by decide +kernel
theorem dX9_text_84 : decode cX9_text 84 = .ok (.bipush (-100), 2) := by decide +kernel
theorem dX9_text_86 : decode cX9_text 86 = .ok (.aload_n 0, 1) := by decide +kernel
theorem dX9_text_87 : decode cX9_text 87 = .ok (.getfield 171, 3) := by decide +kernel
theorem dX9_text_90 : decode cX9_text 90 = .ok (.isub, 1) := by decide +kernel
theorem dX9_text_91 : decode cX9_text 91 = .ok (.ireturn, 1) := by decide +kernel
theorem dX9_text_92 : decode cX9_text 92 = .ok (.aload_n 0, 1) := by decide +kernel
theorem dX9_text_93 : decode cX9_text 93 = .ok (.dup, 1) := by decide +kernel
theorem dX9_text_94 : decode cX9_text 94 = .ok (.getfield 74, 3) := by decide +kernel
theorem dX9_text_97 : decode cX9_text 97 = .ok (.iconst 1, 1) := by decide +kernel
theorem dX9_text_98 : decode cX9_text 98 = .ok (.iadd, 1) := by decide +kernel
theorem dX9_text_99 : decode cX9_text 99 = .ok (.putfield 74, 3) := by decide +kernel
theorem dX9_text_102 : decode cX9_text 102 = .ok (.aload_n 0, 1) := by decide +kernel
theorem dX9_text_103 : decode cX9_text 103 = .ok (.getfield 74, 3) := by decide +kernel
theorem dX9_text_106 : decode cX9_text 106 = .ok (.iconst 1, 1) := by decide +kernel
theorem dX9_text_107 : decode cX9_text 107 = .ok (.isub, 1) := by decide +kernel
theorem dX9_text_108 : decode cX9_text 108 = .ok (.ireturn, 1) := by decide +kernel
theorem dX9_force_0 : decode cX9_force 0 = .ok (.iload_n 1, 1) := by decide +kernel
theorem dX9_force_1 : decode cX9_force 1 = .ok (.i2l, 1) := by decide +kernel
theorem dX9_force_2 : decode cX9_force 2 = .ok (.lconst 0, 1) := by decide +kernel
theorem dX9_force_3 : decode cX9_force 3 = .ok (.aload_n 0, 1) := by decide +kernel
theorem dX9_force_4 : decode cX9_force 4 = .ok (.getfield 74, 3) := by decide +kernel
theorem dX9_force_7 : decode cX9_force 7 = .ok (.iconst 1, 1) := by decide +kernel
theorem dX9_force_8 : decode cX9_force 8 = .ok (.isub, 1) := by decide +kernel
theorem dX9_force_9 : decode cX9_force 9 = .ok (.i2l, 1) := by decide +kernel
theorem dX9_force_10 : decode cX9_force 10 = .ok (.invokestatic 80, 3) := by decide +kernel
theorem dX9_force_13 : decode cX9_force 13 = .ok (.ifCond .ne 6, 3) := by decide +kernel
theorem dX9_force_16 : decode cX9_force 16 = .ok (.bipush (-2), 2) := by decide +kernel
theorem dX9_force_18 : decode cX9_force 18 = .ok (.ireturn, 1) := by decide +kernel
theorem dX9_force_19 : decode cX9_force 19 = .ok (.aload_n 0, 1) := by decide +kernel
theorem dX9_force_20 : decode cX9_force 20 = .ok (.getfield 117, 3) := by decide +kernel
theorem dX9_force_23 : decode cX9_force 23 = .ok (.istore_n 2, 1) := by decide +kernel
theorem dX9_force_24 : decode cX9_force 24 = .ok (.aload_n 0, 1) := by decide +kernel
theorem dX9_force_25 : decode cX9_force 25 = .ok (.iload_n 1, 1) := by decide +kernel
theorem dX9_force_26 : decode cX9_force 26 = .ok (.putfield 117, 3) := by decide +kernel
theorem dX9_force_29 : decode cX9_force 29 = .ok (.iload_n 2, 1) := by decide +kernel
theorem dX9_force_30 : decode cX9_force 30 = .ok (.ireturn, 1) := by decide +kernel
theorem dX9_says_0 : decode cX9_says 0 = .ok (.aload_n 0, 1) := by decide +kernel
theorem dX9_says_1 : decode cX9_says 1 = .ok (.aload_n 0, 1) := by decide +kernel
theorem dX9_says_2 : decode cX9_says 2 = .ok (.getfield 26, 3) := by decide +kernel
theorem dX9_says_5 : decode cX9_says 5 = .ok (.iconst 3, 1) := by decide +kernel
theorem dX9_says_6 : decode cX9_says 6 = .ok (.iload_n 2, 1) := by decide +kernel
theorem dX9_says_7 : decode cX9_says 7 = .ok (.imul, 1) := by decide +kernel
theorem dX9_says_8 : decode cX9_says 8 = .ok (.iconst 1, 1) := by decide +kernel
theorem dX9_says_9 : decode cX9_says 9 = .ok (.iadd, 1) := by decide +kernel
theorem dX9_says_10 : decode cX9_says 10 = .ok (.iaload, 1) := by decide +kernel
theorem dX9_says_11 : decode cX9_says 11 = .ok (.putfield 190, 3) := by decide +kernel
theorem dX9_says_14 : decode cX9_says 14 = .ok (.aload_n 0, 1) := by decide +kernel
theorem dX9_says_15 : decode cX9_says 15 = .ok (.aload_n 0, 1) := by decide +kernel
theorem dX9_says_16 : decode cX9_says 16 = .ok (.getfield 26, 3) := by decide +kernel
theorem dX9_says_19 : decode cX9_says 19 = .ok (.iconst 3, 1) := by decide +kernel
theorem dX9_says_20 : decode cX9_says 20 = .ok (.iload_n 2, 1) := by decide +kernel
theorem dX9_says_21 : decode cX9_says 21 = .ok (.imul, 1) := by decide +kernel
theorem dX9_says_22 : decode cX9_says 22 = .ok (.iaload, 1) := by decide +kernel
theorem dX9_says_23 : decode cX9_says 23 = .ok (.putfield 193, 3) := by decide +kernel
theorem dX9_says_26 : decode cX9_says 26 = .ok (.aload_n 0, 1) := by decide +kernel
theorem dX9_says_27 : decode cX9_says 27 = .ok (.aload_n 0, 1) := by decide +kernel
theorem dX9_says_28 : decode cX9_says 28 = .ok (.getfield 111, 3) := by decide +kernel
theorem dX9_says_31 : decode cX9_says 31 = .ok (.putfield 196, 3) := by decide +kernel
theorem dX9_says_34 : decode cX9_says 34 = .ok (.aload_n 0, 1) := by decide +kernel
theorem dX9_says_35 : decode cX9_says 35 = .ok (.aload_n 0, 1) := by decide +kernel
theorem dX9_says_36 : decode cX9_says 36 = .ok (.getfield 26, 3) := by decide +kernel
theorem dX9_says_39 : decode cX9_says 39 = .ok (.iconst 3, 1) := by decide +kernel
theorem dX9_says_40 : decode cX9_says 40 = .ok (.iload_n 2, 1) := by decide +kernel
theorem dX9_says_41 : decode cX9_says 41 = .ok (.imul, 1) := by decide +kernel
theorem dX9_says_42 : decode cX9_says 42 = .ok (.iconst 2, 1) := by decide +kernel
theorem dX9_says_43 : decode cX9_says 43 = .ok (.iadd, 1) := by decide +kernel
theorem dX9_says_44 : decode cX9_says 44 = .ok (.iaload, 1) := by decide +kernel
theorem dX9_says_45 : decode cX9_says 45 = .ok (.putfield 199, 3) := by decide +kernel
theorem dX9_says_48 : decode cX9_says 48 = .ok (.aload_n 0, 1) := by decide +kernel
theorem dX9_says_49 : decode cX9_says 49 = .ok (.iload_n 3, 1) := by decide +kernel
theorem dX9_says_50 : decode cX9_says 50 = .ok (.putfield 202, 3) := by decide +kernel
theorem dX9_says_53 : decode cX9_says 53 = .ok (.aload_n 0, 1) := by decide +kernel
theorem dX9_says_54 : decode cX9_says 54 = .ok (.aload_n 0, 1) := by decide +kernel
theorem dX9_says_55 : decode cX9_says 55 = .ok (.getfield 114, 3) := by decide +kernel
theorem dX9_says_58 : decode cX9_says 58 = .ok (.putfield 205, 3) := by decide +kernel
theorem dX9_says_61 : decode cX9_says 61 = .ok (.aload_n 0, 1) := by decide +kernel
theorem dX9_says_62 : decode cX9_says 62 = .ok (.iload_n 1, 1) := by decide +kernel
theorem dX9_says_63 : decode cX9_says 63 = .ok (.invokevirtual 248, 3) := by decide +kernel
theorem dX9_says_66 : decode cX9_says 66 = .ok (.istore 4, 2) := by decide +kernel
theorem dX9_says_68 : decode cX9_says 68 = .ok (.iload_n 1, 1) := by decide +kernel
theorem dX9_says_69 : decode cX9_says 69 = .ok (.iconst 1, 1) := by decide +kernel
theorem dX9_says_70 : decode cX9_says 70 = .ok (.if_icmp .ne 8, 3) := by decide +kernel
theorem dX9_says_73 : decode cX9_says 73 = .ok (.iload 4, 2) := by decide +kernel
theorem dX9_says_75 : decode cX9_says 75 = .ok (.goto 11, 3) := by decide +kernel
theorem dX9_says_78 : decode cX9_says 78 = .ok (.iload 4, 2) := by decide +kernel
theorem dX9_says_80 : decode cX9_says 80 = .ok (.iconst 0, 1) := by decide +kernel
theorem dX9_says_81 : decode cX9_says 81 = .ok (.bipush 99, 2) := by decide +kernel
theorem dX9_says_83 : decode cX9_says 83 = .ok (.invokestatic 251, 3) := by decide +kernel
theorem dX9_says_86 : decode cX9_says 86 = .ok (.ireturn, 1) := by decide +kernel
theorem dX9_keptRead_0 : decode cX9_keptRead 0 = .ok (.aload_n 0, 1) := by decide +kernel
theorem dX9_keptRead_1 : decode cX9_keptRead 1 = .ok (.getfield 117, 3) := by decide +kernel
theorem dX9_keptRead_4 : decode cX9_keptRead 4 = .ok (.i2l, 1) := by decide +kernel
theorem dX9_keptRead_5 : decode cX9_keptRead 5 = .ok (.ldc2_w 255, 3) := by decide +kernel
theorem dX9_keptRead_8 : decode cX9_keptRead 8 = .ok (.lmul, 1) := by decide +kernel
theorem dX9_keptRead_9 : decode cX9_keptRead 9 = .ok (.iload_n 1, 1) := by decide +kernel
theorem dX9_keptRead_10 : decode cX9_keptRead 10 = .ok (.i2l, 1) := by decide +kernel
theorem dX9_keptRead_11 : decode cX9_keptRead 11 = .ok (.ladd, 1) := by decide +kernel
theorem dX9_keptRead_12 : decode cX9_keptRead 12 = .ok (.lstore_n 2, 1) := by decide +kernel
theorem dX9_keptRead_13 : decode cX9_keptRead 13 = .ok (.lload_n 2, 1) := by decide +kernel
theorem dX9_keptRead_14 : decode cX9_keptRead 14 = .ok (.ldc2_w 257, 3) := by decide +kernel
theorem dX9_keptRead_17 : decode cX9_keptRead 17 = .ok (.lmul, 1) := by decide +kernel
theorem dX9_keptRead_18 : decode cX9_keptRead 18 = .ok (.aload_n 0, 1) := by decide +kernel
theorem dX9_keptRead_19 : decode cX9_keptRead 19 = .ok (.getfield 190, 3) := by decide +kernel
theorem dX9_keptRead_22 : decode cX9_keptRead 22 = .ok (.i2l, 1) := by decide +kernel
theorem dX9_keptRead_23 : decode cX9_keptRead 23 = .ok (.ladd, 1) := by decide +kernel
theorem dX9_keptRead_24 : decode cX9_keptRead 24 = .ok (.lstore_n 2, 1) := by decide +kernel
theorem dX9_keptRead_25 : decode cX9_keptRead 25 = .ok (.lload_n 2, 1) := by decide +kernel
theorem dX9_keptRead_26 : decode cX9_keptRead 26 = .ok (.ldc2_w 259, 3) := by decide +kernel
theorem dX9_keptRead_29 : decode cX9_keptRead 29 = .ok (.lmul, 1) := by decide +kernel
theorem dX9_keptRead_30 : decode cX9_keptRead 30 = .ok (.aload_n 0, 1) := by decide +kernel
theorem dX9_keptRead_31 : decode cX9_keptRead 31 = .ok (.getfield 193, 3) := by decide +kernel
theorem dX9_keptRead_34 : decode cX9_keptRead 34 = .ok (.i2l, 1) := by decide +kernel
theorem dX9_keptRead_35 : decode cX9_keptRead 35 = .ok (.ladd, 1) := by decide +kernel
theorem dX9_keptRead_36 : decode cX9_keptRead 36 = .ok (.lstore_n 2, 1) := by decide +kernel
theorem dX9_keptRead_37 : decode cX9_keptRead 37 = .ok (.lload_n 2, 1) := by decide +kernel
theorem dX9_keptRead_38 : decode cX9_keptRead 38 = .ok (.ldc2_w 261, 3) := by decide +kernel
theorem dX9_keptRead_41 : decode cX9_keptRead 41 = .ok (.lmul, 1) := by decide +kernel
theorem dX9_keptRead_42 : decode cX9_keptRead 42 = .ok (.aload_n 0, 1) := by decide +kernel
theorem dX9_keptRead_43 : decode cX9_keptRead 43 = .ok (.getfield 196, 3) := by decide +kernel
theorem dX9_keptRead_46 : decode cX9_keptRead 46 = .ok (.i2l, 1) := by decide +kernel
theorem dX9_keptRead_47 : decode cX9_keptRead 47 = .ok (.ladd, 1) := by decide +kernel
theorem dX9_keptRead_48 : decode cX9_keptRead 48 = .ok (.lstore_n 2, 1) := by decide +kernel
theorem dX9_keptRead_49 : decode cX9_keptRead 49 = .ok (.lload_n 2, 1) := by decide +kernel
theorem dX9_keptRead_50 : decode cX9_keptRead 50 = .ok (.ldc2_w 263, 3) := by decide +kernel
theorem dX9_keptRead_53 : decode cX9_keptRead 53 = .ok (.lmul, 1) := by decide +kernel
theorem dX9_keptRead_54 : decode cX9_keptRead 54 = .ok (.aload_n 0, 1) := by decide +kernel
theorem dX9_keptRead_55 : decode cX9_keptRead 55 = .ok (.getfield 199, 3) := by decide +kernel
theorem dX9_keptRead_58 : decode cX9_keptRead 58 = .ok (.i2l, 1) := by decide +kernel
theorem dX9_keptRead_59 : decode cX9_keptRead 59 = .ok (.ladd, 1) := by decide +kernel
theorem dX9_keptRead_60 : decode cX9_keptRead 60 = .ok (.lstore_n 2, 1) := by decide +kernel
theorem dX9_keptRead_61 : decode cX9_keptRead 61 = .ok (.lload_n 2, 1) := by decide +kernel
theorem dX9_keptRead_62 : decode cX9_keptRead 62 = .ok (.ldc2_w 259, 3) := by decide +kernel
theorem dX9_keptRead_65 : decode cX9_keptRead 65 = .ok (.lmul, 1) := by decide +kernel
theorem dX9_keptRead_66 : decode cX9_keptRead 66 = .ok (.aload_n 0, 1) := by decide +kernel
theorem dX9_keptRead_67 : decode cX9_keptRead 67 = .ok (.getfield 202, 3) := by decide +kernel
theorem dX9_keptRead_70 : decode cX9_keptRead 70 = .ok (.i2l, 1) := by decide +kernel
theorem dX9_keptRead_71 : decode cX9_keptRead 71 = .ok (.ladd, 1) := by decide +kernel
theorem dX9_keptRead_72 : decode cX9_keptRead 72 = .ok (.lstore_n 2, 1) := by decide +kernel
theorem dX9_keptRead_73 : decode cX9_keptRead 73 = .ok (.lload_n 2, 1) := by decide +kernel
theorem dX9_keptRead_74 : decode cX9_keptRead 74 = .ok (.ldc2_w 265, 3) := by decide +kernel
theorem dX9_keptRead_77 : decode cX9_keptRead 77 = .ok (.lmul, 1) := by decide +kernel
theorem dX9_keptRead_78 : decode cX9_keptRead 78 = .ok (.aload_n 0, 1) := by decide +kernel
theorem dX9_keptRead_79 : decode cX9_keptRead 79 = .ok (.getfield 205, 3) := by decide +kernel
theorem dX9_keptRead_82 : decode cX9_keptRead 82 = .ok (.i2l, 1) := by decide +kernel
theorem dX9_keptRead_83 : decode cX9_keptRead 83 = .ok (.ladd, 1) := by decide +kernel
theorem dX9_keptRead_84 : decode cX9_keptRead 84 = .ok (.lconst 1, 1) := by decide +kernel
theorem dX9_keptRead_85 : decode cX9_keptRead 85 = .ok (.ladd, 1) := by decide +kernel
theorem dX9_keptRead_86 : decode cX9_keptRead 86 = .ok (.lstore_n 2, 1) := by decide +kernel
theorem dX9_keptRead_87 : decode cX9_keptRead 87 = .ok (.lload_n 2, 1) := by decide +kernel
theorem dX9_keptRead_88 : decode cX9_keptRead 88 = .ok (.ldc2_w 267, 3) := by decide +kernel
theorem dX9_keptRead_91 : decode cX9_keptRead 91 = .ok (.lmul, 1) := by decide +kernel
theorem dX9_keptRead_92 : decode cX9_keptRead 92 = .ok (.bipush 54, 2) := by decide +kernel
theorem dX9_keptRead_94 : decode cX9_keptRead 94 = .ok (.lushr, 1) := by decide +kernel
theorem dX9_keptRead_95 : decode cX9_keptRead 95 = .ok (.l2i, 1) := by decide +kernel
theorem dX9_keptRead_96 : decode cX9_keptRead 96 = .ok (.istore 4, 2) := by decide +kernel
theorem dX9_keptRead_98 : decode cX9_keptRead 98 = .ok (.aload_n 0, 1) := by decide +kernel
theorem dX9_keptRead_99 : decode cX9_keptRead 99 = .ok (.getfield 32, 3) := by decide +kernel
theorem dX9_keptRead_102 : decode cX9_keptRead 102 = .ok (.iload 4, 2) := by decide +kernel
theorem dX9_keptRead_104 : decode cX9_keptRead 104 = .ok (.laload, 1) := by decide +kernel
theorem dX9_keptRead_105 : decode cX9_keptRead 105 = .ok (.lload_n 2, 1) := by decide +kernel
theorem dX9_keptRead_106 : decode cX9_keptRead 106 = .ok (.lcmp, 1) := by decide +kernel
theorem dX9_keptRead_107 : decode cX9_keptRead 107 = .ok (.ifCond .eq 27, 3) := by decide +kernel
theorem dX9_keptRead_110 : decode cX9_keptRead 110 = .ok (.aload_n 0, 1) := by decide +kernel
theorem dX9_keptRead_111 : decode cX9_keptRead 111 = .ok (.getfield 36, 3) := by decide +kernel
theorem dX9_keptRead_114 : decode cX9_keptRead 114 = .ok (.iload 4, 2) := by decide +kernel
theorem dX9_keptRead_116 : decode cX9_keptRead 116 = .ok (.aload_n 0, 1) := by decide +kernel
theorem dX9_keptRead_117 : decode cX9_keptRead 117 = .ok (.aload_n 0, 1) := by decide +kernel
theorem dX9_keptRead_118 : decode cX9_keptRead 118 = .ok (.getfield 117, 3) := by decide +kernel
theorem dX9_keptRead_121 : decode cX9_keptRead 121 = .ok (.iload_n 1, 1) := by decide +kernel
theorem dX9_keptRead_122 : decode cX9_keptRead 122 = .ok (.invokevirtual 245, 3) := by decide +kernel
theorem dX9_keptRead_125 : decode cX9_keptRead 125 = .ok (.iastore, 1) := by decide +kernel
theorem dX9_keptRead_126 : decode cX9_keptRead 126 = .ok (.aload_n 0, 1) := by decide +kernel
theorem dX9_keptRead_127 : decode cX9_keptRead 127 = .ok (.getfield 32, 3) := by decide +kernel
theorem dX9_keptRead_130 : decode cX9_keptRead 130 = .ok (.iload 4, 2) := by decide +kernel
theorem dX9_keptRead_132 : decode cX9_keptRead 132 = .ok (.lload_n 2, 1) := by decide +kernel
theorem dX9_keptRead_133 : decode cX9_keptRead 133 = .ok (.lastore, 1) := by decide +kernel
theorem dX9_keptRead_134 : decode cX9_keptRead 134 = .ok (.aload_n 0, 1) := by decide +kernel
theorem dX9_keptRead_135 : decode cX9_keptRead 135 = .ok (.getfield 36, 3) := by decide +kernel
theorem dX9_keptRead_138 : decode cX9_keptRead 138 = .ok (.iload 4, 2) := by decide +kernel
theorem dX9_keptRead_140 : decode cX9_keptRead 140 = .ok (.iaload, 1) := by decide +kernel
theorem dX9_keptRead_141 : decode cX9_keptRead 141 = .ok (.ireturn, 1) := by decide +kernel
theorem dX9_yieldsOf_0 : decode cX9_yieldsOf 0 = .ok (.aload_n 0, 1) := by decide +kernel
theorem dX9_yieldsOf_1 : decode cX9_yieldsOf 1 = .ok (.getfield 23, 3) := by decide +kernel
theorem dX9_yieldsOf_4 : decode cX9_yieldsOf 4 = .ok (.iload_n 1, 1) := by decide +kernel
theorem dX9_yieldsOf_5 : decode cX9_yieldsOf 5 = .ok (.iaload, 1) := by decide +kernel
theorem dX9_yieldsOf_6 : decode cX9_yieldsOf 6 = .ok (.istore_n 2, 1) := by decide +kernel
theorem dX9_yieldsOf_7 : decode cX9_yieldsOf 7 = .ok (.aload_n 0, 1) := by decide +kernel
theorem dX9_yieldsOf_8 : decode cX9_yieldsOf 8 = .ok (.getfield 26, 3) := by decide +kernel
theorem dX9_yieldsOf_11 : decode cX9_yieldsOf 11 = .ok (.iconst 3, 1) := by decide +kernel
theorem dX9_yieldsOf_12 : decode cX9_yieldsOf 12 = .ok (.iload_n 1, 1) := by decide +kernel
theorem dX9_yieldsOf_13 : decode cX9_yieldsOf 13 = .ok (.imul, 1) := by decide +kernel
theorem dX9_yieldsOf_14 : decode cX9_yieldsOf 14 = .ok (.iconst 1, 1) := by decide +kernel
theorem dX9_yieldsOf_15 : decode cX9_yieldsOf 15 = .ok (.iadd, 1) := by decide +kernel
theorem dX9_yieldsOf_16 : decode cX9_yieldsOf 16 = .ok (.iaload, 1) := by decide +kernel
theorem dX9_yieldsOf_17 : decode cX9_yieldsOf 17 = .ok (.ifCond .eq 35, 3) := by decide +kernel
theorem dX9_yieldsOf_20 : decode cX9_yieldsOf 20 = .ok (.iload_n 2, 1) := by decide +kernel
theorem dX9_yieldsOf_21 : decode cX9_yieldsOf 21 = .ok (.iconst 4, 1) := by decide +kernel
theorem dX9_yieldsOf_22 : decode cX9_yieldsOf 22 = .ok (.if_icmp .ne 12, 3) := by decide +kernel
theorem dX9_yieldsOf_25 : decode cX9_yieldsOf 25 = .ok (.aload_n 0, 1) := by decide +kernel
theorem dX9_yieldsOf_26 : decode cX9_yieldsOf 26 = .ok (.getfield 114, 3) := by decide +kernel
theorem dX9_yieldsOf_29 : decode cX9_yieldsOf 29 = .ok (.bipush 11, 2) := by decide +kernel
theorem dX9_yieldsOf_31 : decode cX9_yieldsOf 31 = .ok (.if_icmp .lt 21, 3) := by decide +kernel
theorem dX9_yieldsOf_34 : decode cX9_yieldsOf 34 = .ok (.iload_n 2, 1) := by decide +kernel
theorem dX9_yieldsOf_35 : decode cX9_yieldsOf 35 = .ok (.iconst 5, 1) := by decide +kernel
theorem dX9_yieldsOf_36 : decode cX9_yieldsOf 36 = .ok (.if_icmp .ne 18, 3) := by decide +kernel
theorem dX9_yieldsOf_39 : decode cX9_yieldsOf 39 = .ok (.aload_n 0, 1) := by decide +kernel
theorem dX9_yieldsOf_40 : decode cX9_yieldsOf 40 = .ok (.getfield 26, 3) := by decide +kernel
theorem dX9_yieldsOf_43 : decode cX9_yieldsOf 43 = .ok (.iconst 3, 1) := by decide +kernel
theorem dX9_yieldsOf_44 : decode cX9_yieldsOf 44 = .ok (.iload_n 1, 1) := by decide +kernel
theorem dX9_yieldsOf_45 : decode cX9_yieldsOf 45 = .ok (.imul, 1) := by decide +kernel
theorem dX9_yieldsOf_46 : decode cX9_yieldsOf 46 = .ok (.iconst 2, 1) := by decide +kernel
theorem dX9_yieldsOf_47 : decode cX9_yieldsOf 47 = .ok (.iadd, 1) := by decide +kernel
theorem dX9_yieldsOf_48 : decode cX9_yieldsOf 48 = .ok (.iaload, 1) := by decide +kernel
theorem dX9_yieldsOf_49 : decode cX9_yieldsOf 49 = .ok (.ifCond .le 5, 3) := by decide +kernel
theorem dX9_yieldsOf_52 : decode cX9_yieldsOf 52 = .ok (.iconst 0, 1) := by decide +kernel
theorem dX9_yieldsOf_53 : decode cX9_yieldsOf 53 = .ok (.ireturn, 1) := by decide +kernel
theorem dX9_yieldsOf_54 : decode cX9_yieldsOf 54 = .ok (.aload_n 0, 1) := by decide +kernel
theorem dX9_yieldsOf_55 : decode cX9_yieldsOf 55 = .ok (.iconst 0, 1) := by decide +kernel
theorem dX9_yieldsOf_56 : decode cX9_yieldsOf 56 = .ok (.iload_n 1, 1) := by decide +kernel
theorem dX9_yieldsOf_57 : decode cX9_yieldsOf 57 = .ok (.iconst 0, 1) := by decide +kernel
theorem dX9_yieldsOf_58 : decode cX9_yieldsOf 58 = .ok (.invokevirtual 269, 3) := by decide +kernel
theorem dX9_yieldsOf_61 : decode cX9_yieldsOf 61 = .ok (.istore_n 3, 1) := by decide +kernel
theorem dX9_yieldsOf_62 : decode cX9_yieldsOf 62 = .ok (.aload_n 0, 1) := by decide +kernel
theorem dX9_yieldsOf_63 : decode cX9_yieldsOf 63 = .ok (.getfield 111, 3) := by decide +kernel
theorem dX9_yieldsOf_66 : decode cX9_yieldsOf 66 = .ok (.iconst 2, 1) := by decide +kernel
theorem dX9_yieldsOf_67 : decode cX9_yieldsOf 67 = .ok (.irem, 1) := by decide +kernel
theorem dX9_yieldsOf_68 : decode cX9_yieldsOf 68 = .ok (.iconst 1, 1) := by decide +kernel
theorem dX9_yieldsOf_69 : decode cX9_yieldsOf 69 = .ok (.if_icmp .ne 16, 3) := by decide +kernel
theorem dX9_yieldsOf_72 : decode cX9_yieldsOf 72 = .ok (.iload_n 3, 1) := by decide +kernel
theorem dX9_yieldsOf_73 : decode cX9_yieldsOf 73 = .ok (.aload_n 0, 1) := by decide +kernel
theorem dX9_yieldsOf_74 : decode cX9_yieldsOf 74 = .ok (.getfield 26, 3) := by decide +kernel
theorem dX9_yieldsOf_77 : decode cX9_yieldsOf 77 = .ok (.iconst 3, 1) := by decide +kernel
theorem dX9_yieldsOf_78 : decode cX9_yieldsOf 78 = .ok (.iload_n 1, 1) := by decide +kernel
theorem dX9_yieldsOf_79 : decode cX9_yieldsOf 79 = .ok (.imul, 1) := by decide +kernel
theorem dX9_yieldsOf_80 : decode cX9_yieldsOf 80 = .ok (.iaload, 1) := by decide +kernel
theorem dX9_yieldsOf_81 : decode cX9_yieldsOf 81 = .ok (.iadd, 1) := by decide +kernel
theorem dX9_yieldsOf_82 : decode cX9_yieldsOf 82 = .ok (.goto 4, 3) := by decide +kernel
theorem dX9_yieldsOf_85 : decode cX9_yieldsOf 85 = .ok (.iload_n 3, 1) := by decide +kernel
theorem dX9_yieldsOf_86 : decode cX9_yieldsOf 86 = .ok (.iconst 0, 1) := by decide +kernel
theorem dX9_yieldsOf_87 : decode cX9_yieldsOf 87 = .ok (.bipush 99, 2) := by decide +kernel
theorem dX9_yieldsOf_89 : decode cX9_yieldsOf 89 = .ok (.invokestatic 251, 3) := by decide +kernel
theorem dX9_yieldsOf_92 : decode cX9_yieldsOf 92 = .ok (.istore 4, 2) := by decide +kernel
theorem dX9_yieldsOf_94 : decode cX9_yieldsOf 94 = .ok (.iload_n 2, 1) := by decide +kernel
theorem dX9_yieldsOf_95 : decode cX9_yieldsOf 95 = .ok (.iconst 1, 1) := by decide +kernel
theorem dX9_yieldsOf_96 : decode cX9_yieldsOf 96 = .ok (.if_icmp .ne 8, 3) := by decide +kernel
theorem dX9_yieldsOf_99 : decode cX9_yieldsOf 99 = .ok (.iload 4, 2) := by decide +kernel
theorem dX9_yieldsOf_101 : decode cX9_yieldsOf 101 = .ok (.goto 36, 3) := by decide +kernel
theorem dX9_yieldsOf_104 : decode cX9_yieldsOf 104 = .ok (.iload_n 2, 1) := by decide +kernel
theorem dX9_yieldsOf_105 : decode cX9_yieldsOf 105 = .ok (.iconst 3, 1) := by decide +kernel
theorem dX9_yieldsOf_106 : decode cX9_yieldsOf 106 = .ok (.if_icmp .ne 14, 3) := by decide +kernel
theorem dX9_yieldsOf_109 : decode cX9_yieldsOf 109 = .ok (.iload 4, 2) := by decide +kernel
theorem dX9_yieldsOf_111 : decode cX9_yieldsOf 111 = .ok (.iconst 0, 1) := by decide +kernel
theorem dX9_yieldsOf_112 : decode cX9_yieldsOf 112 = .ok (.bipush 20, 2) := by decide +kernel
theorem dX9_yieldsOf_114 : decode cX9_yieldsOf 114 = .ok (.invokestatic 251, 3) := by decide +kernel
theorem dX9_yieldsOf_117 : decode cX9_yieldsOf 117 = .ok (.goto 20, 3) := by decide +kernel
theorem dX9_yieldsOf_120 : decode cX9_yieldsOf 120 = .ok (.iload_n 2, 1) := by decide +kernel
theorem dX9_yieldsOf_121 : decode cX9_yieldsOf 121 = .ok (.iconst 2, 1) := by decide +kernel
theorem dX9_yieldsOf_122 : decode cX9_yieldsOf 122 = .ok (.if_icmp .eq 8, 3) := by decide +kernel
theorem dX9_yieldsOf_125 : decode cX9_yieldsOf 125 = .ok (.iload_n 2, 1) := by decide +kernel
theorem dX9_yieldsOf_126 : decode cX9_yieldsOf 126 = .ok (.iconst 4, 1) := by decide +kernel
theorem dX9_yieldsOf_127 : decode cX9_yieldsOf 127 = .ok (.if_icmp .ne 9, 3) := by decide +kernel
theorem dX9_yieldsOf_130 : decode cX9_yieldsOf 130 = .ok (.iconst 2, 1) := by decide +kernel
theorem dX9_yieldsOf_131 : decode cX9_yieldsOf 131 = .ok (.iload_n 3, 1) := by decide +kernel
theorem dX9_yieldsOf_132 : decode cX9_yieldsOf 132 = .ok (.imul, 1) := by decide +kernel
theorem dX9_yieldsOf_133 : decode cX9_yieldsOf 133 = .ok (.goto 4, 3) := by decide +kernel
theorem dX9_yieldsOf_136 : decode cX9_yieldsOf 136 = .ok (.iload_n 3, 1) := by decide +kernel
theorem dX9_yieldsOf_137 : decode cX9_yieldsOf 137 = .ok (.iconst 0, 1) := by decide +kernel
theorem dX9_yieldsOf_138 : decode cX9_yieldsOf 138 = .ok (.bipush 99, 2) := by decide +kernel
theorem dX9_yieldsOf_140 : decode cX9_yieldsOf 140 = .ok (.invokestatic 251, 3) := by decide +kernel
theorem dX9_yieldsOf_143 : decode cX9_yieldsOf 143 = .ok (.ireturn, 1) := by decide +kernel
theorem dX9_suits_0 : decode cX9_suits 0 = .ok (.aload_n 0, 1) := by decide +kernel
theorem dX9_suits_1 : decode cX9_suits 1 = .ok (.getfield 23, 3) := by decide +kernel
theorem dX9_suits_4 : decode cX9_suits 4 = .ok (.iload_n 1, 1) := by decide +kernel
theorem dX9_suits_5 : decode cX9_suits 5 = .ok (.iaload, 1) := by decide +kernel
theorem dX9_suits_6 : decode cX9_suits 6 = .ok (.istore_n 3, 1) := by decide +kernel
theorem dX9_suits_7 : decode cX9_suits 7 = .ok (.aload_n 0, 1) := by decide +kernel
theorem dX9_suits_8 : decode cX9_suits 8 = .ok (.getfield 29, 3) := by decide +kernel
theorem dX9_suits_11 : decode cX9_suits 11 = .ok (.iconst 3, 1) := by decide +kernel
theorem dX9_suits_12 : decode cX9_suits 12 = .ok (.iload_n 2, 1) := by decide +kernel
theorem dX9_suits_13 : decode cX9_suits 13 = .ok (.imul, 1) := by decide +kernel
theorem dX9_suits_14 : decode cX9_suits 14 = .ok (.iconst 1, 1) := by decide +kernel
theorem dX9_suits_15 : decode cX9_suits 15 = .ok (.iadd, 1) := by decide +kernel
theorem dX9_suits_16 : decode cX9_suits 16 = .ok (.iaload, 1) := by decide +kernel
theorem dX9_suits_17 : decode cX9_suits 17 = .ok (.istore 4, 2) := by decide +kernel
theorem dX9_suits_19 : decode cX9_suits 19 = .ok (.iload_n 3, 1) := by decide +kernel
theorem dX9_suits_20 : decode cX9_suits 20 = .ok (.iconst 4, 1) := by decide +kernel
theorem dX9_suits_21 : decode cX9_suits 21 = .ok (.if_icmp .eq 8, 3) := by decide +kernel
theorem dX9_suits_24 : decode cX9_suits 24 = .ok (.iload_n 3, 1) := by decide +kernel
theorem dX9_suits_25 : decode cX9_suits 25 = .ok (.iconst 5, 1) := by decide +kernel
theorem dX9_suits_26 : decode cX9_suits 26 = .ok (.if_icmp .ne 19, 3) := by decide +kernel
theorem dX9_suits_29 : decode cX9_suits 29 = .ok (.iload_n 3, 1) := by decide +kernel
theorem dX9_suits_30 : decode cX9_suits 30 = .ok (.iconst 5, 1) := by decide +kernel
theorem dX9_suits_31 : decode cX9_suits 31 = .ok (.if_icmp .eq 8, 3) := by decide +kernel
theorem dX9_suits_34 : decode cX9_suits 34 = .ok (.iload_n 2, 1) := by decide +kernel
theorem dX9_suits_35 : decode cX9_suits 35 = .ok (.iconst 5, 1) := by decide +kernel
theorem dX9_suits_36 : decode cX9_suits 36 = .ok (.if_icmp .ne 7, 3) := by decide +kernel
theorem dX9_suits_39 : decode cX9_suits 39 = .ok (.iconst 1, 1) := by decide +kernel
theorem dX9_suits_40 : decode cX9_suits 40 = .ok (.goto 4, 3) := by decide +kernel
theorem dX9_suits_43 : decode cX9_suits 43 = .ok (.iconst 0, 1) := by decide +kernel
theorem dX9_suits_44 : decode cX9_suits 44 = .ok (.ireturn, 1) := by decide +kernel
theorem dX9_suits_45 : decode cX9_suits 45 = .ok (.aload_n 0, 1) := by decide +kernel
theorem dX9_suits_46 : decode cX9_suits 46 = .ok (.iconst 1, 1) := by decide +kernel
theorem dX9_suits_47 : decode cX9_suits 47 = .ok (.iload_n 1, 1) := by decide +kernel
theorem dX9_suits_48 : decode cX9_suits 48 = .ok (.iload 4, 2) := by decide +kernel
theorem dX9_suits_50 : decode cX9_suits 50 = .ok (.invokevirtual 269, 3) := by decide +kernel
theorem dX9_suits_53 : decode cX9_suits 53 = .ok (.ifCond .eq 7, 3) := by decide +kernel
theorem dX9_suits_56 : decode cX9_suits 56 = .ok (.iconst 1, 1) := by decide +kernel
theorem dX9_suits_57 : decode cX9_suits 57 = .ok (.goto 4, 3) := by decide +kernel
theorem dX9_suits_60 : decode cX9_suits 60 = .ok (.iconst 0, 1) := by decide +kernel
theorem dX9_suits_61 : decode cX9_suits 61 = .ok (.istore 5, 2) := by decide +kernel
theorem dX9_suits_63 : decode cX9_suits 63 = .ok (.iload 5, 2) := by decide +kernel
theorem dX9_suits_65 : decode cX9_suits 65 = .ok (.ifCond .eq 20, 3) := by decide +kernel
theorem dX9_suits_68 : decode cX9_suits 68 = .ok (.iload 4, 2) := by decide +kernel
theorem dX9_suits_70 : decode cX9_suits 70 = .ok (.aload_n 0, 1) := by decide +kernel
theorem dX9_suits_71 : decode cX9_suits 71 = .ok (.getfield 26, 3) := by decide +kernel
theorem dX9_suits_74 : decode cX9_suits 74 = .ok (.iconst 3, 1) := by decide +kernel
theorem dX9_suits_75 : decode cX9_suits 75 = .ok (.iload_n 1, 1) := by decide +kernel
theorem dX9_suits_76 : decode cX9_suits 76 = .ok (.imul, 1) := by decide +kernel
theorem dX9_suits_77 : decode cX9_suits 77 = .ok (.iaload, 1) := by decide +kernel
theorem dX9_suits_78 : decode cX9_suits 78 = .ok (.if_icmp .eq 7, 3) := by decide +kernel
theorem dX9_suits_81 : decode cX9_suits 81 = .ok (.iconst 1, 1) := by decide +kernel
theorem dX9_suits_82 : decode cX9_suits 82 = .ok (.goto 4, 3) := by decide +kernel
theorem dX9_suits_85 : decode cX9_suits 85 = .ok (.iconst 0, 1) := by decide +kernel
theorem dX9_suits_86 : decode cX9_suits 86 = .ok (.istore 6, 2) := by decide +kernel
theorem dX9_suits_88 : decode cX9_suits 88 = .ok (.iload_n 3, 1) := by decide +kernel
theorem dX9_suits_89 : decode cX9_suits 89 = .ok (.iconst 1, 1) := by decide +kernel
theorem dX9_suits_90 : decode cX9_suits 90 = .ok (.if_icmp .ne 8, 3) := by decide +kernel
theorem dX9_suits_93 : decode cX9_suits 93 = .ok (.iload 6, 2) := by decide +kernel
theorem dX9_suits_95 : decode cX9_suits 95 = .ok (.goto 54, 3) := by decide +kernel
theorem dX9_suits_98 : decode cX9_suits 98 = .ok (.iload_n 3, 1) := by decide +kernel
theorem dX9_suits_99 : decode cX9_suits 99 = .ok (.iconst 3, 1) := by decide +kernel
theorem dX9_suits_100 : decode cX9_suits 100 = .ok (.if_icmp .ne 23, 3) := by decide +kernel
theorem dX9_suits_103 : decode cX9_suits 103 = .ok (.iload 6, 2) := by decide +kernel
theorem dX9_suits_105 : decode cX9_suits 105 = .ok (.ifCond .ne 10, 3) := by decide +kernel
theorem dX9_suits_108 : decode cX9_suits 108 = .ok (.iload 4, 2) := by decide +kernel
theorem dX9_suits_110 : decode cX9_suits 110 = .ok (.bipush 9, 2) := by decide +kernel
theorem dX9_suits_112 : decode cX9_suits 112 = .ok (.if_icmp .ne 7, 3) := by decide +kernel
theorem dX9_suits_115 : decode cX9_suits 115 = .ok (.iconst 1, 1) := by decide +kernel
theorem dX9_suits_116 : decode cX9_suits 116 = .ok (.goto 33, 3) := by decide +kernel
theorem dX9_suits_119 : decode cX9_suits 119 = .ok (.iconst 0, 1) := by decide +kernel
theorem dX9_suits_120 : decode cX9_suits 120 = .ok (.goto 29, 3) := by decide +kernel
theorem dX9_suits_123 : decode cX9_suits 123 = .ok (.iload_n 3, 1) := by decide +kernel
theorem dX9_suits_124 : decode cX9_suits 124 = .ok (.iconst 2, 1) := by decide +kernel
theorem dX9_suits_125 : decode cX9_suits 125 = .ok (.if_icmp .ne 22, 3) := by decide +kernel
theorem dX9_suits_128 : decode cX9_suits 128 = .ok (.iload 5, 2) := by decide +kernel
theorem dX9_suits_130 : decode cX9_suits 130 = .ok (.ifCond .ne 9, 3) := by decide +kernel
theorem dX9_suits_133 : decode cX9_suits 133 = .ok (.iload 4, 2) := by decide +kernel
theorem dX9_suits_135 : decode cX9_suits 135 = .ok (.iconst 3, 1) := by decide +kernel
theorem dX9_suits_136 : decode cX9_suits 136 = .ok (.if_icmp .ge 7, 3) := by decide +kernel
theorem dX9_suits_139 : decode cX9_suits 139 = .ok (.iconst 1, 1) := by decide +kernel
theorem dX9_suits_140 : decode cX9_suits 140 = .ok (.goto 9, 3) := by decide +kernel
theorem dX9_suits_143 : decode cX9_suits 143 = .ok (.iconst 0, 1) := by decide +kernel
theorem dX9_suits_144 : decode cX9_suits 144 = .ok (.goto 5, 3) := by decide +kernel
theorem dX9_suits_147 : decode cX9_suits 147 = .ok (.iload 5, 2) := by decide +kernel
theorem dX9_suits_149 : decode cX9_suits 149 = .ok (.ireturn, 1) := by decide +kernel
theorem dX9_suitSet_0 : decode cX9_suitSet 0 = .ok (.iconst 0, 1) := by decide +kernel
theorem dX9_suitSet_1 : decode cX9_suitSet 1 = .ok (.istore_n 2, 1) := by decide +kernel
theorem dX9_suitSet_2 : decode cX9_suitSet 2 = .ok (.iconst 0, 1) := by decide +kernel
theorem dX9_suitSet_3 : decode cX9_suitSet 3 = .ok (.istore_n 3, 1) := by decide +kernel
theorem dX9_suitSet_4 : decode cX9_suitSet 4 = .ok (.iload_n 3, 1) := by decide +kernel
theorem dX9_suitSet_5 : decode cX9_suitSet 5 = .ok (.bipush 6, 2) := by decide +kernel
theorem dX9_suitSet_7 : decode cX9_suitSet 7 = .ok (.if_icmp .ge 28, 3) := by decide +kernel
theorem dX9_suitSet_10 : decode cX9_suitSet 10 = .ok (.iload_n 2, 1) := by decide +kernel
theorem dX9_suitSet_11 : decode cX9_suitSet 11 = .ok (.aload_n 0, 1) := by decide +kernel
theorem dX9_suitSet_12 : decode cX9_suitSet 12 = .ok (.iload_n 1, 1) := by decide +kernel
theorem dX9_suitSet_13 : decode cX9_suitSet 13 = .ok (.iload_n 3, 1) := by decide +kernel
theorem dX9_suitSet_14 : decode cX9_suitSet 14 = .ok (.invokevirtual 272, 3) := by decide +kernel
theorem dX9_suitSet_17 : decode cX9_suitSet 17 = .ok (.ifCond .eq 7, 3) := by decide +kernel
theorem dX9_suitSet_20 : decode cX9_suitSet 20 = .ok (.iconst 1, 1) := by decide +kernel
theorem dX9_suitSet_21 : decode cX9_suitSet 21 = .ok (.goto 4, 3) := by decide +kernel
theorem dX9_suitSet_24 : decode cX9_suitSet 24 = .ok (.iconst 0, 1) := by decide +kernel
theorem dX9_suitSet_25 : decode cX9_suitSet 25 = .ok (.iload_n 3, 1) := by decide +kernel
theorem dX9_suitSet_26 : decode cX9_suitSet 26 = .ok (.ishl, 1) := by decide +kernel
theorem dX9_suitSet_27 : decode cX9_suitSet 27 = .ok (.ior, 1) := by decide +kernel
theorem dX9_suitSet_28 : decode cX9_suitSet 28 = .ok (.istore_n 2, 1) := by decide +kernel
theorem dX9_suitSet_29 : decode cX9_suitSet 29 = .ok (.iinc 3 1, 3) := by decide +kernel
theorem dX9_suitSet_32 : decode cX9_suitSet 32 = .ok (.goto (-28), 3) := by decide +kernel
theorem dX9_suitSet_35 : decode cX9_suitSet 35 = .ok (.iload_n 2, 1) := by decide +kernel
theorem dX9_suitSet_36 : decode cX9_suitSet 36 = .ok (.ireturn, 1) := by decide +kernel
theorem dX9_easedBy_0 : decode cX9_easedBy 0 = .ok (.aload_n 0, 1) := by decide +kernel
theorem dX9_easedBy_1 : decode cX9_easedBy 1 = .ok (.getfield 23, 3) := by decide +kernel
theorem dX9_easedBy_4 : decode cX9_easedBy 4 = .ok (.iload_n 1, 1) := by decide +kernel
theorem dX9_easedBy_5 : decode cX9_easedBy 5 = .ok (.iaload, 1) := by decide +kernel
theorem dX9_easedBy_6 : decode cX9_easedBy 6 = .ok (.istore_n 2, 1) := by decide +kernel
theorem dX9_easedBy_7 : decode cX9_easedBy 7 = .ok (.iload_n 2, 1) := by decide +kernel
theorem dX9_easedBy_8 : decode cX9_easedBy 8 = .ok (.iconst 2, 1) := by decide +kernel
theorem dX9_easedBy_9 : decode cX9_easedBy 9 = .ok (.if_icmp .eq 8, 3) := by decide +kernel
theorem dX9_easedBy_12 : decode cX9_easedBy 12 = .ok (.iload_n 2, 1) := by decide +kernel
theorem dX9_easedBy_13 : decode cX9_easedBy 13 = .ok (.iconst 4, 1) := by decide +kernel
theorem dX9_easedBy_14 : decode cX9_easedBy 14 = .ok (.if_icmp .ne 22, 3) := by decide +kernel
theorem dX9_easedBy_17 : decode cX9_easedBy 17 = .ok (.iload_n 2, 1) := by decide +kernel
theorem dX9_easedBy_18 : decode cX9_easedBy 18 = .ok (.iconst 4, 1) := by decide +kernel
theorem dX9_easedBy_19 : decode cX9_easedBy 19 = .ok (.if_icmp .ne 15, 3) := by decide +kernel
theorem dX9_easedBy_22 : decode cX9_easedBy 22 = .ok (.aload_n 0, 1) := by decide +kernel
theorem dX9_easedBy_23 : decode cX9_easedBy 23 = .ok (.getfield 26, 3) := by decide +kernel
theorem dX9_easedBy_26 : decode cX9_easedBy 26 = .ok (.iconst 3, 1) := by decide +kernel
theorem dX9_easedBy_27 : decode cX9_easedBy 27 = .ok (.iload_n 1, 1) := by decide +kernel
theorem dX9_easedBy_28 : decode cX9_easedBy 28 = .ok (.imul, 1) := by decide +kernel
theorem dX9_easedBy_29 : decode cX9_easedBy 29 = .ok (.iaload, 1) := by decide +kernel
theorem dX9_easedBy_30 : decode cX9_easedBy 30 = .ok (.ineg, 1) := by decide +kernel
theorem dX9_easedBy_31 : decode cX9_easedBy 31 = .ok (.goto 4, 3) := by decide +kernel
theorem dX9_easedBy_34 : decode cX9_easedBy 34 = .ok (.iconst 0, 1) := by decide +kernel
theorem dX9_easedBy_35 : decode cX9_easedBy 35 = .ok (.ireturn, 1) := by decide +kernel
theorem dX9_easedBy_36 : decode cX9_easedBy 36 = .ok (.iload_n 2, 1) := by decide +kernel
theorem dX9_easedBy_37 : decode cX9_easedBy 37 = .ok (.iconst 5, 1) := by decide +kernel
theorem dX9_easedBy_38 : decode cX9_easedBy 38 = .ok (.if_icmp .ne 27, 3) := by decide +kernel
theorem dX9_easedBy_41 : decode cX9_easedBy 41 = .ok (.aload_n 0, 1) := by decide +kernel
theorem dX9_easedBy_42 : decode cX9_easedBy 42 = .ok (.getfield 26, 3) := by decide +kernel
theorem dX9_easedBy_45 : decode cX9_easedBy 45 = .ok (.iconst 3, 1) := by decide +kernel
theorem dX9_easedBy_46 : decode cX9_easedBy 46 = .ok (.iload_n 1, 1) := by decide +kernel
theorem dX9_easedBy_47 : decode cX9_easedBy 47 = .ok (.imul, 1) := by decide +kernel
theorem dX9_easedBy_48 : decode cX9_easedBy 48 = .ok (.iconst 2, 1) := by decide +kernel
theorem dX9_easedBy_49 : decode cX9_easedBy 49 = .ok (.iadd, 1) := by decide +kernel
theorem dX9_easedBy_50 : decode cX9_easedBy 50 = .ok (.iaload, 1) := by decide +kernel
theorem dX9_easedBy_51 : decode cX9_easedBy 51 = .ok (.ifCond .le 14, 3) := by decide +kernel
theorem dX9_easedBy_54 : decode cX9_easedBy 54 = .ok (.aload_n 0, 1) := by decide +kernel
theorem dX9_easedBy_55 : decode cX9_easedBy 55 = .ok (.getfield 26, 3) := by decide +kernel
theorem dX9_easedBy_58 : decode cX9_easedBy 58 = .ok (.iconst 3, 1) := by decide +kernel
theorem dX9_easedBy_59 : decode cX9_easedBy 59 = .ok (.iload_n 1, 1) := by decide +kernel
theorem dX9_easedBy_60 : decode cX9_easedBy 60 = .ok (.imul, 1) := by decide +kernel
theorem dX9_easedBy_61 : decode cX9_easedBy 61 = .ok (.iconst 1, 1) := by decide +kernel
theorem dX9_easedBy_62 : decode cX9_easedBy 62 = .ok (.iadd, 1) := by decide +kernel
theorem dX9_easedBy_63 : decode cX9_easedBy 63 = .ok (.iaload, 1) := by decide +kernel
theorem dX9_easedBy_64 : decode cX9_easedBy 64 = .ok (.ireturn, 1) := by decide +kernel
theorem dX9_easedBy_65 : decode cX9_easedBy 65 = .ok (.iload_n 2, 1) := by decide +kernel
theorem dX9_easedBy_66 : decode cX9_easedBy 66 = .ok (.iconst 3, 1) := by decide +kernel
theorem dX9_easedBy_67 : decode cX9_easedBy 67 = .ok (.if_icmp .ne 15, 3) := by decide +kernel
theorem dX9_easedBy_70 : decode cX9_easedBy 70 = .ok (.aload_n 0, 1) := by decide +kernel
theorem dX9_easedBy_71 : decode cX9_easedBy 71 = .ok (.getfield 111, 3) := by decide +kernel
theorem dX9_easedBy_74 : decode cX9_easedBy 74 = .ok (.bipush 7, 2) := by decide +kernel
theorem dX9_easedBy_76 : decode cX9_easedBy 76 = .ok (.irem, 1) := by decide +kernel
theorem dX9_easedBy_77 : decode cX9_easedBy 77 = .ok (.ifCond .ne 5, 3) := by decide +kernel
theorem dX9_easedBy_80 : decode cX9_easedBy 80 = .ok (.iconst (-1), 1) := by decide +kernel
theorem dX9_easedBy_81 : decode cX9_easedBy 81 = .ok (.ireturn, 1) := by decide +kernel
theorem dX9_easedBy_82 : decode cX9_easedBy 82 = .ok (.aload_n 0, 1) := by decide +kernel
theorem dX9_easedBy_83 : decode cX9_easedBy 83 = .ok (.iconst 2, 1) := by decide +kernel
theorem dX9_easedBy_84 : decode cX9_easedBy 84 = .ok (.iload_n 1, 1) := by decide +kernel
theorem dX9_easedBy_85 : decode cX9_easedBy 85 = .ok (.iconst 0, 1) := by decide +kernel
theorem dX9_easedBy_86 : decode cX9_easedBy 86 = .ok (.invokevirtual 269, 3) := by decide +kernel
theorem dX9_easedBy_89 : decode cX9_easedBy 89 = .ok (.istore_n 3, 1) := by decide +kernel
theorem dX9_easedBy_90 : decode cX9_easedBy 90 = .ok (.iload_n 2, 1) := by decide +kernel
theorem dX9_easedBy_91 : decode cX9_easedBy 91 = .ok (.iconst 1, 1) := by decide +kernel
theorem dX9_easedBy_92 : decode cX9_easedBy 92 = .ok (.if_icmp .eq 8, 3) := by decide +kernel
theorem dX9_easedBy_95 : decode cX9_easedBy 95 = .ok (.iload_n 2, 1) := by decide +kernel
theorem dX9_easedBy_96 : decode cX9_easedBy 96 = .ok (.iconst 3, 1) := by decide +kernel
theorem dX9_easedBy_97 : decode cX9_easedBy 97 = .ok (.if_icmp .ne 9, 3) := by decide +kernel
theorem dX9_easedBy_100 : decode cX9_easedBy 100 = .ok (.iload_n 3, 1) := by decide +kernel
theorem dX9_easedBy_101 : decode cX9_easedBy 101 = .ok (.iconst 2, 1) := by decide +kernel
theorem dX9_easedBy_102 : decode cX9_easedBy 102 = .ok (.idiv, 1) := by decide +kernel
theorem dX9_easedBy_103 : decode cX9_easedBy 103 = .ok (.goto 4, 3) := by decide +kernel
theorem dX9_easedBy_106 : decode cX9_easedBy 106 = .ok (.iload_n 3, 1) := by decide +kernel
theorem dX9_easedBy_107 : decode cX9_easedBy 107 = .ok (.ireturn, 1) := by decide +kernel
theorem dX9_eased_0 : decode cX9_eased 0 = .ok (.aload_n 0, 1) := by decide +kernel
theorem dX9_eased_1 : decode cX9_eased 1 = .ok (.iload_n 1, 1) := by decide +kernel
theorem dX9_eased_2 : decode cX9_eased 2 = .ok (.invokevirtual 90, 3) := by decide +kernel
theorem dX9_eased_5 : decode cX9_eased 5 = .ok (.ifCond .eq 11, 3) := by decide +kernel
theorem dX9_eased_8 : decode cX9_eased 8 = .ok (.aload_n 0, 1) := by decide +kernel
theorem dX9_eased_9 : decode cX9_eased 9 = .ok (.iload_n 1, 1) := by decide +kernel
theorem dX9_eased_10 : decode cX9_eased 10 = .ok (.invokevirtual 275, 3) := by decide +kernel
theorem dX9_eased_13 : decode cX9_eased 13 = .ok (.goto 6, 3) := by decide +kernel
theorem dX9_eased_16 : decode cX9_eased 16 = .ok (.sipush (-1000), 3) := by decide +kernel
theorem dX9_eased_19 : decode cX9_eased 19 = .ok (.ireturn, 1) := by decide +kernel
theorem dX9_passes_0 : decode cX9_passes 0 = .ok (.iconst 0, 1) := by decide +kernel
theorem dX9_passes_1 : decode cX9_passes 1 = .ok (.istore_n 1, 1) := by decide +kernel
theorem dX9_passes_2 : decode cX9_passes 2 = .ok (.iconst 0, 1) := by decide +kernel
theorem dX9_passes_3 : decode cX9_passes 3 = .ok (.istore_n 2, 1) := by decide +kernel
theorem dX9_passes_4 : decode cX9_passes 4 = .ok (.iload_n 2, 1) := by decide +kernel
theorem dX9_passes_5 : decode cX9_passes 5 = .ok (.bipush 6, 2) := by decide +kernel
theorem dX9_passes_7 : decode cX9_passes 7 = .ok (.if_icmp .ge 20, 3) := by decide +kernel
theorem dX9_passes_10 : decode cX9_passes 10 = .ok (.aload_n 0, 1) := by decide +kernel
theorem dX9_passes_11 : decode cX9_passes 11 = .ok (.getfield 29, 3) := by decide +kernel
theorem dX9_passes_14 : decode cX9_passes 14 = .ok (.iconst 3, 1) := by decide +kernel
theorem dX9_passes_15 : decode cX9_passes 15 = .ok (.iload_n 2, 1) := by decide +kernel
theorem dX9_passes_16 : decode cX9_passes 16 = .ok (.imul, 1) := by decide +kernel
theorem dX9_passes_17 : decode cX9_passes 17 = .ok (.iconst 2, 1) := by decide +kernel
theorem dX9_passes_18 : decode cX9_passes 18 = .ok (.iadd, 1) := by decide +kernel
theorem dX9_passes_19 : decode cX9_passes 19 = .ok (.iconst 0, 1) := by decide +kernel
theorem dX9_passes_20 : decode cX9_passes 20 = .ok (.iastore, 1) := by decide +kernel
theorem dX9_passes_21 : decode cX9_passes 21 = .ok (.iinc 2 1, 3) := by decide +kernel
theorem dX9_passes_24 : decode cX9_passes 24 = .ok (.goto (-20), 3) := by decide +kernel
theorem dX9_passes_27 : decode cX9_passes 27 = .ok (.iconst 0, 1) := by decide +kernel
theorem dX9_passes_28 : decode cX9_passes 28 = .ok (.istore_n 2, 1) := by decide +kernel
theorem dX9_passes_29 : decode cX9_passes 29 = .ok (.iload_n 2, 1) := by decide +kernel
theorem dX9_passes_30 : decode cX9_passes 30 = .ok (.aload_n 0, 1) := by decide +kernel
theorem dX9_passes_31 : decode cX9_passes 31 = .ok (.getfield 77, 3) := by decide +kernel
theorem dX9_passes_34 : decode cX9_passes 34 = .ok (.if_icmp .ge 124, 3) := by decide +kernel
theorem dX9_passes_37 : decode cX9_passes 37 = .ok (.aload_n 0, 1) := by decide +kernel
theorem dX9_passes_38 : decode cX9_passes 38 = .ok (.iload_n 2, 1) := by decide +kernel
theorem dX9_passes_39 : decode cX9_passes 39 = .ok (.invokevirtual 126, 3) := by decide +kernel
theorem dX9_passes_42 : decode cX9_passes 42 = .ok (.istore_n 3, 1) := by decide +kernel
theorem dX9_passes_43 : decode cX9_passes 43 = .ok (.aload_n 0, 1) := by decide +kernel
theorem dX9_passes_44 : decode cX9_passes 44 = .ok (.getfield 42, 3) := by decide +kernel
theorem dX9_passes_47 : decode cX9_passes 47 = .ok (.iload_n 2, 1) := by decide +kernel
theorem dX9_passes_48 : decode cX9_passes 48 = .ok (.aload_n 0, 1) := by decide +kernel
theorem dX9_passes_49 : decode cX9_passes 49 = .ok (.iload_n 2, 1) := by decide +kernel
theorem dX9_passes_50 : decode cX9_passes 50 = .ok (.invokevirtual 275, 3) := by decide +kernel
theorem dX9_passes_53 : decode cX9_passes 53 = .ok (.iastore, 1) := by decide +kernel
theorem dX9_passes_54 : decode cX9_passes 54 = .ok (.iconst 0, 1) := by decide +kernel
theorem dX9_passes_55 : decode cX9_passes 55 = .ok (.istore 4, 2) := by decide +kernel
theorem dX9_passes_57 : decode cX9_passes 57 = .ok (.iload 4, 2) := by decide +kernel
theorem dX9_passes_59 : decode cX9_passes 59 = .ok (.bipush 6, 2) := by decide +kernel
theorem dX9_passes_61 : decode cX9_passes 61 = .ok (.if_icmp .ge 91, 3) := by decide +kernel
theorem dX9_passes_64 : decode cX9_passes 64 = .ok (.aload_n 0, 1) := by decide +kernel
theorem dX9_passes_65 : decode cX9_passes 65 = .ok (.iload_n 2, 1) := by decide +kernel
theorem dX9_passes_66 : decode cX9_passes 66 = .ok (.iload 4, 2) := by decide +kernel
theorem dX9_passes_68 : decode cX9_passes 68 = .ok (.invokevirtual 272, 3) := by decide +kernel
theorem dX9_passes_71 : decode cX9_passes 71 = .ok (.ifCond .eq 32, 3) := by decide +kernel
theorem dX9_passes_74 : decode cX9_passes 74 = .ok (.aload_n 0, 1) := by decide +kernel
theorem dX9_passes_75 : decode cX9_passes 75 = .ok (.getfield 29, 3) := by decide +kernel
theorem dX9_passes_78 : decode cX9_passes 78 = .ok (.iconst 3, 1) := by decide +kernel
theorem dX9_passes_79 : decode cX9_passes 79 = .ok (.iload 4, 2) := by decide +kernel
theorem dX9_passes_81 : decode cX9_passes 81 = .ok (.imul, 1) := by decide +kernel
theorem dX9_passes_82 : decode cX9_passes 82 = .ok (.iaload, 1) := by decide +kernel
theorem dX9_passes_83 : decode cX9_passes 83 = .ok (.aload_n 0, 1) := by decide +kernel
theorem dX9_passes_84 : decode cX9_passes 84 = .ok (.getfield 29, 3) := by decide +kernel
theorem dX9_passes_87 : decode cX9_passes 87 = .ok (.iconst 3, 1) := by decide +kernel
theorem dX9_passes_88 : decode cX9_passes 88 = .ok (.iload 4, 2) := by decide +kernel
theorem dX9_passes_90 : decode cX9_passes 90 = .ok (.imul, 1) := by decide +kernel
theorem dX9_passes_91 : decode cX9_passes 91 = .ok (.iconst 2, 1) := by decide +kernel
theorem dX9_passes_92 : decode cX9_passes 92 = .ok (.iadd, 1) := by decide +kernel
theorem dX9_passes_93 : decode cX9_passes 93 = .ok (.iaload, 1) := by decide +kernel
