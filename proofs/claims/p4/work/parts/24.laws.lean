variable {tt : QQ}
theorem dX5_atom_0 : decode cX5_atom 0 = .ok (.aload_n 0, 1) := by decide +kernel
theorem dX5_atom_1 : decode cX5_atom 1 = .ok (.getfield 50, 3) := by decide +kernel
theorem dX5_atom_4 : decode cX5_atom 4 = .ok (.iconst 2, 1) := by decide +kernel
theorem dX5_atom_5 : decode cX5_atom 5 = .ok (.if_icmp .ne 21, 3) := by decide +kernel
theorem dX5_atom_8 : decode cX5_atom 8 = .ok (.aload_n 0, 1) := by decide +kernel
theorem dX5_atom_9 : decode cX5_atom 9 = .ok (.getfield 29, 3) := by decide +kernel
theorem dX5_atom_12 : decode cX5_atom 12 = .ok (.aload_n 0, 1) := by decide +kernel
theorem dX5_atom_13 : decode cX5_atom 13 = .ok (.getfield 73, 3) := by decide +kernel
theorem dX5_atom_16 : decode cX5_atom 16 = .ok (.invokevirtual 199, 3) := by decide +kernel
theorem dX5_atom_19 : decode cX5_atom 19 = .ok (.aload_n 0, 1) := by decide +kernel
theorem dX5_atom_20 : decode cX5_atom 20 = .ok (.invokevirtual 47, 3) := by decide +kernel
theorem dX5_atom_23 : decode cX5_atom 23 = .ok (.goto 154, 3) := by decide +kernel
theorem dX5_atom_26 : decode cX5_atom 26 = .ok (.aload_n 0, 1) := by decide +kernel
theorem dX5_atom_27 : decode cX5_atom 27 = .ok (.getfield 50, 3) := by decide +kernel
theorem dX5_atom_30 : decode cX5_atom 30 = .ok (.bipush 40, 2) := by decide +kernel
theorem dX5_atom_32 : decode cX5_atom 32 = .ok (.if_icmp .ne 31, 3) := by decide +kernel
theorem dX5_atom_35 : decode cX5_atom 35 = .ok (.aload_n 0, 1) := by decide +kernel
theorem dX5_atom_36 : decode cX5_atom 36 = .ok (.iload_n 1, 1) := by decide +kernel
theorem dX5_atom_37 : decode cX5_atom 37 = .ok (.invokevirtual 209, 3) := by decide +kernel
theorem dX5_atom_40 : decode cX5_atom 40 = .ok (.ifCond .ne 137, 3) := by decide +kernel
theorem dX5_atom_43 : decode cX5_atom 43 = .ok (.aload_n 0, 1) := by decide +kernel
theorem dX5_atom_44 : decode cX5_atom 44 = .ok (.invokevirtual 47, 3) := by decide +kernel
theorem dX5_atom_47 : decode cX5_atom 47 = .ok (.aload_n 0, 1) := by decide +kernel
theorem dX5_atom_48 : decode cX5_atom 48 = .ok (.iload_n 1, 1) := by decide +kernel
theorem dX5_atom_49 : decode cX5_atom 49 = .ok (.iconst 1, 1) := by decide +kernel
theorem dX5_atom_50 : decode cX5_atom 50 = .ok (.iadd, 1) := by decide +kernel
theorem dX5_atom_51 : decode cX5_atom 51 = .ok (.invokevirtual 124, 3) := by decide +kernel
theorem dX5_atom_54 : decode cX5_atom 54 = .ok (.aload_n 0, 1) := by decide +kernel
theorem dX5_atom_55 : decode cX5_atom 55 = .ok (.bipush 41, 2) := by decide +kernel
theorem dX5_atom_57 : decode cX5_atom 57 = .ok (.invokevirtual 56, 3) := by decide +kernel
theorem dX5_atom_60 : decode cX5_atom 60 = .ok (.goto 117, 3) := by decide +kernel
theorem dX5_atom_63 : decode cX5_atom 63 = .ok (.aload_n 0, 1) := by decide +kernel
theorem dX5_atom_64 : decode cX5_atom 64 = .ok (.ldc 218, 2) := by decide +kernel
theorem dX5_atom_66 : decode cX5_atom 66 = .ok (.invokevirtual 96, 3) := by decide +kernel
theorem dX5_atom_69 : decode cX5_atom 69 = .ok (.ifCond .eq 9, 3) := by decide +kernel
theorem dX5_atom_72 : decode cX5_atom 72 = .ok (.sipush 1000, 3) := by decide +kernel
theorem dX5_atom_75 : decode cX5_atom 75 = .ok (.goto 79, 3) := by decide +kernel
theorem dX5_atom_78 : decode cX5_atom 78 = .ok (.aload_n 0, 1) := by decide +kernel
theorem dX5_atom_79 : decode cX5_atom 79 = .ok (.ldc 220, 2) := by decide +kernel
theorem dX5_atom_81 : decode cX5_atom 81 = .ok (.invokevirtual 96, 3) := by decide +kernel
theorem dX5_atom_84 : decode cX5_atom 84 = .ok (.ifCond .eq 9, 3) := by decide +kernel
theorem dX5_atom_87 : decode cX5_atom 87 = .ok (.sipush 1001, 3) := by decide +kernel
theorem dX5_atom_90 : decode cX5_atom 90 = .ok (.goto 64, 3) := by decide +kernel
theorem dX5_atom_93 : decode cX5_atom 93 = .ok (.aload_n 0, 1) := by decide +kernel
theorem dX5_atom_94 : decode cX5_atom 94 = .ok (.ldc 135, 2) := by decide +kernel
theorem dX5_atom_96 : decode cX5_atom 96 = .ok (.invokevirtual 96, 3) := by decide +kernel
theorem dX5_atom_99 : decode cX5_atom 99 = .ok (.ifCond .eq 9, 3) := by decide +kernel
theorem dX5_atom_102 : decode cX5_atom 102 = .ok (.sipush 1002, 3) := by decide +kernel
theorem dX5_atom_105 : decode cX5_atom 105 = .ok (.goto 49, 3) := by decide +kernel
theorem dX5_atom_108 : decode cX5_atom 108 = .ok (.aload_n 0, 1) := by decide +kernel
theorem dX5_atom_109 : decode cX5_atom 109 = .ok (.ldc 222, 2) := by decide +kernel
theorem dX5_atom_111 : decode cX5_atom 111 = .ok (.invokevirtual 96, 3) := by decide +kernel
theorem dX5_atom_114 : decode cX5_atom 114 = .ok (.ifCond .eq 9, 3) := by decide +kernel
theorem dX5_atom_117 : decode cX5_atom 117 = .ok (.sipush 1003, 3) := by decide +kernel
theorem dX5_atom_120 : decode cX5_atom 120 = .ok (.goto 34, 3) := by decide +kernel
theorem dX5_atom_123 : decode cX5_atom 123 = .ok (.aload_n 0, 1) := by decide +kernel
theorem dX5_atom_124 : decode cX5_atom 124 = .ok (.ldc 224, 2) := by decide +kernel
theorem dX5_atom_126 : decode cX5_atom 126 = .ok (.invokevirtual 96, 3) := by decide +kernel
theorem dX5_atom_129 : decode cX5_atom 129 = .ok (.ifCond .eq 9, 3) := by decide +kernel
theorem dX5_atom_132 : decode cX5_atom 132 = .ok (.sipush 1004, 3) := by decide +kernel
theorem dX5_atom_135 : decode cX5_atom 135 = .ok (.goto 19, 3) := by decide +kernel
theorem dX5_atom_138 : decode cX5_atom 138 = .ok (.aload_n 0, 1) := by decide +kernel
theorem dX5_atom_139 : decode cX5_atom 139 = .ok (.ldc 226, 2) := by decide +kernel
theorem dX5_atom_141 : decode cX5_atom 141 = .ok (.invokevirtual 96, 3) := by decide +kernel
theorem dX5_atom_144 : decode cX5_atom 144 = .ok (.ifCond .eq 9, 3) := by decide +kernel
theorem dX5_atom_147 : decode cX5_atom 147 = .ok (.sipush 1005, 3) := by decide +kernel
theorem dX5_atom_150 : decode cX5_atom 150 = .ok (.goto 4, 3) := by decide +kernel
theorem dX5_atom_153 : decode cX5_atom 153 = .ok (.iconst (-1), 1) := by decide +kernel
theorem dX5_atom_154 : decode cX5_atom 154 = .ok (.istore_n 2, 1) := by decide +kernel
theorem dX5_atom_155 : decode cX5_atom 155 = .ok (.iload_n 2, 1) := by decide +kernel
theorem dX5_atom_156 : decode cX5_atom 156 = .ok (.ifCond .ge 9, 3) := by decide +kernel
theorem dX5_atom_159 : decode cX5_atom 159 = .ok (.aload_n 0, 1) := by decide +kernel
theorem dX5_atom_160 : decode cX5_atom 160 = .ok (.iconst 2, 1) := by decide +kernel
theorem dX5_atom_161 : decode cX5_atom 161 = .ok (.invokevirtual 76, 3) := by decide +kernel
theorem dX5_atom_164 : decode cX5_atom 164 = .ok (.return_, 1) := by decide +kernel
theorem dX5_atom_165 : decode cX5_atom 165 = .ok (.aload_n 0, 1) := by decide +kernel
theorem dX5_atom_166 : decode cX5_atom 166 = .ok (.getfield 29, 3) := by decide +kernel
theorem dX5_atom_169 : decode cX5_atom 169 = .ok (.iload_n 2, 1) := by decide +kernel
theorem dX5_atom_170 : decode cX5_atom 170 = .ok (.invokevirtual 199, 3) := by decide +kernel
theorem dX5_atom_173 : decode cX5_atom 173 = .ok (.aload_n 0, 1) := by decide +kernel
theorem dX5_atom_174 : decode cX5_atom 174 = .ok (.invokevirtual 47, 3) := by decide +kernel
theorem dX5_atom_177 : decode cX5_atom 177 = .ok (.return_, 1) := by decide +kernel
theorem dX5_both_0 : decode cX5_both 0 = .ok (.aload_n 0, 1) := by decide +kernel
theorem dX5_both_1 : decode cX5_both 1 = .ok (.iload_n 1, 1) := by decide +kernel
theorem dX5_both_2 : decode cX5_both 2 = .ok (.invokevirtual 202, 3) := by decide +kernel
theorem dX5_both_5 : decode cX5_both 5 = .ok (.iconst 0, 1) := by decide +kernel
theorem dX5_both_6 : decode cX5_both 6 = .ok (.istore_n 2, 1) := by decide +kernel
theorem dX5_both_7 : decode cX5_both 7 = .ok (.iload_n 2, 1) := by decide +kernel
theorem dX5_both_8 : decode cX5_both 8 = .ok (.sipush 900, 3) := by decide +kernel
theorem dX5_both_11 : decode cX5_both 11 = .ok (.if_icmp .ge 37, 3) := by decide +kernel
theorem dX5_both_14 : decode cX5_both 14 = .ok (.aload_n 0, 1) := by decide +kernel
theorem dX5_both_15 : decode cX5_both 15 = .ok (.ldc 205, 2) := by decide +kernel
theorem dX5_both_17 : decode cX5_both 17 = .ok (.invokevirtual 96, 3) := by decide +kernel
theorem dX5_both_20 : decode cX5_both 20 = .ok (.ifCond .eq 28, 3) := by decide +kernel
theorem dX5_both_23 : decode cX5_both 23 = .ok (.aload_n 0, 1) := by decide +kernel
theorem dX5_both_24 : decode cX5_both 24 = .ok (.invokevirtual 47, 3) := by decide +kernel
theorem dX5_both_27 : decode cX5_both 27 = .ok (.aload_n 0, 1) := by decide +kernel
theorem dX5_both_28 : decode cX5_both 28 = .ok (.iload_n 1, 1) := by decide +kernel
theorem dX5_both_29 : decode cX5_both 29 = .ok (.invokevirtual 202, 3) := by decide +kernel
theorem dX5_both_32 : decode cX5_both 32 = .ok (.aload_n 0, 1) := by decide +kernel
theorem dX5_both_33 : decode cX5_both 33 = .ok (.getfield 29, 3) := by decide +kernel
theorem dX5_both_36 : decode cX5_both 36 = .ok (.sipush 2006, 3) := by decide +kernel
theorem dX5_both_39 : decode cX5_both 39 = .ok (.invokevirtual 199, 3) := by decide +kernel
theorem dX5_both_42 : decode cX5_both 42 = .ok (.iinc 2 1, 3) := by decide +kernel
theorem dX5_both_45 : decode cX5_both 45 = .ok (.goto (-38), 3) := by decide +kernel
theorem dX5_both_48 : decode cX5_both 48 = .ok (.return_, 1) := by decide +kernel
theorem dX5_sum_0 : decode cX5_sum 0 = .ok (.aload_n 0, 1) := by decide +kernel
theorem dX5_sum_1 : decode cX5_sum 1 = .ok (.iload_n 1, 1) := by decide +kernel
theorem dX5_sum_2 : decode cX5_sum 2 = .ok (.invokevirtual 212, 3) := by decide +kernel
theorem dX5_sum_5 : decode cX5_sum 5 = .ok (.iconst 0, 1) := by decide +kernel
theorem dX5_sum_6 : decode cX5_sum 6 = .ok (.istore_n 2, 1) := by decide +kernel
theorem dX5_sum_7 : decode cX5_sum 7 = .ok (.iload_n 2, 1) := by decide +kernel
theorem dX5_sum_8 : decode cX5_sum 8 = .ok (.sipush 900, 3) := by decide +kernel
theorem dX5_sum_11 : decode cX5_sum 11 = .ok (.if_icmp .ge 63, 3) := by decide +kernel
theorem dX5_sum_14 : decode cX5_sum 14 = .ok (.aload_n 0, 1) := by decide +kernel
theorem dX5_sum_15 : decode cX5_sum 15 = .ok (.getfield 50, 3) := by decide +kernel
theorem dX5_sum_18 : decode cX5_sum 18 = .ok (.bipush 43, 2) := by decide +kernel
theorem dX5_sum_20 : decode cX5_sum 20 = .ok (.if_icmp .eq 12, 3) := by decide +kernel
theorem dX5_sum_23 : decode cX5_sum 23 = .ok (.aload_n 0, 1) := by decide +kernel
theorem dX5_sum_24 : decode cX5_sum 24 = .ok (.getfield 50, 3) := by decide +kernel
theorem dX5_sum_27 : decode cX5_sum 27 = .ok (.bipush 45, 2) := by decide +kernel
theorem dX5_sum_29 : decode cX5_sum 29 = .ok (.if_icmp .ne 45, 3) := by decide +kernel
theorem dX5_sum_32 : decode cX5_sum 32 = .ok (.aload_n 0, 1) := by decide +kernel
theorem dX5_sum_33 : decode cX5_sum 33 = .ok (.getfield 50, 3) := by decide +kernel
theorem dX5_sum_36 : decode cX5_sum 36 = .ok (.bipush 43, 2) := by decide +kernel
theorem dX5_sum_38 : decode cX5_sum 38 = .ok (.if_icmp .ne 9, 3) := by decide +kernel
theorem dX5_sum_41 : decode cX5_sum 41 = .ok (.sipush 2000, 3) := by decide +kernel
theorem dX5_sum_44 : decode cX5_sum 44 = .ok (.goto 6, 3) := by decide +kernel
theorem dX5_sum_47 : decode cX5_sum 47 = .ok (.sipush 2001, 3) := by decide +kernel
theorem dX5_sum_50 : decode cX5_sum 50 = .ok (.istore_n 3, 1) := by decide +kernel
theorem dX5_sum_51 : decode cX5_sum 51 = .ok (.aload_n 0, 1) := by decide +kernel
theorem dX5_sum_52 : decode cX5_sum 52 = .ok (.invokevirtual 47, 3) := by decide +kernel
theorem dX5_sum_55 : decode cX5_sum 55 = .ok (.aload_n 0, 1) := by decide +kernel
theorem dX5_sum_56 : decode cX5_sum 56 = .ok (.iload_n 1, 1) := by decide +kernel
theorem dX5_sum_57 : decode cX5_sum 57 = .ok (.invokevirtual 212, 3) := by decide +kernel
theorem dX5_sum_60 : decode cX5_sum 60 = .ok (.aload_n 0, 1) := by decide +kernel
theorem dX5_sum_61 : decode cX5_sum 61 = .ok (.getfield 29, 3) := by decide +kernel
theorem dX5_sum_64 : decode cX5_sum 64 = .ok (.iload_n 3, 1) := by decide +kernel
theorem dX5_sum_65 : decode cX5_sum 65 = .ok (.invokevirtual 199, 3) := by decide +kernel
theorem dX5_sum_68 : decode cX5_sum 68 = .ok (.iinc 2 1, 3) := by decide +kernel
theorem dX5_sum_71 : decode cX5_sum 71 = .ok (.goto (-64), 3) := by decide +kernel
theorem dX5_sum_74 : decode cX5_sum 74 = .ok (.return_, 1) := by decide +kernel
theorem dX5_term_0 : decode cX5_term 0 = .ok (.aload_n 0, 1) := by decide +kernel
theorem dX5_term_1 : decode cX5_term 1 = .ok (.iload_n 1, 1) := by decide +kernel
theorem dX5_term_2 : decode cX5_term 2 = .ok (.invokevirtual 215, 3) := by decide +kernel
theorem dX5_term_5 : decode cX5_term 5 = .ok (.iconst 0, 1) := by decide +kernel
theorem dX5_term_6 : decode cX5_term 6 = .ok (.istore_n 2, 1) := by decide +kernel
theorem dX5_term_7 : decode cX5_term 7 = .ok (.iload_n 2, 1) := by decide +kernel
theorem dX5_term_8 : decode cX5_term 8 = .ok (.sipush 900, 3) := by decide +kernel
theorem dX5_term_11 : decode cX5_term 11 = .ok (.if_icmp .ge 37, 3) := by decide +kernel
theorem dX5_term_14 : decode cX5_term 14 = .ok (.aload_n 0, 1) := by decide +kernel
theorem dX5_term_15 : decode cX5_term 15 = .ok (.getfield 50, 3) := by decide +kernel
theorem dX5_term_18 : decode cX5_term 18 = .ok (.bipush 42, 2) := by decide +kernel
theorem dX5_term_20 : decode cX5_term 20 = .ok (.if_icmp .ne 28, 3) := by decide +kernel
theorem dX5_term_23 : decode cX5_term 23 = .ok (.aload_n 0, 1) := by decide +kernel
theorem dX5_term_24 : decode cX5_term 24 = .ok (.invokevirtual 47, 3) := by decide +kernel
theorem dX5_term_27 : decode cX5_term 27 = .ok (.aload_n 0, 1) := by decide +kernel
theorem dX5_term_28 : decode cX5_term 28 = .ok (.iload_n 1, 1) := by decide +kernel
theorem dX5_term_29 : decode cX5_term 29 = .ok (.invokevirtual 215, 3) := by decide +kernel
theorem dX5_term_32 : decode cX5_term 32 = .ok (.aload_n 0, 1) := by decide +kernel
theorem dX5_term_33 : decode cX5_term 33 = .ok (.getfield 29, 3) := by decide +kernel
theorem dX5_term_36 : decode cX5_term 36 = .ok (.sipush 2002, 3) := by decide +kernel
theorem dX5_term_39 : decode cX5_term 39 = .ok (.invokevirtual 199, 3) := by decide +kernel
theorem dX5_term_42 : decode cX5_term 42 = .ok (.iinc 2 1, 3) := by decide +kernel
theorem dX5_term_45 : decode cX5_term 45 = .ok (.goto (-38), 3) := by decide +kernel
theorem dX5_term_48 : decode cX5_term 48 = .ok (.return_, 1) := by decide +kernel
theorem dX5_tooDeep_0 : decode cX5_tooDeep 0 = .ok (.iload_n 1, 1) := by decide +kernel
theorem dX5_tooDeep_1 : decode cX5_tooDeep 1 = .ok (.bipush 6, 2) := by decide +kernel
theorem dX5_tooDeep_3 : decode cX5_tooDeep 3 = .ok (.if_icmp .lt 10, 3) := by decide +kernel
theorem dX5_tooDeep_6 : decode cX5_tooDeep 6 = .ok (.aload_n 0, 1) := by decide +kernel
theorem dX5_tooDeep_7 : decode cX5_tooDeep 7 = .ok (.iconst 4, 1) := by decide +kernel
theorem dX5_tooDeep_8 : decode cX5_tooDeep 8 = .ok (.invokevirtual 76, 3) := by decide +kernel
theorem dX5_tooDeep_11 : decode cX5_tooDeep 11 = .ok (.iconst 1, 1) := by decide +kernel
theorem dX5_tooDeep_12 : decode cX5_tooDeep 12 = .ok (.ireturn, 1) := by decide +kernel
theorem dX5_tooDeep_13 : decode cX5_tooDeep 13 = .ok (.iconst 0, 1) := by decide +kernel
theorem dX5_tooDeep_14 : decode cX5_tooDeep 14 = .ok (.ireturn, 1) := by decide +kernel
theorem dX5_truth_0 : decode cX5_truth 0 = .ok (.aload_n 0, 1) := by decide +kernel
theorem dX5_truth_1 : decode cX5_truth 1 = .ok (.iload_n 1, 1) := by decide +kernel
theorem dX5_truth_2 : decode cX5_truth 2 = .ok (.invokevirtual 194, 3) := by decide +kernel
theorem dX5_truth_5 : decode cX5_truth 5 = .ok (.iconst 0, 1) := by decide +kernel
theorem dX5_truth_6 : decode cX5_truth 6 = .ok (.istore_n 2, 1) := by decide +kernel
theorem dX5_truth_7 : decode cX5_truth 7 = .ok (.iload_n 2, 1) := by decide +kernel
theorem dX5_truth_8 : decode cX5_truth 8 = .ok (.sipush 900, 3) := by decide +kernel
theorem dX5_truth_11 : decode cX5_truth 11 = .ok (.if_icmp .ge 37, 3) := by decide +kernel
theorem dX5_truth_14 : decode cX5_truth 14 = .ok (.aload_n 0, 1) := by decide +kernel
theorem dX5_truth_15 : decode cX5_truth 15 = .ok (.ldc 197, 2) := by decide +kernel
theorem dX5_truth_17 : decode cX5_truth 17 = .ok (.invokevirtual 96, 3) := by decide +kernel
theorem dX5_truth_20 : decode cX5_truth 20 = .ok (.ifCond .eq 28, 3) := by decide +kernel
theorem dX5_truth_23 : decode cX5_truth 23 = .ok (.aload_n 0, 1) := by decide +kernel
theorem dX5_truth_24 : decode cX5_truth 24 = .ok (.invokevirtual 47, 3) := by decide +kernel
theorem dX5_truth_27 : decode cX5_truth 27 = .ok (.aload_n 0, 1) := by decide +kernel
theorem dX5_truth_28 : decode cX5_truth 28 = .ok (.iload_n 1, 1) := by decide +kernel
theorem dX5_truth_29 : decode cX5_truth 29 = .ok (.invokevirtual 194, 3) := by decide +kernel
theorem dX5_truth_32 : decode cX5_truth 32 = .ok (.aload_n 0, 1) := by decide +kernel
theorem dX5_truth_33 : decode cX5_truth 33 = .ok (.getfield 29, 3) := by decide +kernel
theorem dX5_truth_36 : decode cX5_truth 36 = .ok (.sipush 2007, 3) := by decide +kernel
theorem dX5_truth_39 : decode cX5_truth 39 = .ok (.invokevirtual 199, 3) := by decide +kernel
theorem dX5_truth_42 : decode cX5_truth 42 = .ok (.iinc 2 1, 3) := by decide +kernel
theorem dX5_truth_45 : decode cX5_truth 45 = .ok (.goto (-38), 3) := by decide +kernel
theorem dX5_truth_48 : decode cX5_truth 48 = .ok (.return_, 1) := by decide +kernel
theorem dX5_unit_0 : decode cX5_unit 0 = .ok (.aload_n 0, 1) := by decide +kernel
theorem dX5_unit_1 : decode cX5_unit 1 = .ok (.ldc 207, 2) := by decide +kernel
theorem dX5_unit_3 : decode cX5_unit 3 = .ok (.invokevirtual 96, 3) := by decide +kernel
theorem dX5_unit_6 : decode cX5_unit 6 = .ok (.ifCond .eq 43, 3) := by decide +kernel
theorem dX5_unit_9 : decode cX5_unit 9 = .ok (.aload_n 0, 1) := by decide +kernel
theorem dX5_unit_10 : decode cX5_unit 10 = .ok (.iload_n 1, 1) := by decide +kernel
theorem dX5_unit_11 : decode cX5_unit 11 = .ok (.invokevirtual 209, 3) := by decide +kernel
theorem dX5_unit_14 : decode cX5_unit 14 = .ok (.ifCond .ne 151, 3) := by decide +kernel
theorem dX5_unit_17 : decode cX5_unit 17 = .ok (.aload_n 0, 1) := by decide +kernel
theorem dX5_unit_18 : decode cX5_unit 18 = .ok (.invokevirtual 47, 3) := by decide +kernel
theorem dX5_unit_21 : decode cX5_unit 21 = .ok (.aload_n 0, 1) := by decide +kernel
theorem dX5_unit_22 : decode cX5_unit 22 = .ok (.iload_n 1, 1) := by decide +kernel
theorem dX5_unit_23 : decode cX5_unit 23 = .ok (.iconst 1, 1) := by decide +kernel
theorem dX5_unit_24 : decode cX5_unit 24 = .ok (.iadd, 1) := by decide +kernel
theorem dX5_unit_25 : decode cX5_unit 25 = .ok (.invokevirtual 202, 3) := by decide +kernel
theorem dX5_unit_28 : decode cX5_unit 28 = .ok (.aload_n 0, 1) := by decide +kernel
theorem dX5_unit_29 : decode cX5_unit 29 = .ok (.getfield 29, 3) := by decide +kernel
theorem dX5_unit_32 : decode cX5_unit 32 = .ok (.iconst 0, 1) := by decide +kernel
theorem dX5_unit_33 : decode cX5_unit 33 = .ok (.invokevirtual 199, 3) := by decide +kernel
theorem dX5_unit_36 : decode cX5_unit 36 = .ok (.aload_n 0, 1) := by decide +kernel
theorem dX5_unit_37 : decode cX5_unit 37 = .ok (.getfield 29, 3) := by decide +kernel
theorem dX5_unit_40 : decode cX5_unit 40 = .ok (.sipush 2003, 3) := by decide +kernel
theorem dX5_unit_43 : decode cX5_unit 43 = .ok (.invokevirtual 199, 3) := by decide +kernel
theorem dX5_unit_46 : decode cX5_unit 46 = .ok (.goto 119, 3) := by decide +kernel
theorem dX5_unit_49 : decode cX5_unit 49 = .ok (.aload_n 0, 1) := by decide +kernel
theorem dX5_unit_50 : decode cX5_unit 50 = .ok (.getfield 50, 3) := by decide +kernel
theorem dX5_unit_53 : decode cX5_unit 53 = .ok (.bipush 91, 2) := by decide +kernel
theorem dX5_unit_55 : decode cX5_unit 55 = .ok (.if_icmp .ne 31, 3) := by decide +kernel
theorem dX5_unit_58 : decode cX5_unit 58 = .ok (.aload_n 0, 1) := by decide +kernel
theorem dX5_unit_59 : decode cX5_unit 59 = .ok (.iload_n 1, 1) := by decide +kernel
theorem dX5_unit_60 : decode cX5_unit 60 = .ok (.invokevirtual 209, 3) := by decide +kernel
theorem dX5_unit_63 : decode cX5_unit 63 = .ok (.ifCond .ne 102, 3) := by decide +kernel
theorem dX5_unit_66 : decode cX5_unit 66 = .ok (.aload_n 0, 1) := by decide +kernel
theorem dX5_unit_67 : decode cX5_unit 67 = .ok (.invokevirtual 47, 3) := by decide +kernel
theorem dX5_unit_70 : decode cX5_unit 70 = .ok (.aload_n 0, 1) := by decide +kernel
theorem dX5_unit_71 : decode cX5_unit 71 = .ok (.iload_n 1, 1) := by decide +kernel
theorem dX5_unit_72 : decode cX5_unit 72 = .ok (.iconst 1, 1) := by decide +kernel
theorem dX5_unit_73 : decode cX5_unit 73 = .ok (.iadd, 1) := by decide +kernel
theorem dX5_unit_74 : decode cX5_unit 74 = .ok (.invokevirtual 132, 3) := by decide +kernel
theorem dX5_unit_77 : decode cX5_unit 77 = .ok (.aload_n 0, 1) := by decide +kernel
theorem dX5_unit_78 : decode cX5_unit 78 = .ok (.bipush 93, 2) := by decide +kernel
theorem dX5_unit_80 : decode cX5_unit 80 = .ok (.invokevirtual 56, 3) := by decide +kernel
theorem dX5_unit_83 : decode cX5_unit 83 = .ok (.goto 82, 3) := by decide +kernel
theorem dX5_unit_86 : decode cX5_unit 86 = .ok (.aload_n 0, 1) := by decide +kernel
theorem dX5_unit_87 : decode cX5_unit 87 = .ok (.iload_n 1, 1) := by decide +kernel
theorem dX5_unit_88 : decode cX5_unit 88 = .ok (.invokevirtual 124, 3) := by decide +kernel
theorem dX5_unit_91 : decode cX5_unit 91 = .ok (.aload_n 0, 1) := by decide +kernel
theorem dX5_unit_92 : decode cX5_unit 92 = .ok (.getfield 50, 3) := by decide +kernel
theorem dX5_unit_95 : decode cX5_unit 95 = .ok (.bipush 61, 2) := by decide +kernel
theorem dX5_unit_97 : decode cX5_unit 97 = .ok (.if_icmp .ne 9, 3) := by decide +kernel
theorem dX5_unit_100 : decode cX5_unit 100 = .ok (.sipush 2003, 3) := by decide +kernel
theorem dX5_unit_103 : decode cX5_unit 103 = .ok (.goto 34, 3) := by decide +kernel
theorem dX5_unit_106 : decode cX5_unit 106 = .ok (.aload_n 0, 1) := by decide +kernel
theorem dX5_unit_107 : decode cX5_unit 107 = .ok (.getfield 50, 3) := by decide +kernel
theorem dX5_unit_110 : decode cX5_unit 110 = .ok (.bipush 60, 2) := by decide +kernel
theorem dX5_unit_112 : decode cX5_unit 112 = .ok (.if_icmp .ne 9, 3) := by decide +kernel
theorem dX5_unit_115 : decode cX5_unit 115 = .ok (.sipush 2004, 3) := by decide +kernel
theorem dX5_unit_118 : decode cX5_unit 118 = .ok (.goto 19, 3) := by decide +kernel
theorem dX5_unit_121 : decode cX5_unit 121 = .ok (.aload_n 0, 1) := by decide +kernel
theorem dX5_unit_122 : decode cX5_unit 122 = .ok (.getfield 50, 3) := by decide +kernel
theorem dX5_unit_125 : decode cX5_unit 125 = .ok (.bipush 62, 2) := by decide +kernel
theorem dX5_unit_127 : decode cX5_unit 127 = .ok (.if_icmp .ne 9, 3) := by decide +kernel
theorem dX5_unit_130 : decode cX5_unit 130 = .ok (.sipush 2005, 3) := by decide +kernel
theorem dX5_unit_133 : decode cX5_unit 133 = .ok (.goto 4, 3) := by decide +kernel
theorem dX5_unit_136 : decode cX5_unit 136 = .ok (.iconst (-1), 1) := by decide +kernel
theorem dX5_unit_137 : decode cX5_unit 137 = .ok (.istore_n 2, 1) := by decide +kernel
theorem dX5_unit_138 : decode cX5_unit 138 = .ok (.iload_n 2, 1) := by decide +kernel
theorem dX5_unit_139 : decode cX5_unit 139 = .ok (.ifCond .ge 9, 3) := by decide +kernel
theorem dX5_unit_142 : decode cX5_unit 142 = .ok (.aload_n 0, 1) := by decide +kernel
theorem dX5_unit_143 : decode cX5_unit 143 = .ok (.iconst 2, 1) := by decide +kernel
theorem dX5_unit_144 : decode cX5_unit 144 = .ok (.invokevirtual 76, 3) := by decide +kernel
theorem dX5_unit_147 : decode cX5_unit 147 = .ok (.return_, 1) := by decide +kernel
theorem dX5_unit_148 : decode cX5_unit 148 = .ok (.aload_n 0, 1) := by decide +kernel
theorem dX5_unit_149 : decode cX5_unit 149 = .ok (.invokevirtual 47, 3) := by decide +kernel
theorem dX5_unit_152 : decode cX5_unit 152 = .ok (.aload_n 0, 1) := by decide +kernel
theorem dX5_unit_153 : decode cX5_unit 153 = .ok (.iload_n 1, 1) := by decide +kernel
theorem dX5_unit_154 : decode cX5_unit 154 = .ok (.invokevirtual 124, 3) := by decide +kernel
theorem dX5_unit_157 : decode cX5_unit 157 = .ok (.aload_n 0, 1) := by decide +kernel
theorem dX5_unit_158 : decode cX5_unit 158 = .ok (.getfield 29, 3) := by decide +kernel
theorem dX5_unit_161 : decode cX5_unit 161 = .ok (.iload_n 2, 1) := by decide +kernel
theorem dX5_unit_162 : decode cX5_unit 162 = .ok (.invokevirtual 199, 3) := by decide +kernel
theorem dX5_unit_165 : decode cX5_unit 165 = .ok (.return_, 1) := by decide +kernel
theorem o24_1 {x0 x1 : Int} (h0 : 6 ≤ x0) (h1 : x0 ≤ 6) (h2 : x1 = 6) (h3 : x0 < x1) : False := by omega
theorem o24_2 {x0 : Int} (h0 : x0 = 1) : 1 ≤ x0 := by omega
theorem o24_3 {x0 : Int} (h0 : x0 = 1) : x0 ≤ 1 := by omega
theorem o24_4 {x0 : Int} (h0 : x0 = 1) : 0 ≤ x0 := by omega
theorem o24_5 {x0 : Int} (h0 : x0 = (-1)) (h1 : 0 ≤ x0) : False := by omega
theorem o24_6 {x0 : Int} (h0 : x0 = 1005) (h1 : x0 < 0) : False := by omega
theorem o24_7 {x0 : Int} (h0 : x0 = 1004) (h1 : x0 < 0) : False := by omega
theorem o24_8 {x0 : Int} (h0 : x0 = 1003) (h1 : x0 < 0) : False := by omega
theorem o24_9 {x0 : Int} (h0 : x0 = 1002) (h1 : x0 < 0) : False := by omega
theorem o24_10 {x0 : Int} (h0 : x0 = 1001) (h1 : x0 < 0) : False := by omega
theorem o24_11 {x0 : Int} (h0 : x0 = 1000) (h1 : x0 < 0) : False := by omega
theorem o24_12 {x0 : Int} (h0 : 6 ≤ x0) (h1 : x0 ≤ 6) : 6 ≤ x0 := by omega
theorem o24_13 {x0 : Int} (h0 : 6 ≤ x0) (h1 : x0 ≤ 6) : x0 ≤ 6 := by omega
theorem o24_14 {x0 : Int} (h0 : 1 ≤ x0) (h1 : x0 ≤ 1) (h2 : x0 = 0) : False := by omega
theorem o24_15 {x0 : Int} (h0 : 0 ≤ x0) (h1 : x0 ≤ 900) (h2 : 900 - x0 < 0) : False := by omega
theorem o24_16 {x0 x2 : Int} {x1 : Nat} (h0 : 0 ≤ x0) (h1 : x0 ≤ 900) (h2 : 900 - x0 < ((x1 + 1 : Nat) : Int)) (h3 : x2 = 900) (h4 : x0 < x2) (h5 : -2147483648 ≤ x0) (h6 : x0 ≤ 2147483647) (h7 : -2147483648 ≤ x2) (h8 : x2 ≤ 2147483647) : -2147483648 ≤ x0 + 1 := by omega
theorem o24_17 {x0 x2 : Int} {x1 : Nat} (h0 : 0 ≤ x0) (h1 : x0 ≤ 900) (h2 : 900 - x0 < ((x1 + 1 : Nat) : Int)) (h3 : x2 = 900) (h4 : x0 < x2) (h5 : -2147483648 ≤ x0) (h6 : x0 ≤ 2147483647) (h7 : -2147483648 ≤ x2) (h8 : x2 ≤ 2147483647) : x0 + 1 ≤ 2147483647 := by omega
theorem o24_18 {x0 x2 x3 : Int} {x1 : Nat} (h0 : 0 ≤ x2) (h1 : x2 ≤ 900) (h2 : 900 - x2 < ((x1 + 1 : Nat) : Int)) (h3 : x3 = 900) (h4 : x2 < x3) (h5 : x0 = x2 + 1) : 900 - x0 < (x1 : Int) := by omega
theorem o24_19 {x0 x1 x3 : Int} {x2 : Nat} (h0 : 0 ≤ x1) (h1 : x1 ≤ 900) (h2 : 900 - x1 < ((x2 + 1 : Nat) : Int)) (h3 : x3 = 900) (h4 : x1 < x3) (h5 : x0 = x1 + 1) : 0 ≤ x0 := by omega
theorem o24_20 {x0 x1 x3 : Int} {x2 : Nat} (h0 : 0 ≤ x1) (h1 : x1 ≤ 900) (h2 : 900 - x1 < ((x2 + 1 : Nat) : Int)) (h3 : x3 = 900) (h4 : x1 < x3) (h5 : x0 = x1 + 1) : x0 ≤ 900 := by omega
theorem o24_21 {x0 : Int} (h0 : x0 = 0) : 900 - x0 < (((900 - x0 + 1).toNat : Nat) : Int) := by omega
theorem o24_22 {x0 : Int} (h0 : x0 = 0) : 0 ≤ x0 := by omega
theorem o24_23 {x0 : Int} (h0 : x0 = 0) : x0 ≤ 900 := by omega
theorem o24_24 {x0 x1 x2 x3 : Int} (h0 : x2 = 43) (h1 : x3 = x2) (h2 : x0 = x3) (h3 : x1 = 43) (h4 : ¬ x0 = x1) : False := by omega
theorem o24_25 {x0 x1 x2 x3 x4 x5 : Int} (h0 : x2 = 43) (h1 : ¬ x3 = x2) (h2 : x4 = x3) (h3 : x5 = 45) (h4 : x4 = x5) (h5 : x0 = x3) (h6 : x1 = 43) (h7 : x0 = x1) : False := by omega
theorem o24_26 {x0 : Int} (h0 : x0 = 2005) (h1 : x0 < 0) : False := by omega
theorem o24_27 {x0 : Int} (h0 : x0 = 2004) (h1 : x0 < 0) : False := by omega
theorem o24_28 {x0 : Int} (h0 : x0 = 2003) (h1 : x0 < 0) : False := by omega
theorem o24_29 {x0 x1 : Int} (h0 : 5 ≤ x0) (h1 : x0 ≤ 5) (h2 : x1 = 6) (h3 : x1 ≤ x0) : False := by omega
theorem o24_30 {x0 : Int} (h0 : x0 = 0) : x0 ≤ 0 := by omega
theorem o24_31 {x0 : Int} (h0 : x0 = 0) : x0 ≤ 1 := by omega
theorem o24_32 {x0 : Int} (h0 : 5 ≤ x0) (h1 : x0 ≤ 5) : 5 ≤ x0 := by omega
theorem o24_33 {x0 : Int} (h0 : 5 ≤ x0) (h1 : x0 ≤ 5) : x0 ≤ 5 := by omega
theorem o24_34 {x0 : Int} (h0 : 0 ≤ x0) (h1 : x0 ≤ 0) (h2 : ¬ x0 = 0) : False := by omega
theorem o24_35 {x0 x1 : Int} (h0 : 5 ≤ x0) (h1 : x0 ≤ 5) (h2 : x1 = 1) (h3 : -2147483648 ≤ x0) (h4 : x0 ≤ 2147483647) (h5 : -2147483648 ≤ x1) (h6 : x1 ≤ 2147483647) : -2147483648 ≤ x0 + x1 := by omega
theorem o24_36 {x0 x1 : Int} (h0 : 5 ≤ x0) (h1 : x0 ≤ 5) (h2 : x1 = 1) (h3 : -2147483648 ≤ x0) (h4 : x0 ≤ 2147483647) (h5 : -2147483648 ≤ x1) (h6 : x1 ≤ 2147483647) : x0 + x1 ≤ 2147483647 := by omega
theorem o24_37 {x0 x1 x2 : Int} (h0 : 5 ≤ x1) (h1 : x1 ≤ 5) (h2 : x2 = 1) (h3 : x0 = x1 + x2) : 6 ≤ x0 := by omega
theorem o24_38 {x0 x1 x2 : Int} (h0 : 5 ≤ x1) (h1 : x1 ≤ 5) (h2 : x2 = 1) (h3 : x0 = x1 + x2) : x0 ≤ 6 := by omega
theorem o24_39 {x0 : Int} (h0 : x0 = 41) : 0 ≤ x0 := by omega
theorem o24_40 {x0 : Int} (h0 : x0 = 41) : x0 ≤ 65535 := by omega
theorem o24_41 {x0 : Int} (h0 : x0 = 93) : 0 ≤ x0 := by omega
theorem o24_42 {x0 : Int} (h0 : x0 = 93) : x0 ≤ 65535 := by omega
theorem o24_43 {x0 x1 : Int} (h0 : 4 ≤ x0) (h1 : x0 ≤ 4) (h2 : x1 = 6) (h3 : x1 ≤ x0) : False := by omega
theorem o24_44 {x0 : Int} (h0 : 4 ≤ x0) (h1 : x0 ≤ 4) : 4 ≤ x0 := by omega
theorem o24_45 {x0 : Int} (h0 : 4 ≤ x0) (h1 : x0 ≤ 4) : x0 ≤ 4 := by omega
theorem o24_46 {x0 x1 : Int} (h0 : 4 ≤ x0) (h1 : x0 ≤ 4) (h2 : x1 = 1) (h3 : -2147483648 ≤ x0) (h4 : x0 ≤ 2147483647) (h5 : -2147483648 ≤ x1) (h6 : x1 ≤ 2147483647) : -2147483648 ≤ x0 + x1 := by omega
theorem o24_47 {x0 x1 : Int} (h0 : 4 ≤ x0) (h1 : x0 ≤ 4) (h2 : x1 = 1) (h3 : -2147483648 ≤ x0) (h4 : x0 ≤ 2147483647) (h5 : -2147483648 ≤ x1) (h6 : x1 ≤ 2147483647) : x0 + x1 ≤ 2147483647 := by omega
theorem o24_48 {x0 x1 x2 : Int} (h0 : 4 ≤ x1) (h1 : x1 ≤ 4) (h2 : x2 = 1) (h3 : x0 = x1 + x2) : 5 ≤ x0 := by omega
theorem o24_49 {x0 x1 x2 : Int} (h0 : 4 ≤ x1) (h1 : x1 ≤ 4) (h2 : x2 = 1) (h3 : x0 = x1 + x2) : x0 ≤ 5 := by omega
theorem o24_50 {x0 x1 : Int} (h0 : 3 ≤ x0) (h1 : x0 ≤ 3) (h2 : x1 = 6) (h3 : x1 ≤ x0) : False := by omega
theorem o24_51 {x0 : Int} (h0 : 3 ≤ x0) (h1 : x0 ≤ 3) : 3 ≤ x0 := by omega
theorem o24_52 {x0 : Int} (h0 : 3 ≤ x0) (h1 : x0 ≤ 3) : x0 ≤ 3 := by omega
theorem o24_53 {x0 x1 : Int} (h0 : 3 ≤ x0) (h1 : x0 ≤ 3) (h2 : x1 = 1) (h3 : -2147483648 ≤ x0) (h4 : x0 ≤ 2147483647) (h5 : -2147483648 ≤ x1) (h6 : x1 ≤ 2147483647) : -2147483648 ≤ x0 + x1 := by omega
theorem o24_54 {x0 x1 : Int} (h0 : 3 ≤ x0) (h1 : x0 ≤ 3) (h2 : x1 = 1) (h3 : -2147483648 ≤ x0) (h4 : x0 ≤ 2147483647) (h5 : -2147483648 ≤ x1) (h6 : x1 ≤ 2147483647) : x0 + x1 ≤ 2147483647 := by omega
theorem o24_55 {x0 x1 x2 : Int} (h0 : 3 ≤ x1) (h1 : x1 ≤ 3) (h2 : x2 = 1) (h3 : x0 = x1 + x2) : 4 ≤ x0 := by omega
theorem o24_56 {x0 x1 x2 : Int} (h0 : 3 ≤ x1) (h1 : x1 ≤ 3) (h2 : x2 = 1) (h3 : x0 = x1 + x2) : x0 ≤ 4 := by omega
theorem o24_57 {x0 x1 : Int} (h0 : 2 ≤ x0) (h1 : x0 ≤ 2) (h2 : x1 = 6) (h3 : x1 ≤ x0) : False := by omega
theorem o24_58 {x0 : Int} (h0 : 2 ≤ x0) (h1 : x0 ≤ 2) : 2 ≤ x0 := by omega
theorem o24_59 {x0 : Int} (h0 : 2 ≤ x0) (h1 : x0 ≤ 2) : x0 ≤ 2 := by omega
theorem o24_60 {x0 x1 : Int} (h0 : 2 ≤ x0) (h1 : x0 ≤ 2) (h2 : x1 = 1) (h3 : -2147483648 ≤ x0) (h4 : x0 ≤ 2147483647) (h5 : -2147483648 ≤ x1) (h6 : x1 ≤ 2147483647) : -2147483648 ≤ x0 + x1 := by omega
theorem o24_61 {x0 x1 : Int} (h0 : 2 ≤ x0) (h1 : x0 ≤ 2) (h2 : x1 = 1) (h3 : -2147483648 ≤ x0) (h4 : x0 ≤ 2147483647) (h5 : -2147483648 ≤ x1) (h6 : x1 ≤ 2147483647) : x0 + x1 ≤ 2147483647 := by omega
theorem o24_62 {x0 x1 x2 : Int} (h0 : 2 ≤ x1) (h1 : x1 ≤ 2) (h2 : x2 = 1) (h3 : x0 = x1 + x2) : 3 ≤ x0 := by omega
theorem o24_63 {x0 x1 x2 : Int} (h0 : 2 ≤ x1) (h1 : x1 ≤ 2) (h2 : x2 = 1) (h3 : x0 = x1 + x2) : x0 ≤ 3 := by omega
theorem o24_64 {x0 x1 : Int} (h0 : 1 ≤ x0) (h1 : x0 ≤ 1) (h2 : x1 = 6) (h3 : x1 ≤ x0) : False := by omega
theorem o24_65 {x0 : Int} (h0 : 1 ≤ x0) (h1 : x0 ≤ 1) : 1 ≤ x0 := by omega
theorem o24_66 {x0 : Int} (h0 : 1 ≤ x0) (h1 : x0 ≤ 1) : x0 ≤ 1 := by omega
theorem o24_67 {x0 x1 : Int} (h0 : 1 ≤ x0) (h1 : x0 ≤ 1) (h2 : x1 = 1) (h3 : -2147483648 ≤ x0) (h4 : x0 ≤ 2147483647) (h5 : -2147483648 ≤ x1) (h6 : x1 ≤ 2147483647) : -2147483648 ≤ x0 + x1 := by omega
theorem o24_68 {x0 x1 : Int} (h0 : 1 ≤ x0) (h1 : x0 ≤ 1) (h2 : x1 = 1) (h3 : -2147483648 ≤ x0) (h4 : x0 ≤ 2147483647) (h5 : -2147483648 ≤ x1) (h6 : x1 ≤ 2147483647) : x0 + x1 ≤ 2147483647 := by omega
theorem o24_69 {x0 x1 x2 : Int} (h0 : 1 ≤ x1) (h1 : x1 ≤ 1) (h2 : x2 = 1) (h3 : x0 = x1 + x2) : 2 ≤ x0 := by omega
theorem o24_70 {x0 x1 x2 : Int} (h0 : 1 ≤ x1) (h1 : x1 ≤ 1) (h2 : x2 = 1) (h3 : x0 = x1 + x2) : x0 ≤ 2 := by omega
theorem o24_71 {x0 x1 : Int} (h0 : 0 ≤ x0) (h1 : x0 ≤ 0) (h2 : x1 = 6) (h3 : x1 ≤ x0) : False := by omega
theorem o24_72 {x0 : Int} (h0 : 0 ≤ x0) (h1 : x0 ≤ 0) : 0 ≤ x0 := by omega
theorem o24_73 {x0 : Int} (h0 : 0 ≤ x0) (h1 : x0 ≤ 0) : x0 ≤ 0 := by omega
theorem o24_74 {x0 x1 : Int} (h0 : 0 ≤ x0) (h1 : x0 ≤ 0) (h2 : x1 = 1) (h3 : -2147483648 ≤ x0) (h4 : x0 ≤ 2147483647) (h5 : -2147483648 ≤ x1) (h6 : x1 ≤ 2147483647) : -2147483648 ≤ x0 + x1 := by omega
theorem o24_75 {x0 x1 : Int} (h0 : 0 ≤ x0) (h1 : x0 ≤ 0) (h2 : x1 = 1) (h3 : -2147483648 ≤ x0) (h4 : x0 ≤ 2147483647) (h5 : -2147483648 ≤ x1) (h6 : x1 ≤ 2147483647) : x0 + x1 ≤ 2147483647 := by omega
theorem o24_76 {x0 x1 x2 : Int} (h0 : 0 ≤ x1) (h1 : x1 ≤ 0) (h2 : x2 = 1) (h3 : x0 = x1 + x2) : 1 ≤ x0 := by omega
theorem o24_77 {x0 x1 x2 : Int} (h0 : 0 ≤ x1) (h1 : x1 ≤ 0) (h2 : x2 = 1) (h3 : x0 = x1 + x2) : x0 ≤ 1 := by omega
set_option maxHeartbeats 4000000 in
set_option maxRecDepth 100000 in
theorem c_X5_tooDeep_6 (l : Launch) (G : GG) (Z : RZ) (ad : Nat → Nat) (ws0 : va_W) (hT : Ty G (SC tt) ad ws0) (a1 : Int32) (l1 : 6 ≤ a1.toInt) (u1 : a1.toInt ≤ 6) : Mq l yX5_tooDeep cX5_tooDeep 2 (some .boolean) 2 G Z [.ref (ad 77), .int a1] ws0 (PI G (SC tt) ad [16] ws0 (fun r u => (1 ≤ r.toInt) ∧ (r.toInt ≤ 1))) := by
  refine Mq.start (by decide) (Nat.le_of_ble_eq_true rfl) ?_
  intro p e s m below meth c A ls C0 hZ h hl
  have hl : lv_has ls 2 [(0, .ref (ad 77)), (1, .int a1)] := hl
  have h : Wt G (SC tt) ad A s s.heap [] ws0 := ⟨h, hT⟩
  obtain ⟨args, hargs⟩ : ∃ z, z = ([.ref (ad 77), .int a1] : List Value).toArray := ⟨_, rfl⟩
  rw [← hargs] at C0 ⊢
  have C0 : Cx p s m args meth c RX5 cX5_tooDeep 2 (some .boolean) := C0
  obtain ⟨Q, hQ⟩ : ∃ z, z = MQ below ((PI G (SC tt) ad [16] ws0 (fun r u => (1 ≤ r.toInt) ∧ (r.toInt ≤ 1))) A) args s 0 0 A := ⟨_, rfl⟩
  rw [← hQ]
  refine lv_iload_n C0.1 C0.2.1 dX5_tooDeep_0 rfl (lv_at hl 1 rfl) ?_
  refine y_c2 (n := 6) C0 (by decide) dX5_tooDeep_1 (fun v_1 e_2 => ?_)
  refine y_icmp_lt (tgt := 13) C0 dX5_tooDeep_3 (by decide) (fun c_3 => ((o24_1 l1 u1 e_2 c_3)).elim) (fun c_3 => ?_)
  refine lv_aload_n C0.1 C0.2.1 dX5_tooDeep_6 rfl (lv_at hl 0 rfl) ?_
  refine y_c1 (n := 4) C0 (by decide) dX5_tooDeep_7 (fun v_4 e_5 => ?_)
  refine y_cv h (y_rV (As := [.int v_4]) (rest := []) C0 hZ h (c_X5_fail l G Z ad _ h.2 v_4) k_X5_fail q_628 q_3 q_626 kSC_77 rfl rfl rfl hl.1 rfl rfl (Nat.le_of_ble_eq_true rfl) dX5_tooDeep_8 ⟨Nat.le_of_ble_eq_true rfl, Nat.le_of_ble_eq_true rfl⟩ ⟨Nat.le_of_ble_eq_true rfl, Nat.le_of_ble_eq_true rfl⟩) (fun H locs ws_6 h u_7 p_8 => ?_)
  refine y_c1 (n := 1) C0 (by decide) dX5_tooDeep_11 (fun v_9 e_10 => ?_)
  rw [hQ]
  exact y_zret C0 h (o24_4 e_10) (o24_3 e_10) u_7 ⟨(o24_2 e_10), (o24_3 e_10)⟩ dX5_tooDeep_12
set_option maxHeartbeats 4000000 in
set_option maxRecDepth 100000 in
theorem c_X5_atom_6 (l : Launch) (G : GG) (Z : RZ) (ad : Nat → Nat) (ws0 : va_W) (hT : Ty G (SC tt) ad ws0) (a1 : Int32) (l1 : 6 ≤ a1.toInt) (u1 : a1.toInt ≤ 6) : Mq l yX5_atom cX5_atom 3 none 6 G Z [.ref (ad 77), .int a1] ws0 (PV G (SC tt) ad [2, 3, 16] ws0 (fun u => True)) := by
  refine Mq.start (by decide) (Nat.le_of_ble_eq_true rfl) ?_
  intro p e s m below meth c A ls C0 hZ h hl
  have hl : lv_has ls 3 [(0, .ref (ad 77)), (1, .int a1)] := hl
  have h : Wt G (SC tt) ad A s s.heap [] ws0 := ⟨h, hT⟩
  obtain ⟨args, hargs⟩ : ∃ z, z = ([.ref (ad 77), .int a1] : List Value).toArray := ⟨_, rfl⟩
  rw [← hargs] at C0 ⊢
  have C0 : Cx p s m args meth c RX5 cX5_atom 3 none := C0
  obtain ⟨Q, hQ⟩ : ∃ z, z = MQ below ((PV G (SC tt) ad [2, 3, 16] ws0 (fun u => True)) A) args s 0 0 A := ⟨_, rfl⟩
  rw [← hQ]
  refine lv_aload_n C0.1 C0.2.1 dX5_atom_0 rfl (lv_at hl 0 rfl) ?_
  refine tg_X5_kind C0 h kSC_77 q_374 dX5_atom_1 (fun v_1 e_2 e_3 e_4 => ?_)
  refine y_c1 (n := 2) C0 (by decide) dX5_atom_4 (fun v_5 e_6 => ?_)
  refine y_icmp_ne (tgt := 26) C0 dX5_atom_5 (by decide) (fun c_7 => ?_) (fun c_7 => ?_)
  · -- 5
    refine lv_aload_n C0.1 C0.2.1 dX5_atom_26 rfl (lv_at hl 0 rfl) ?_
    refine tg_X5_kind C0 h kSC_77 q_374 dX5_atom_27 (fun v_8 e_9 e_10 e_11 => ?_)
    have q_12 : v_8.toInt = v_1.toInt := congrArg Int32.toInt (e_9.symm.trans (Eq.trans rfl e_2))
    refine y_c2 (n := 40) C0 (by decide) dX5_atom_30 (fun v_13 e_14 => ?_)
    refine y_icmp_ne (tgt := 63) C0 dX5_atom_32 (by decide) (fun c_15 => ?_) (fun c_15 => ?_)
    · -- 32
      refine lv_aload_n C0.1 C0.2.1 dX5_atom_63 rfl (lv_at hl 0 rfl) ?_
      refine va_ldcS C0.1 C0.2.1 C0.2.2.2.1 (sr_12 hZ) dX5_atom_64 ?_
      refine y_ci h (y_rV (As := [.ref (Z.2.1 12)]) (rest := []) C0 hZ h (c_X5_isWord l G Z ad _ h.2 12 (by decide)) k_X5_isWord q_724 q_5 q_722 kSC_77 rfl rfl rfl hl.1 rfl rfl (Nat.le_of_ble_eq_true rfl) dX5_atom_66 ⟨Nat.le_of_ble_eq_true rfl, Nat.le_of_ble_eq_true rfl⟩ ⟨Nat.le_of_ble_eq_true rfl, Nat.le_of_ble_eq_true rfl⟩) (fun r_19 H locs ws_16 h u_17 p_18 => ?_)
      obtain ⟨e_20, e_21⟩ := p_18
      refine y_if_eq (tgt := 78) C0 dX5_atom_69 (by decide) (fun c_22 => ?_) (fun c_22 => ?_)
      · -- 69
        refine lv_aload_n C0.1 C0.2.1 dX5_atom_78 rfl (lv_at hl 0 rfl) ?_
        refine va_ldcS C0.1 C0.2.1 C0.2.2.2.1 (sr_13 hZ) dX5_atom_79 ?_
        refine y_ci h (y_rV (As := [.ref (Z.2.1 13)]) (rest := []) C0 hZ h (c_X5_isWord l G Z ad _ h.2 13 (by decide)) k_X5_isWord q_724 q_5 q_722 kSC_77 rfl rfl rfl hl.1 rfl rfl (Nat.le_of_ble_eq_true rfl) dX5_atom_81 ⟨Nat.le_of_ble_eq_true rfl, Nat.le_of_ble_eq_true rfl⟩ ⟨Nat.le_of_ble_eq_true rfl, Nat.le_of_ble_eq_true rfl⟩) (fun r_26 H locs ws_23 h u_24 p_25 => ?_)
        obtain ⟨e_27, e_28⟩ := p_25
        refine y_if_eq (tgt := 93) C0 dX5_atom_84 (by decide) (fun c_29 => ?_) (fun c_29 => ?_)
        · -- 84
          refine lv_aload_n C0.1 C0.2.1 dX5_atom_93 rfl (lv_at hl 0 rfl) ?_
          refine va_ldcS C0.1 C0.2.1 C0.2.2.2.1 (sr_14 hZ) dX5_atom_94 ?_
          refine y_ci h (y_rV (As := [.ref (Z.2.1 14)]) (rest := []) C0 hZ h (c_X5_isWord l G Z ad _ h.2 14 (by decide)) k_X5_isWord q_724 q_5 q_722 kSC_77 rfl rfl rfl hl.1 rfl rfl (Nat.le_of_ble_eq_true rfl) dX5_atom_96 ⟨Nat.le_of_ble_eq_true rfl, Nat.le_of_ble_eq_true rfl⟩ ⟨Nat.le_of_ble_eq_true rfl, Nat.le_of_ble_eq_true rfl⟩) (fun r_33 H locs ws_30 h u_31 p_32 => ?_)
          obtain ⟨e_34, e_35⟩ := p_32
          refine y_if_eq (tgt := 108) C0 dX5_atom_99 (by decide) (fun c_36 => ?_) (fun c_36 => ?_)
          · -- 99
            refine lv_aload_n C0.1 C0.2.1 dX5_atom_108 rfl (lv_at hl 0 rfl) ?_
            refine va_ldcS C0.1 C0.2.1 C0.2.2.2.1 (sr_15 hZ) dX5_atom_109 ?_
            refine y_ci h (y_rV (As := [.ref (Z.2.1 15)]) (rest := []) C0 hZ h (c_X5_isWord l G Z ad _ h.2 15 (by decide)) k_X5_isWord q_724 q_5 q_722 kSC_77 rfl rfl rfl hl.1 rfl rfl (Nat.le_of_ble_eq_true rfl) dX5_atom_111 ⟨Nat.le_of_ble_eq_true rfl, Nat.le_of_ble_eq_true rfl⟩ ⟨Nat.le_of_ble_eq_true rfl, Nat.le_of_ble_eq_true rfl⟩) (fun r_40 H locs ws_37 h u_38 p_39 => ?_)
            obtain ⟨e_41, e_42⟩ := p_39
            refine y_if_eq (tgt := 123) C0 dX5_atom_114 (by decide) (fun c_43 => ?_) (fun c_43 => ?_)
            · -- 114
              refine lv_aload_n C0.1 C0.2.1 dX5_atom_123 rfl (lv_at hl 0 rfl) ?_
              refine va_ldcS C0.1 C0.2.1 C0.2.2.2.1 (sr_16 hZ) dX5_atom_124 ?_
              refine y_ci h (y_rV (As := [.ref (Z.2.1 16)]) (rest := []) C0 hZ h (c_X5_isWord l G Z ad _ h.2 16 (by decide)) k_X5_isWord q_724 q_5 q_722 kSC_77 rfl rfl rfl hl.1 rfl rfl (Nat.le_of_ble_eq_true rfl) dX5_atom_126 ⟨Nat.le_of_ble_eq_true rfl, Nat.le_of_ble_eq_true rfl⟩ ⟨Nat.le_of_ble_eq_true rfl, Nat.le_of_ble_eq_true rfl⟩) (fun r_47 H locs ws_44 h u_45 p_46 => ?_)
              obtain ⟨e_48, e_49⟩ := p_46
              refine y_if_eq (tgt := 138) C0 dX5_atom_129 (by decide) (fun c_50 => ?_) (fun c_50 => ?_)
              · -- 129
                refine lv_aload_n C0.1 C0.2.1 dX5_atom_138 rfl (lv_at hl 0 rfl) ?_
                refine va_ldcS C0.1 C0.2.1 C0.2.2.2.1 (sr_17 hZ) dX5_atom_139 ?_
                refine y_ci h (y_rV (As := [.ref (Z.2.1 17)]) (rest := []) C0 hZ h (c_X5_isWord l G Z ad _ h.2 17 (by decide)) k_X5_isWord q_724 q_5 q_722 kSC_77 rfl rfl rfl hl.1 rfl rfl (Nat.le_of_ble_eq_true rfl) dX5_atom_141 ⟨Nat.le_of_ble_eq_true rfl, Nat.le_of_ble_eq_true rfl⟩ ⟨Nat.le_of_ble_eq_true rfl, Nat.le_of_ble_eq_true rfl⟩) (fun r_54 H locs ws_51 h u_52 p_53 => ?_)
                obtain ⟨e_55, e_56⟩ := p_53
                refine y_if_eq (tgt := 153) C0 dX5_atom_144 (by decide) (fun c_57 => ?_) (fun c_57 => ?_)
                · -- 144
                  refine y_c1 (n := (-1)) C0 (by decide) dX5_atom_153 (fun v_58 e_59 => ?_)
                  refine lv_istore_n (lv' := [(2, .int v_58), (0, .ref (ad 77)), (1, .int a1)]) C0.1 C0.2.1 dX5_atom_154 rfl hl (by decide) rfl (fun ls hl => ?_)
                  refine lv_iload_n C0.1 C0.2.1 dX5_atom_155 rfl (lv_at hl 0 rfl) ?_
                  refine y_if_ge (tgt := 165) C0 dX5_atom_156 (by decide) (fun c_60 => ((o24_5 e_59 c_60)).elim) (fun c_60 => ?_)
                  refine lv_aload_n C0.1 C0.2.1 dX5_atom_159 rfl (lv_at hl 1 rfl) ?_
                  refine y_c1 (n := 2) C0 (by decide) dX5_atom_160 (fun v_61 e_62 => ?_)
                  refine y_cv h (y_rV (As := [.int v_61]) (rest := []) C0 hZ h (c_X5_fail l G Z ad _ h.2 v_61) k_X5_fail q_628 q_3 q_626 kSC_77 rfl rfl rfl hl.1 rfl rfl (Nat.le_of_ble_eq_true rfl) dX5_atom_161 ⟨Nat.le_of_ble_eq_true rfl, Nat.le_of_ble_eq_true rfl⟩ ⟨Nat.le_of_ble_eq_true rfl, Nat.le_of_ble_eq_true rfl⟩) (fun H locs ws_63 h u_64 p_65 => ?_)
                  rw [hQ]
                  exact y_vret C0 h (Fr.tr (Fr.tr (Fr.tr (Fr.tr (Fr.tr (Fr.tr (Fr.mono u_17 (by decide)) (Fr.mono u_24 (by decide))) (Fr.mono u_31 (by decide))) (Fr.mono u_38 (by decide))) (Fr.mono u_45 (by decide))) (Fr.mono u_52 (by decide))) (Fr.mono u_64 (by decide))) trivial dX5_atom_164
                · -- 144
                  refine y_c3 (n := 1005) C0 (by decide) dX5_atom_147 (fun v_66 e_67 => ?_)
                  refine lv_goto (tgt := 154) C0.1 C0.2.1 dX5_atom_150 (by decide) ?_
                  refine lv_istore_n (lv' := [(2, .int v_66), (0, .ref (ad 77)), (1, .int a1)]) C0.1 C0.2.1 dX5_atom_154 rfl hl (by decide) rfl (fun ls hl => ?_)
                  refine lv_iload_n C0.1 C0.2.1 dX5_atom_155 rfl (lv_at hl 0 rfl) ?_
                  refine y_if_ge (tgt := 165) C0 dX5_atom_156 (by decide) (fun c_68 => ?_) (fun c_68 => ((o24_6 e_67 c_68)).elim)
                  refine lv_aload_n C0.1 C0.2.1 dX5_atom_165 rfl (lv_at hl 1 rfl) ?_
                  refine tg_X5_law C0 h kSC_77 q_380 dX5_atom_166 (fun i_69 hi_69 => ?_)
                  refine lv_iload_n C0.1 C0.2.1 dX5_atom_169 rfl (lv_at hl 0 rfl) ?_
                  refine y_cv h (y_rV (As := [.int v_66]) (rest := []) C0 hZ h (c_X4_add l G Z ad _ h.2 i_69 hi_69 v_66) k_X4_add q_827 q_828 q_826 hi_69 rfl rfl rfl hl.1 rfl rfl (Nat.le_of_ble_eq_true rfl) dX5_atom_170 ⟨Nat.le_of_ble_eq_true rfl, Nat.le_of_ble_eq_true rfl⟩ ⟨Nat.le_of_ble_eq_true rfl, Nat.le_of_ble_eq_true rfl⟩) (fun H locs ws_70 h u_71 p_72 => ?_)
                  refine lv_aload_n C0.1 C0.2.1 dX5_atom_173 rfl (lv_at hl 1 rfl) ?_
                  refine y_cv h (y_rV (As := []) (rest := []) C0 hZ h (c_X5_advance l G Z ad _ h.2) k_X5_advance q_616 q_0 q_614 kSC_77 rfl rfl rfl hl.1 rfl rfl (Nat.le_of_ble_eq_true rfl) dX5_atom_174 ⟨Nat.le_of_ble_eq_true rfl, Nat.le_of_ble_eq_true rfl⟩ ⟨Nat.le_of_ble_eq_true rfl, Nat.le_of_ble_eq_true rfl⟩) (fun H locs ws_73 h u_74 p_75 => ?_)
                  rw [hQ]
                  exact y_vret C0 h (Fr.tr (Fr.tr (Fr.tr (Fr.tr (Fr.tr (Fr.tr (Fr.tr (Fr.mono u_17 (by decide)) (Fr.mono u_24 (by decide))) (Fr.mono u_31 (by decide))) (Fr.mono u_38 (by decide))) (Fr.mono u_45 (by decide))) (Fr.mono u_52 (by decide))) (Fr.mono u_71 (by decide))) (Fr.mono u_74 (by decide))) trivial dX5_atom_177
              · -- 129
                refine y_c3 (n := 1004) C0 (by decide) dX5_atom_132 (fun v_76 e_77 => ?_)
                refine lv_goto (tgt := 154) C0.1 C0.2.1 dX5_atom_135 (by decide) ?_
                refine lv_istore_n (lv' := [(2, .int v_76), (0, .ref (ad 77)), (1, .int a1)]) C0.1 C0.2.1 dX5_atom_154 rfl hl (by decide) rfl (fun ls hl => ?_)
                refine lv_iload_n C0.1 C0.2.1 dX5_atom_155 rfl (lv_at hl 0 rfl) ?_
                refine y_if_ge (tgt := 165) C0 dX5_atom_156 (by decide) (fun c_78 => ?_) (fun c_78 => ((o24_7 e_77 c_78)).elim)
                refine lv_aload_n C0.1 C0.2.1 dX5_atom_165 rfl (lv_at hl 1 rfl) ?_
                refine tg_X5_law C0 h kSC_77 q_380 dX5_atom_166 (fun i_79 hi_79 => ?_)
                refine lv_iload_n C0.1 C0.2.1 dX5_atom_169 rfl (lv_at hl 0 rfl) ?_
                refine y_cv h (y_rV (As := [.int v_76]) (rest := []) C0 hZ h (c_X4_add l G Z ad _ h.2 i_79 hi_79 v_76) k_X4_add q_827 q_828 q_826 hi_79 rfl rfl rfl hl.1 rfl rfl (Nat.le_of_ble_eq_true rfl) dX5_atom_170 ⟨Nat.le_of_ble_eq_true rfl, Nat.le_of_ble_eq_true rfl⟩ ⟨Nat.le_of_ble_eq_true rfl, Nat.le_of_ble_eq_true rfl⟩) (fun H locs ws_80 h u_81 p_82 => ?_)
                refine lv_aload_n C0.1 C0.2.1 dX5_atom_173 rfl (lv_at hl 1 rfl) ?_
                refine y_cv h (y_rV (As := []) (rest := []) C0 hZ h (c_X5_advance l G Z ad _ h.2) k_X5_advance q_616 q_0 q_614 kSC_77 rfl rfl rfl hl.1 rfl rfl (Nat.le_of_ble_eq_true rfl) dX5_atom_174 ⟨Nat.le_of_ble_eq_true rfl, Nat.le_of_ble_eq_true rfl⟩ ⟨Nat.le_of_ble_eq_true rfl, Nat.le_of_ble_eq_true rfl⟩) (fun H locs ws_83 h u_84 p_85 => ?_)
                rw [hQ]
                exact y_vret C0 h (Fr.tr (Fr.tr (Fr.tr (Fr.tr (Fr.tr (Fr.tr (Fr.mono u_17 (by decide)) (Fr.mono u_24 (by decide))) (Fr.mono u_31 (by decide))) (Fr.mono u_38 (by decide))) (Fr.mono u_45 (by decide))) (Fr.mono u_81 (by decide))) (Fr.mono u_84 (by decide))) trivial dX5_atom_177
            · -- 114
              refine y_c3 (n := 1003) C0 (by decide) dX5_atom_117 (fun v_86 e_87 => ?_)
              refine lv_goto (tgt := 154) C0.1 C0.2.1 dX5_atom_120 (by decide) ?_
              refine lv_istore_n (lv' := [(2, .int v_86), (0, .ref (ad 77)), (1, .int a1)]) C0.1 C0.2.1 dX5_atom_154 rfl hl (by decide) rfl (fun ls hl => ?_)
              refine lv_iload_n C0.1 C0.2.1 dX5_atom_155 rfl (lv_at hl 0 rfl) ?_
              refine y_if_ge (tgt := 165) C0 dX5_atom_156 (by decide) (fun c_88 => ?_) (fun c_88 => ((o24_8 e_87 c_88)).elim)
              refine lv_aload_n C0.1 C0.2.1 dX5_atom_165 rfl (lv_at hl 1 rfl) ?_
              refine tg_X5_law C0 h kSC_77 q_380 dX5_atom_166 (fun i_89 hi_89 => ?_)
              refine lv_iload_n C0.1 C0.2.1 dX5_atom_169 rfl (lv_at hl 0 rfl) ?_
              refine y_cv h (y_rV (As := [.int v_86]) (rest := []) C0 hZ h (c_X4_add l G Z ad _ h.2 i_89 hi_89 v_86) k_X4_add q_827 q_828 q_826 hi_89 rfl rfl rfl hl.1 rfl rfl (Nat.le_of_ble_eq_true rfl) dX5_atom_170 ⟨Nat.le_of_ble_eq_true rfl, Nat.le_of_ble_eq_true rfl⟩ ⟨Nat.le_of_ble_eq_true rfl, Nat.le_of_ble_eq_true rfl⟩) (fun H locs ws_90 h u_91 p_92 => ?_)
              refine lv_aload_n C0.1 C0.2.1 dX5_atom_173 rfl (lv_at hl 1 rfl) ?_
              refine y_cv h (y_rV (As := []) (rest := []) C0 hZ h (c_X5_advance l G Z ad _ h.2) k_X5_advance q_616 q_0 q_614 kSC_77 rfl rfl rfl hl.1 rfl rfl (Nat.le_of_ble_eq_true rfl) dX5_atom_174 ⟨Nat.le_of_ble_eq_true rfl, Nat.le_of_ble_eq_true rfl⟩ ⟨Nat.le_of_ble_eq_true rfl, Nat.le_of_ble_eq_true rfl⟩) (fun H locs ws_93 h u_94 p_95 => ?_)
              rw [hQ]
              exact y_vret C0 h (Fr.tr (Fr.tr (Fr.tr (Fr.tr (Fr.tr (Fr.mono u_17 (by decide)) (Fr.mono u_24 (by decide))) (Fr.mono u_31 (by decide))) (Fr.mono u_38 (by decide))) (Fr.mono u_91 (by decide))) (Fr.mono u_94 (by decide))) trivial dX5_atom_177
          · -- 99
            refine y_c3 (n := 1002) C0 (by decide) dX5_atom_102 (fun v_96 e_97 => ?_)
            refine lv_goto (tgt := 154) C0.1 C0.2.1 dX5_atom_105 (by decide) ?_
            refine lv_istore_n (lv' := [(2, .int v_96), (0, .ref (ad 77)), (1, .int a1)]) C0.1 C0.2.1 dX5_atom_154 rfl hl (by decide) rfl (fun ls hl => ?_)
            refine lv_iload_n C0.1 C0.2.1 dX5_atom_155 rfl (lv_at hl 0 rfl) ?_
            refine y_if_ge (tgt := 165) C0 dX5_atom_156 (by decide) (fun c_98 => ?_) (fun c_98 => ((o24_9 e_97 c_98)).elim)
            refine lv_aload_n C0.1 C0.2.1 dX5_atom_165 rfl (lv_at hl 1 rfl) ?_
            refine tg_X5_law C0 h kSC_77 q_380 dX5_atom_166 (fun i_99 hi_99 => ?_)
            refine lv_iload_n C0.1 C0.2.1 dX5_atom_169 rfl (lv_at hl 0 rfl) ?_
            refine y_cv h (y_rV (As := [.int v_96]) (rest := []) C0 hZ h (c_X4_add l G Z ad _ h.2 i_99 hi_99 v_96) k_X4_add q_827 q_828 q_826 hi_99 rfl rfl rfl hl.1 rfl rfl (Nat.le_of_ble_eq_true rfl) dX5_atom_170 ⟨Nat.le_of_ble_eq_true rfl, Nat.le_of_ble_eq_true rfl⟩ ⟨Nat.le_of_ble_eq_true rfl, Nat.le_of_ble_eq_true rfl⟩) (fun H locs ws_100 h u_101 p_102 => ?_)
            refine lv_aload_n C0.1 C0.2.1 dX5_atom_173 rfl (lv_at hl 1 rfl) ?_
            refine y_cv h (y_rV (As := []) (rest := []) C0 hZ h (c_X5_advance l G Z ad _ h.2) k_X5_advance q_616 q_0 q_614 kSC_77 rfl rfl rfl hl.1 rfl rfl (Nat.le_of_ble_eq_true rfl) dX5_atom_174 ⟨Nat.le_of_ble_eq_true rfl, Nat.le_of_ble_eq_true rfl⟩ ⟨Nat.le_of_ble_eq_true rfl, Nat.le_of_ble_eq_true rfl⟩) (fun H locs ws_103 h u_104 p_105 => ?_)
            rw [hQ]
            exact y_vret C0 h (Fr.tr (Fr.tr (Fr.tr (Fr.tr (Fr.mono u_17 (by decide)) (Fr.mono u_24 (by decide))) (Fr.mono u_31 (by decide))) (Fr.mono u_101 (by decide))) (Fr.mono u_104 (by decide))) trivial dX5_atom_177
        · -- 84
          refine y_c3 (n := 1001) C0 (by decide) dX5_atom_87 (fun v_106 e_107 => ?_)
          refine lv_goto (tgt := 154) C0.1 C0.2.1 dX5_atom_90 (by decide) ?_
          refine lv_istore_n (lv' := [(2, .int v_106), (0, .ref (ad 77)), (1, .int a1)]) C0.1 C0.2.1 dX5_atom_154 rfl hl (by decide) rfl (fun ls hl => ?_)
          refine lv_iload_n C0.1 C0.2.1 dX5_atom_155 rfl (lv_at hl 0 rfl) ?_
          refine y_if_ge (tgt := 165) C0 dX5_atom_156 (by decide) (fun c_108 => ?_) (fun c_108 => ((o24_10 e_107 c_108)).elim)
          refine lv_aload_n C0.1 C0.2.1 dX5_atom_165 rfl (lv_at hl 1 rfl) ?_
          refine tg_X5_law C0 h kSC_77 q_380 dX5_atom_166 (fun i_109 hi_109 => ?_)
          refine lv_iload_n C0.1 C0.2.1 dX5_atom_169 rfl (lv_at hl 0 rfl) ?_
          refine y_cv h (y_rV (As := [.int v_106]) (rest := []) C0 hZ h (c_X4_add l G Z ad _ h.2 i_109 hi_109 v_106) k_X4_add q_827 q_828 q_826 hi_109 rfl rfl rfl hl.1 rfl rfl (Nat.le_of_ble_eq_true rfl) dX5_atom_170 ⟨Nat.le_of_ble_eq_true rfl, Nat.le_of_ble_eq_true rfl⟩ ⟨Nat.le_of_ble_eq_true rfl, Nat.le_of_ble_eq_true rfl⟩) (fun H locs ws_110 h u_111 p_112 => ?_)
          refine lv_aload_n C0.1 C0.2.1 dX5_atom_173 rfl (lv_at hl 1 rfl) ?_
          refine y_cv h (y_rV (As := []) (rest := []) C0 hZ h (c_X5_advance l G Z ad _ h.2) k_X5_advance q_616 q_0 q_614 kSC_77 rfl rfl rfl hl.1 rfl rfl (Nat.le_of_ble_eq_true rfl) dX5_atom_174 ⟨Nat.le_of_ble_eq_true rfl, Nat.le_of_ble_eq_true rfl⟩ ⟨Nat.le_of_ble_eq_true rfl, Nat.le_of_ble_eq_true rfl⟩) (fun H locs ws_113 h u_114 p_115 => ?_)
          rw [hQ]
          exact y_vret C0 h (Fr.tr (Fr.tr (Fr.tr (Fr.mono u_17 (by decide)) (Fr.mono u_24 (by decide))) (Fr.mono u_111 (by decide))) (Fr.mono u_114 (by decide))) trivial dX5_atom_177
      · -- 69
        refine y_c3 (n := 1000) C0 (by decide) dX5_atom_72 (fun v_116 e_117 => ?_)
        refine lv_goto (tgt := 154) C0.1 C0.2.1 dX5_atom_75 (by decide) ?_
        refine lv_istore_n (lv' := [(2, .int v_116), (0, .ref (ad 77)), (1, .int a1)]) C0.1 C0.2.1 dX5_atom_154 rfl hl (by decide) rfl (fun ls hl => ?_)
        refine lv_iload_n C0.1 C0.2.1 dX5_atom_155 rfl (lv_at hl 0 rfl) ?_
        refine y_if_ge (tgt := 165) C0 dX5_atom_156 (by decide) (fun c_118 => ?_) (fun c_118 => ((o24_11 e_117 c_118)).elim)
        refine lv_aload_n C0.1 C0.2.1 dX5_atom_165 rfl (lv_at hl 1 rfl) ?_
        refine tg_X5_law C0 h kSC_77 q_380 dX5_atom_166 (fun i_119 hi_119 => ?_)
        refine lv_iload_n C0.1 C0.2.1 dX5_atom_169 rfl (lv_at hl 0 rfl) ?_
        refine y_cv h (y_rV (As := [.int v_116]) (rest := []) C0 hZ h (c_X4_add l G Z ad _ h.2 i_119 hi_119 v_116) k_X4_add q_827 q_828 q_826 hi_119 rfl rfl rfl hl.1 rfl rfl (Nat.le_of_ble_eq_true rfl) dX5_atom_170 ⟨Nat.le_of_ble_eq_true rfl, Nat.le_of_ble_eq_true rfl⟩ ⟨Nat.le_of_ble_eq_true rfl, Nat.le_of_ble_eq_true rfl⟩) (fun H locs ws_120 h u_121 p_122 => ?_)
        refine lv_aload_n C0.1 C0.2.1 dX5_atom_173 rfl (lv_at hl 1 rfl) ?_
        refine y_cv h (y_rV (As := []) (rest := []) C0 hZ h (c_X5_advance l G Z ad _ h.2) k_X5_advance q_616 q_0 q_614 kSC_77 rfl rfl rfl hl.1 rfl rfl (Nat.le_of_ble_eq_true rfl) dX5_atom_174 ⟨Nat.le_of_ble_eq_true rfl, Nat.le_of_ble_eq_true rfl⟩ ⟨Nat.le_of_ble_eq_true rfl, Nat.le_of_ble_eq_true rfl⟩) (fun H locs ws_123 h u_124 p_125 => ?_)
        rw [hQ]
        exact y_vret C0 h (Fr.tr (Fr.tr (Fr.mono u_17 (by decide)) (Fr.mono u_121 (by decide))) (Fr.mono u_124 (by decide))) trivial dX5_atom_177
    · -- 32
      refine lv_aload_n C0.1 C0.2.1 dX5_atom_35 rfl (lv_at hl 0 rfl) ?_
      refine lv_iload_n C0.1 C0.2.1 dX5_atom_36 rfl (lv_at hl 1 rfl) ?_
      refine y_ci h (y_rV (As := [.int a1]) (rest := []) C0 hZ h (c_X5_tooDeep_6 l G Z ad _ h.2 a1 (o24_12 l1 u1) (o24_13 l1 u1)) k_X5_tooDeep q_832 q_18 q_830 kSC_77 rfl rfl rfl hl.1 rfl rfl (Nat.le_of_ble_eq_true rfl) dX5_atom_37 ⟨Nat.le_of_ble_eq_true rfl, Nat.le_of_ble_eq_true rfl⟩ ⟨Nat.le_of_ble_eq_true rfl, Nat.le_of_ble_eq_true rfl⟩) (fun r_129 H locs ws_126 h u_127 p_128 => ?_)
      obtain ⟨e_130, e_131⟩ := p_128
      refine y_if_ne (tgt := 177) C0 dX5_atom_40 (by decide) (fun c_132 => ?_) (fun c_132 => ((o24_14 e_130 e_131 c_132)).elim)
      rw [hQ]
      exact y_vret C0 h (Fr.mono u_127 (by decide)) trivial dX5_atom_177
  · -- 5
    refine lv_aload_n C0.1 C0.2.1 dX5_atom_8 rfl (lv_at hl 0 rfl) ?_
    refine tg_X5_law C0 h kSC_77 q_380 dX5_atom_9 (fun i_133 hi_133 => ?_)
    refine lv_aload_n C0.1 C0.2.1 dX5_atom_12 rfl (lv_at hl 0 rfl) ?_
    refine tg_X5_number C0 h kSC_77 q_377 dX5_atom_13 (fun v_134 e_135 e_136 e_137 => ?_)
    refine y_cv h (y_rV (As := [.int v_134]) (rest := []) C0 hZ h (c_X4_add l G Z ad _ h.2 i_133 hi_133 v_134) k_X4_add q_827 q_828 q_826 hi_133 rfl rfl rfl hl.1 rfl rfl (Nat.le_of_ble_eq_true rfl) dX5_atom_16 ⟨Nat.le_of_ble_eq_true rfl, Nat.le_of_ble_eq_true rfl⟩ ⟨Nat.le_of_ble_eq_true rfl, Nat.le_of_ble_eq_true rfl⟩) (fun H locs ws_138 h u_139 p_140 => ?_)
    refine lv_aload_n C0.1 C0.2.1 dX5_atom_19 rfl (lv_at hl 0 rfl) ?_
    refine y_cv h (y_rV (As := []) (rest := []) C0 hZ h (c_X5_advance l G Z ad _ h.2) k_X5_advance q_616 q_0 q_614 kSC_77 rfl rfl rfl hl.1 rfl rfl (Nat.le_of_ble_eq_true rfl) dX5_atom_20 ⟨Nat.le_of_ble_eq_true rfl, Nat.le_of_ble_eq_true rfl⟩ ⟨Nat.le_of_ble_eq_true rfl, Nat.le_of_ble_eq_true rfl⟩) (fun H locs ws_141 h u_142 p_143 => ?_)
    refine lv_goto (tgt := 177) C0.1 C0.2.1 dX5_atom_23 (by decide) ?_
    rw [hQ]
    exact y_vret C0 h (Fr.tr (Fr.mono u_139 (by decide)) (Fr.mono u_142 (by decide))) trivial dX5_atom_177
set_option maxHeartbeats 4000000 in
set_option maxRecDepth 100000 in
theorem c_X5_term_6 (l : Launch) (G : GG) (Z : RZ) (ad : Nat → Nat) (ws0 : va_W) (hT : Ty G (SC tt) ad ws0) (a1 : Int32) (l1 : 6 ≤ a1.toInt) (u1 : a1.toInt ≤ 6) : Mq l yX5_term cX5_term 3 none 7 G Z [.ref (ad 77), .int a1] ws0 (PV G (SC tt) ad [2, 3, 16] ws0 (fun u => True)) := by
  refine Mq.start (by decide) (Nat.le_of_ble_eq_true rfl) ?_
  intro p e s m below meth c A ls C0 hZ h hl
  have hl : lv_has ls 3 [(0, .ref (ad 77)), (1, .int a1)] := hl
  have h : Wt G (SC tt) ad A s s.heap [] ws0 := ⟨h, hT⟩
  obtain ⟨args, hargs⟩ : ∃ z, z = ([.ref (ad 77), .int a1] : List Value).toArray := ⟨_, rfl⟩
  rw [← hargs] at C0 ⊢
  have C0 : Cx p s m args meth c RX5 cX5_term 3 none := C0
  obtain ⟨Q, hQ⟩ : ∃ z, z = MQ below ((PV G (SC tt) ad [2, 3, 16] ws0 (fun u => True)) A) args s 0 0 A := ⟨_, rfl⟩
  rw [← hQ]
  refine lv_aload_n C0.1 C0.2.1 dX5_term_0 rfl (lv_at hl 0 rfl) ?_
  refine lv_iload_n C0.1 C0.2.1 dX5_term_1 rfl (lv_at hl 1 rfl) ?_
  refine y_cv h (y_rV (As := [.int a1]) (rest := []) C0 hZ h (c_X5_atom_6 l G Z ad _ h.2 a1 (o24_12 l1 u1) (o24_13 l1 u1)) k_X5_atom q_824 q_17 q_822 kSC_77 rfl rfl rfl hl.1 rfl rfl (Nat.le_of_ble_eq_true rfl) dX5_term_2 ⟨Nat.le_of_ble_eq_true rfl, Nat.le_of_ble_eq_true rfl⟩ ⟨Nat.le_of_ble_eq_true rfl, Nat.le_of_ble_eq_true rfl⟩) (fun H locs ws_1 h u_2 p_3 => ?_)
  refine y_c1 (n := 0) C0 (by decide) dX5_term_5 (fun v_4 e_5 => ?_)
  refine lv_istore_n (lv' := [(2, .int v_4), (0, .ref (ad 77)), (1, .int a1)]) C0.1 C0.2.1 dX5_term_6 rfl hl (by decide) rfl (fun ls hl => ?_)
  have lp_9 : ∀ (n_11 : Nat) (x2_6 : Int32) (H : Heap) (locs : List Loc) (ls : Array Slot) (ws_7 : va_W), 900 - x2_6.toInt < (n_11 : Int) → 0 ≤ x2_6.toInt → x2_6.toInt ≤ 900 → Wt G (SC tt) ad A s H locs ws_7 → Fr (SC tt) [2, 3, 16] ws_1 ws_7 → lv_has ls 3 [(2, .int x2_6), (0, .ref (ad 77)), (1, .int a1)] → W p l e (rmd 7 0 0) s m args below meth c H locs 0 0 Q (F0 m 7 ls []) := by
    intro n_11
    induction n_11 with
    | zero => intro x2_6 H locs ls ws_7 hn_12 b_13 b_14 h hF_8 hl; exact ((o24_15 b_13 b_14 hn_12)).elim
    | succ n_11 ih_10 =>
      intro x2_6 H locs ls ws_7 hn_12 b_13 b_14 h hF_8 hl
      refine lv_iload_n C0.1 C0.2.1 dX5_term_7 rfl (lv_at hl 0 rfl) ?_
      refine y_c3 (n := 900) C0 (by decide) dX5_term_8 (fun v_15 e_16 => ?_)
      refine y_icmp_ge (tgt := 48) C0 dX5_term_11 (by decide) (fun c_17 => ?_) (fun c_17 => ?_)
      · -- 11
        rw [hQ]
        exact y_vret C0 h (Fr.tr u_2 hF_8) trivial dX5_term_48
      · -- 11
        refine lv_aload_n C0.1 C0.2.1 dX5_term_14 rfl (lv_at hl 1 rfl) ?_
        refine tg_X5_kind C0 h kSC_77 q_374 dX5_term_15 (fun v_18 e_19 e_20 e_21 => ?_)
        refine y_c2 (n := 42) C0 (by decide) dX5_term_18 (fun v_22 e_23 => ?_)
        refine y_icmp_ne (tgt := 48) C0 dX5_term_20 (by decide) (fun c_24 => ?_) (fun c_24 => ?_)
        · -- 20
          rw [hQ]
          exact y_vret C0 h (Fr.tr u_2 hF_8) trivial dX5_term_48
        · -- 20
          refine lv_aload_n C0.1 C0.2.1 dX5_term_23 rfl (lv_at hl 1 rfl) ?_
          refine y_cv h (y_rV (As := []) (rest := []) C0 hZ h (c_X5_advance l G Z ad _ h.2) k_X5_advance q_616 q_0 q_614 kSC_77 rfl rfl rfl hl.1 rfl rfl (Nat.le_of_ble_eq_true rfl) dX5_term_24 ⟨Nat.le_of_ble_eq_true rfl, Nat.le_of_ble_eq_true rfl⟩ ⟨Nat.le_of_ble_eq_true rfl, Nat.le_of_ble_eq_true rfl⟩) (fun H locs ws_25 h u_26 p_27 => ?_)
          refine lv_aload_n C0.1 C0.2.1 dX5_term_27 rfl (lv_at hl 1 rfl) ?_
          refine lv_iload_n C0.1 C0.2.1 dX5_term_28 rfl (lv_at hl 2 rfl) ?_
          refine y_cv h (y_rV (As := [.int a1]) (rest := []) C0 hZ h (c_X5_atom_6 l G Z ad _ h.2 a1 (o24_12 l1 u1) (o24_13 l1 u1)) k_X5_atom q_824 q_17 q_822 kSC_77 rfl rfl rfl hl.1 rfl rfl (Nat.le_of_ble_eq_true rfl) dX5_term_29 ⟨Nat.le_of_ble_eq_true rfl, Nat.le_of_ble_eq_true rfl⟩ ⟨Nat.le_of_ble_eq_true rfl, Nat.le_of_ble_eq_true rfl⟩) (fun H locs ws_28 h u_29 p_30 => ?_)
          refine lv_aload_n C0.1 C0.2.1 dX5_term_32 rfl (lv_at hl 1 rfl) ?_
          refine tg_X5_law C0 h kSC_77 q_380 dX5_term_33 (fun i_31 hi_31 => ?_)
          refine y_c3 (n := 2002) C0 (by decide) dX5_term_36 (fun v_32 e_33 => ?_)
          refine y_cv h (y_rV (As := [.int v_32]) (rest := []) C0 hZ h (c_X4_add l G Z ad _ h.2 i_31 hi_31 v_32) k_X4_add q_827 q_828 q_826 hi_31 rfl rfl rfl hl.1 rfl rfl (Nat.le_of_ble_eq_true rfl) dX5_term_39 ⟨Nat.le_of_ble_eq_true rfl, Nat.le_of_ble_eq_true rfl⟩ ⟨Nat.le_of_ble_eq_true rfl, Nat.le_of_ble_eq_true rfl⟩) (fun H locs ws_34 h u_35 p_36 => ?_)
          refine y_inc (kp := 0) (n := 1) (fun v_37 => [(2, .int v_37), (0, .ref (ad 77)), (1, .int a1)]) C0 hl rfl (by decide) (by decide) (fun _ => rfl) (o24_16 b_13 b_14 hn_12 e_16 c_17 (le_min x2_6) (le_max x2_6) (le_min v_15) (le_max v_15)) (o24_17 b_13 b_14 hn_12 e_16 c_17 (le_min x2_6) (le_max x2_6) (le_min v_15) (le_max v_15)) dX5_term_42 (fun v_37 ls e_38 hl => ?_)
          refine lv_goto (tgt := 7) C0.1 C0.2.1 dX5_term_45 (by decide) ?_
          exact ih_10 v_37 _ _ _ _ (o24_18 b_13 b_14 hn_12 e_16 c_17 e_38) (o24_19 b_13 b_14 hn_12 e_16 c_17 e_38) (o24_20 b_13 b_14 hn_12 e_16 c_17 e_38) h (Fr.tr (Fr.tr (Fr.tr hF_8 (Fr.mono u_26 (by decide))) u_29) (Fr.mono u_35 (by decide))) (lv_sub hl [0, 1, 2] rfl)
  exact lp_9 ((900 - v_4.toInt + 1).toNat) v_4 _ _ _ _ (o24_21 e_5) (o24_22 e_5) (o24_23 e_5) h Fr.rf (lv_sub hl [0, 1, 2] rfl)
set_option maxHeartbeats 4000000 in
set_option maxRecDepth 100000 in
theorem c_X5_sum_6 (l : Launch) (G : GG) (Z : RZ) (ad : Nat → Nat) (ws0 : va_W) (hT : Ty G (SC tt) ad ws0) (a1 : Int32) (l1 : 6 ≤ a1.toInt) (u1 : a1.toInt ≤ 6) : Mq l yX5_sum cX5_sum 4 none 8 G Z [.ref (ad 77), .int a1] ws0 (PV G (SC tt) ad [2, 3, 16] ws0 (fun u => True)) := by
  refine Mq.start (by decide) (Nat.le_of_ble_eq_true rfl) ?_
  intro p e s m below meth c A ls C0 hZ h hl
  have hl : lv_has ls 4 [(0, .ref (ad 77)), (1, .int a1)] := hl
  have h : Wt G (SC tt) ad A s s.heap [] ws0 := ⟨h, hT⟩
  obtain ⟨args, hargs⟩ : ∃ z, z = ([.ref (ad 77), .int a1] : List Value).toArray := ⟨_, rfl⟩
  rw [← hargs] at C0 ⊢
  have C0 : Cx p s m args meth c RX5 cX5_sum 4 none := C0
  obtain ⟨Q, hQ⟩ : ∃ z, z = MQ below ((PV G (SC tt) ad [2, 3, 16] ws0 (fun u => True)) A) args s 0 0 A := ⟨_, rfl⟩
  rw [← hQ]
  refine lv_aload_n C0.1 C0.2.1 dX5_sum_0 rfl (lv_at hl 0 rfl) ?_
  refine lv_iload_n C0.1 C0.2.1 dX5_sum_1 rfl (lv_at hl 1 rfl) ?_
  refine y_cv h (y_rV (As := [.int a1]) (rest := []) C0 hZ h (c_X5_term_6 l G Z ad _ h.2 a1 (o24_12 l1 u1) (o24_13 l1 u1)) k_X5_term q_820 q_16 q_818 kSC_77 rfl rfl rfl hl.1 rfl rfl (Nat.le_of_ble_eq_true rfl) dX5_sum_2 ⟨Nat.le_of_ble_eq_true rfl, Nat.le_of_ble_eq_true rfl⟩ ⟨Nat.le_of_ble_eq_true rfl, Nat.le_of_ble_eq_true rfl⟩) (fun H locs ws_1 h u_2 p_3 => ?_)
  refine y_c1 (n := 0) C0 (by decide) dX5_sum_5 (fun v_4 e_5 => ?_)
  refine lv_istore_n (lv' := [(2, .int v_4), (0, .ref (ad 77)), (1, .int a1)]) C0.1 C0.2.1 dX5_sum_6 rfl hl (by decide) rfl (fun ls hl => ?_)
  have lp_9 : ∀ (n_11 : Nat) (x2_6 : Int32) (H : Heap) (locs : List Loc) (ls : Array Slot) (ws_7 : va_W), 900 - x2_6.toInt < (n_11 : Int) → 0 ≤ x2_6.toInt → x2_6.toInt ≤ 900 → Wt G (SC tt) ad A s H locs ws_7 → Fr (SC tt) [2, 3, 16] ws_1 ws_7 → lv_has ls 4 [(2, .int x2_6), (0, .ref (ad 77)), (1, .int a1)] → W p l e (rmd 8 0 0) s m args below meth c H locs 0 0 Q (F0 m 7 ls []) := by
    intro n_11
    induction n_11 with
    | zero => intro x2_6 H locs ls ws_7 hn_12 b_13 b_14 h hF_8 hl; exact ((o24_15 b_13 b_14 hn_12)).elim
    | succ n_11 ih_10 =>
      intro x2_6 H locs ls ws_7 hn_12 b_13 b_14 h hF_8 hl
      refine lv_iload_n C0.1 C0.2.1 dX5_sum_7 rfl (lv_at hl 0 rfl) ?_
      refine y_c3 (n := 900) C0 (by decide) dX5_sum_8 (fun v_15 e_16 => ?_)
      refine y_icmp_ge (tgt := 74) C0 dX5_sum_11 (by decide) (fun c_17 => ?_) (fun c_17 => ?_)
      · -- 11
        rw [hQ]
        exact y_vret C0 h (Fr.tr u_2 hF_8) trivial dX5_sum_74
      · -- 11
        refine lv_aload_n C0.1 C0.2.1 dX5_sum_14 rfl (lv_at hl 1 rfl) ?_
        refine tg_X5_kind C0 h kSC_77 q_374 dX5_sum_15 (fun v_18 e_19 e_20 e_21 => ?_)
        refine y_c2 (n := 43) C0 (by decide) dX5_sum_18 (fun v_22 e_23 => ?_)
        refine y_icmp_eq (tgt := 32) C0 dX5_sum_20 (by decide) (fun c_24 => ?_) (fun c_24 => ?_)
        · -- 20
          refine lv_aload_n C0.1 C0.2.1 dX5_sum_32 rfl (lv_at hl 1 rfl) ?_
          refine tg_X5_kind C0 h kSC_77 q_374 dX5_sum_33 (fun v_25 e_26 e_27 e_28 => ?_)
          have q_29 : v_25.toInt = v_18.toInt := congrArg Int32.toInt (e_26.symm.trans (Eq.trans rfl e_19))
          refine y_c2 (n := 43) C0 (by decide) dX5_sum_36 (fun v_30 e_31 => ?_)
          refine y_icmp_ne (tgt := 47) C0 dX5_sum_38 (by decide) (fun c_32 => ((o24_24 e_23 c_24 q_29 e_31 c_32)).elim) (fun c_32 => ?_)
          refine y_c3 (n := 2000) C0 (by decide) dX5_sum_41 (fun v_33 e_34 => ?_)
          refine lv_goto (tgt := 50) C0.1 C0.2.1 dX5_sum_44 (by decide) ?_
          refine lv_istore_n (lv' := [(3, .int v_33), (2, .int x2_6), (0, .ref (ad 77)), (1, .int a1)]) C0.1 C0.2.1 dX5_sum_50 rfl hl (by decide) rfl (fun ls hl => ?_)
          refine lv_aload_n C0.1 C0.2.1 dX5_sum_51 rfl (lv_at hl 2 rfl) ?_
          refine y_cv h (y_rV (As := []) (rest := []) C0 hZ h (c_X5_advance l G Z ad _ h.2) k_X5_advance q_616 q_0 q_614 kSC_77 rfl rfl rfl hl.1 rfl rfl (Nat.le_of_ble_eq_true rfl) dX5_sum_52 ⟨Nat.le_of_ble_eq_true rfl, Nat.le_of_ble_eq_true rfl⟩ ⟨Nat.le_of_ble_eq_true rfl, Nat.le_of_ble_eq_true rfl⟩) (fun H locs ws_35 h u_36 p_37 => ?_)
          refine lv_aload_n C0.1 C0.2.1 dX5_sum_55 rfl (lv_at hl 2 rfl) ?_
          refine lv_iload_n C0.1 C0.2.1 dX5_sum_56 rfl (lv_at hl 3 rfl) ?_
          refine y_cv h (y_rV (As := [.int a1]) (rest := []) C0 hZ h (c_X5_term_6 l G Z ad _ h.2 a1 (o24_12 l1 u1) (o24_13 l1 u1)) k_X5_term q_820 q_16 q_818 kSC_77 rfl rfl rfl hl.1 rfl rfl (Nat.le_of_ble_eq_true rfl) dX5_sum_57 ⟨Nat.le_of_ble_eq_true rfl, Nat.le_of_ble_eq_true rfl⟩ ⟨Nat.le_of_ble_eq_true rfl, Nat.le_of_ble_eq_true rfl⟩) (fun H locs ws_38 h u_39 p_40 => ?_)
          refine lv_aload_n C0.1 C0.2.1 dX5_sum_60 rfl (lv_at hl 2 rfl) ?_
          refine tg_X5_law C0 h kSC_77 q_380 dX5_sum_61 (fun i_41 hi_41 => ?_)
          refine lv_iload_n C0.1 C0.2.1 dX5_sum_64 rfl (lv_at hl 0 rfl) ?_
          refine y_cv h (y_rV (As := [.int v_33]) (rest := []) C0 hZ h (c_X4_add l G Z ad _ h.2 i_41 hi_41 v_33) k_X4_add q_827 q_828 q_826 hi_41 rfl rfl rfl hl.1 rfl rfl (Nat.le_of_ble_eq_true rfl) dX5_sum_65 ⟨Nat.le_of_ble_eq_true rfl, Nat.le_of_ble_eq_true rfl⟩ ⟨Nat.le_of_ble_eq_true rfl, Nat.le_of_ble_eq_true rfl⟩) (fun H locs ws_42 h u_43 p_44 => ?_)
          refine y_inc (kp := 1) (n := 1) (fun v_45 => [(2, .int v_45), (3, .int v_33), (0, .ref (ad 77)), (1, .int a1)]) C0 hl rfl (by decide) (by decide) (fun _ => rfl) (o24_16 b_13 b_14 hn_12 e_16 c_17 (le_min x2_6) (le_max x2_6) (le_min v_15) (le_max v_15)) (o24_17 b_13 b_14 hn_12 e_16 c_17 (le_min x2_6) (le_max x2_6) (le_min v_15) (le_max v_15)) dX5_sum_68 (fun v_45 ls e_46 hl => ?_)
          refine lv_goto (tgt := 7) C0.1 C0.2.1 dX5_sum_71 (by decide) ?_
          exact ih_10 v_45 _ _ _ _ (o24_18 b_13 b_14 hn_12 e_16 c_17 e_46) (o24_19 b_13 b_14 hn_12 e_16 c_17 e_46) (o24_20 b_13 b_14 hn_12 e_16 c_17 e_46) h (Fr.tr (Fr.tr (Fr.tr hF_8 (Fr.mono u_36 (by decide))) u_39) (Fr.mono u_43 (by decide))) (lv_sub hl [0, 2, 3] rfl)
        · -- 20
          refine lv_aload_n C0.1 C0.2.1 dX5_sum_23 rfl (lv_at hl 1 rfl) ?_
          refine tg_X5_kind C0 h kSC_77 q_374 dX5_sum_24 (fun v_47 e_48 e_49 e_50 => ?_)
          have q_51 : v_47.toInt = v_18.toInt := congrArg Int32.toInt (e_48.symm.trans (Eq.trans rfl e_19))
          refine y_c2 (n := 45) C0 (by decide) dX5_sum_27 (fun v_52 e_53 => ?_)
          refine y_icmp_ne (tgt := 74) C0 dX5_sum_29 (by decide) (fun c_54 => ?_) (fun c_54 => ?_)
          · -- 29
            rw [hQ]
            exact y_vret C0 h (Fr.tr u_2 hF_8) trivial dX5_sum_74
          · -- 29
            refine lv_aload_n C0.1 C0.2.1 dX5_sum_32 rfl (lv_at hl 1 rfl) ?_
            refine tg_X5_kind C0 h kSC_77 q_374 dX5_sum_33 (fun v_55 e_56 e_57 e_58 => ?_)
            have q_59 : v_55.toInt = v_18.toInt := congrArg Int32.toInt (e_56.symm.trans (Eq.trans rfl e_19))
            refine y_c2 (n := 43) C0 (by decide) dX5_sum_36 (fun v_60 e_61 => ?_)
            refine y_icmp_ne (tgt := 47) C0 dX5_sum_38 (by decide) (fun c_62 => ?_) (fun c_62 => ((o24_25 e_23 c_24 q_51 e_53 c_54 q_59 e_61 c_62)).elim)
            refine y_c3 (n := 2001) C0 (by decide) dX5_sum_47 (fun v_63 e_64 => ?_)
            refine lv_istore_n (lv' := [(3, .int v_63), (2, .int x2_6), (0, .ref (ad 77)), (1, .int a1)]) C0.1 C0.2.1 dX5_sum_50 rfl hl (by decide) rfl (fun ls hl => ?_)
            refine lv_aload_n C0.1 C0.2.1 dX5_sum_51 rfl (lv_at hl 2 rfl) ?_
            refine y_cv h (y_rV (As := []) (rest := []) C0 hZ h (c_X5_advance l G Z ad _ h.2) k_X5_advance q_616 q_0 q_614 kSC_77 rfl rfl rfl hl.1 rfl rfl (Nat.le_of_ble_eq_true rfl) dX5_sum_52 ⟨Nat.le_of_ble_eq_true rfl, Nat.le_of_ble_eq_true rfl⟩ ⟨Nat.le_of_ble_eq_true rfl, Nat.le_of_ble_eq_true rfl⟩) (fun H locs ws_65 h u_66 p_67 => ?_)
            refine lv_aload_n C0.1 C0.2.1 dX5_sum_55 rfl (lv_at hl 2 rfl) ?_
            refine lv_iload_n C0.1 C0.2.1 dX5_sum_56 rfl (lv_at hl 3 rfl) ?_
            refine y_cv h (y_rV (As := [.int a1]) (rest := []) C0 hZ h (c_X5_term_6 l G Z ad _ h.2 a1 (o24_12 l1 u1) (o24_13 l1 u1)) k_X5_term q_820 q_16 q_818 kSC_77 rfl rfl rfl hl.1 rfl rfl (Nat.le_of_ble_eq_true rfl) dX5_sum_57 ⟨Nat.le_of_ble_eq_true rfl, Nat.le_of_ble_eq_true rfl⟩ ⟨Nat.le_of_ble_eq_true rfl, Nat.le_of_ble_eq_true rfl⟩) (fun H locs ws_68 h u_69 p_70 => ?_)
            refine lv_aload_n C0.1 C0.2.1 dX5_sum_60 rfl (lv_at hl 2 rfl) ?_
            refine tg_X5_law C0 h kSC_77 q_380 dX5_sum_61 (fun i_71 hi_71 => ?_)
            refine lv_iload_n C0.1 C0.2.1 dX5_sum_64 rfl (lv_at hl 0 rfl) ?_
            refine y_cv h (y_rV (As := [.int v_63]) (rest := []) C0 hZ h (c_X4_add l G Z ad _ h.2 i_71 hi_71 v_63) k_X4_add q_827 q_828 q_826 hi_71 rfl rfl rfl hl.1 rfl rfl (Nat.le_of_ble_eq_true rfl) dX5_sum_65 ⟨Nat.le_of_ble_eq_true rfl, Nat.le_of_ble_eq_true rfl⟩ ⟨Nat.le_of_ble_eq_true rfl, Nat.le_of_ble_eq_true rfl⟩) (fun H locs ws_72 h u_73 p_74 => ?_)
            refine y_inc (kp := 1) (n := 1) (fun v_75 => [(2, .int v_75), (3, .int v_63), (0, .ref (ad 77)), (1, .int a1)]) C0 hl rfl (by decide) (by decide) (fun _ => rfl) (o24_16 b_13 b_14 hn_12 e_16 c_17 (le_min x2_6) (le_max x2_6) (le_min v_15) (le_max v_15)) (o24_17 b_13 b_14 hn_12 e_16 c_17 (le_min x2_6) (le_max x2_6) (le_min v_15) (le_max v_15)) dX5_sum_68 (fun v_75 ls e_76 hl => ?_)
            refine lv_goto (tgt := 7) C0.1 C0.2.1 dX5_sum_71 (by decide) ?_
            exact ih_10 v_75 _ _ _ _ (o24_18 b_13 b_14 hn_12 e_16 c_17 e_76) (o24_19 b_13 b_14 hn_12 e_16 c_17 e_76) (o24_20 b_13 b_14 hn_12 e_16 c_17 e_76) h (Fr.tr (Fr.tr (Fr.tr hF_8 (Fr.mono u_66 (by decide))) u_69) (Fr.mono u_73 (by decide))) (lv_sub hl [0, 2, 3] rfl)
  exact lp_9 ((900 - v_4.toInt + 1).toNat) v_4 _ _ _ _ (o24_21 e_5) (o24_22 e_5) (o24_23 e_5) h Fr.rf (lv_sub hl [0, 1, 2] rfl)
set_option maxHeartbeats 4000000 in
set_option maxRecDepth 100000 in
theorem c_X5_unit_6 (l : Launch) (G : GG) (Z : RZ) (ad : Nat → Nat) (ws0 : va_W) (hT : Ty G (SC tt) ad ws0) (a1 : Int32) (l1 : 6 ≤ a1.toInt) (u1 : a1.toInt ≤ 6) : Mq l yX5_unit cX5_unit 3 none 9 G Z [.ref (ad 77), .int a1] ws0 (PV G (SC tt) ad [2, 3, 16] ws0 (fun u => True)) := by
  refine Mq.start (by decide) (Nat.le_of_ble_eq_true rfl) ?_
  intro p e s m below meth c A ls C0 hZ h hl
  have hl : lv_has ls 3 [(0, .ref (ad 77)), (1, .int a1)] := hl
  have h : Wt G (SC tt) ad A s s.heap [] ws0 := ⟨h, hT⟩
  obtain ⟨args, hargs⟩ : ∃ z, z = ([.ref (ad 77), .int a1] : List Value).toArray := ⟨_, rfl⟩
  rw [← hargs] at C0 ⊢
  have C0 : Cx p s m args meth c RX5 cX5_unit 3 none := C0
  obtain ⟨Q, hQ⟩ : ∃ z, z = MQ below ((PV G (SC tt) ad [2, 3, 16] ws0 (fun u => True)) A) args s 0 0 A := ⟨_, rfl⟩
  rw [← hQ]
  refine lv_aload_n C0.1 C0.2.1 dX5_unit_0 rfl (lv_at hl 0 rfl) ?_
  refine va_ldcS C0.1 C0.2.1 C0.2.2.2.1 (sr_19 hZ) dX5_unit_1 ?_
  refine y_ci h (y_rV (As := [.ref (Z.2.1 19)]) (rest := []) C0 hZ h (c_X5_isWord l G Z ad _ h.2 19 (by decide)) k_X5_isWord q_724 q_5 q_722 kSC_77 rfl rfl rfl hl.1 rfl rfl (Nat.le_of_ble_eq_true rfl) dX5_unit_3 ⟨Nat.le_of_ble_eq_true rfl, Nat.le_of_ble_eq_true rfl⟩ ⟨Nat.le_of_ble_eq_true rfl, Nat.le_of_ble_eq_true rfl⟩) (fun r_4 H locs ws_1 h u_2 p_3 => ?_)
  obtain ⟨e_5, e_6⟩ := p_3
  refine y_if_eq (tgt := 49) C0 dX5_unit_6 (by decide) (fun c_7 => ?_) (fun c_7 => ?_)
  · -- 6
    refine lv_aload_n C0.1 C0.2.1 dX5_unit_49 rfl (lv_at hl 0 rfl) ?_
    refine tg_X5_kind C0 h kSC_77 q_374 dX5_unit_50 (fun v_8 e_9 e_10 e_11 => ?_)
    refine y_c2 (n := 91) C0 (by decide) dX5_unit_53 (fun v_12 e_13 => ?_)
    refine y_icmp_ne (tgt := 86) C0 dX5_unit_55 (by decide) (fun c_14 => ?_) (fun c_14 => ?_)
    · -- 55
      refine lv_aload_n C0.1 C0.2.1 dX5_unit_86 rfl (lv_at hl 0 rfl) ?_
      refine lv_iload_n C0.1 C0.2.1 dX5_unit_87 rfl (lv_at hl 1 rfl) ?_
      refine y_cv h (y_rV (As := [.int a1]) (rest := []) C0 hZ h (c_X5_sum_6 l G Z ad _ h.2 a1 (o24_12 l1 u1) (o24_13 l1 u1)) k_X5_sum q_816 q_15 q_814 kSC_77 rfl rfl rfl hl.1 rfl rfl (Nat.le_of_ble_eq_true rfl) dX5_unit_88 ⟨Nat.le_of_ble_eq_true rfl, Nat.le_of_ble_eq_true rfl⟩ ⟨Nat.le_of_ble_eq_true rfl, Nat.le_of_ble_eq_true rfl⟩) (fun H locs ws_15 h u_16 p_17 => ?_)
      refine lv_aload_n C0.1 C0.2.1 dX5_unit_91 rfl (lv_at hl 0 rfl) ?_
      refine tg_X5_kind C0 h kSC_77 q_374 dX5_unit_92 (fun v_18 e_19 e_20 e_21 => ?_)
      refine y_c2 (n := 61) C0 (by decide) dX5_unit_95 (fun v_22 e_23 => ?_)
      refine y_icmp_ne (tgt := 106) C0 dX5_unit_97 (by decide) (fun c_24 => ?_) (fun c_24 => ?_)
      · -- 97
        refine lv_aload_n C0.1 C0.2.1 dX5_unit_106 rfl (lv_at hl 0 rfl) ?_
        refine tg_X5_kind C0 h kSC_77 q_374 dX5_unit_107 (fun v_25 e_26 e_27 e_28 => ?_)
        have q_29 : v_25.toInt = v_18.toInt := congrArg Int32.toInt (e_26.symm.trans (Eq.trans rfl e_19))
        refine y_c2 (n := 60) C0 (by decide) dX5_unit_110 (fun v_30 e_31 => ?_)
        refine y_icmp_ne (tgt := 121) C0 dX5_unit_112 (by decide) (fun c_32 => ?_) (fun c_32 => ?_)
        · -- 112
          refine lv_aload_n C0.1 C0.2.1 dX5_unit_121 rfl (lv_at hl 0 rfl) ?_
          refine tg_X5_kind C0 h kSC_77 q_374 dX5_unit_122 (fun v_33 e_34 e_35 e_36 => ?_)
          have q_37 : v_33.toInt = v_18.toInt := congrArg Int32.toInt (e_34.symm.trans (Eq.trans rfl e_19))
          refine y_c2 (n := 62) C0 (by decide) dX5_unit_125 (fun v_38 e_39 => ?_)
          refine y_icmp_ne (tgt := 136) C0 dX5_unit_127 (by decide) (fun c_40 => ?_) (fun c_40 => ?_)
          · -- 127
            refine y_c1 (n := (-1)) C0 (by decide) dX5_unit_136 (fun v_41 e_42 => ?_)
            refine lv_istore_n (lv' := [(2, .int v_41), (0, .ref (ad 77)), (1, .int a1)]) C0.1 C0.2.1 dX5_unit_137 rfl hl (by decide) rfl (fun ls hl => ?_)
            refine lv_iload_n C0.1 C0.2.1 dX5_unit_138 rfl (lv_at hl 0 rfl) ?_
            refine y_if_ge (tgt := 148) C0 dX5_unit_139 (by decide) (fun c_43 => ((o24_5 e_42 c_43)).elim) (fun c_43 => ?_)
            refine lv_aload_n C0.1 C0.2.1 dX5_unit_142 rfl (lv_at hl 1 rfl) ?_
            refine y_c1 (n := 2) C0 (by decide) dX5_unit_143 (fun v_44 e_45 => ?_)
            refine y_cv h (y_rV (As := [.int v_44]) (rest := []) C0 hZ h (c_X5_fail l G Z ad _ h.2 v_44) k_X5_fail q_628 q_3 q_626 kSC_77 rfl rfl rfl hl.1 rfl rfl (Nat.le_of_ble_eq_true rfl) dX5_unit_144 ⟨Nat.le_of_ble_eq_true rfl, Nat.le_of_ble_eq_true rfl⟩ ⟨Nat.le_of_ble_eq_true rfl, Nat.le_of_ble_eq_true rfl⟩) (fun H locs ws_46 h u_47 p_48 => ?_)
            rw [hQ]
            exact y_vret C0 h (Fr.tr (Fr.tr (Fr.mono u_2 (by decide)) u_16) (Fr.mono u_47 (by decide))) trivial dX5_unit_147
          · -- 127
            refine y_c3 (n := 2005) C0 (by decide) dX5_unit_130 (fun v_49 e_50 => ?_)
            refine lv_goto (tgt := 137) C0.1 C0.2.1 dX5_unit_133 (by decide) ?_
            refine lv_istore_n (lv' := [(2, .int v_49), (0, .ref (ad 77)), (1, .int a1)]) C0.1 C0.2.1 dX5_unit_137 rfl hl (by decide) rfl (fun ls hl => ?_)
            refine lv_iload_n C0.1 C0.2.1 dX5_unit_138 rfl (lv_at hl 0 rfl) ?_
            refine y_if_ge (tgt := 148) C0 dX5_unit_139 (by decide) (fun c_51 => ?_) (fun c_51 => ((o24_26 e_50 c_51)).elim)
            refine lv_aload_n C0.1 C0.2.1 dX5_unit_148 rfl (lv_at hl 1 rfl) ?_
            refine y_cv h (y_rV (As := []) (rest := []) C0 hZ h (c_X5_advance l G Z ad _ h.2) k_X5_advance q_616 q_0 q_614 kSC_77 rfl rfl rfl hl.1 rfl rfl (Nat.le_of_ble_eq_true rfl) dX5_unit_149 ⟨Nat.le_of_ble_eq_true rfl, Nat.le_of_ble_eq_true rfl⟩ ⟨Nat.le_of_ble_eq_true rfl, Nat.le_of_ble_eq_true rfl⟩) (fun H locs ws_52 h u_53 p_54 => ?_)
            refine lv_aload_n C0.1 C0.2.1 dX5_unit_152 rfl (lv_at hl 1 rfl) ?_
            refine lv_iload_n C0.1 C0.2.1 dX5_unit_153 rfl (lv_at hl 2 rfl) ?_
            refine y_cv h (y_rV (As := [.int a1]) (rest := []) C0 hZ h (c_X5_sum_6 l G Z ad _ h.2 a1 (o24_12 l1 u1) (o24_13 l1 u1)) k_X5_sum q_816 q_15 q_814 kSC_77 rfl rfl rfl hl.1 rfl rfl (Nat.le_of_ble_eq_true rfl) dX5_unit_154 ⟨Nat.le_of_ble_eq_true rfl, Nat.le_of_ble_eq_true rfl⟩ ⟨Nat.le_of_ble_eq_true rfl, Nat.le_of_ble_eq_true rfl⟩) (fun H locs ws_55 h u_56 p_57 => ?_)
            refine lv_aload_n C0.1 C0.2.1 dX5_unit_157 rfl (lv_at hl 1 rfl) ?_
            refine tg_X5_law C0 h kSC_77 q_380 dX5_unit_158 (fun i_58 hi_58 => ?_)
            refine lv_iload_n C0.1 C0.2.1 dX5_unit_161 rfl (lv_at hl 0 rfl) ?_
            refine y_cv h (y_rV (As := [.int v_49]) (rest := []) C0 hZ h (c_X4_add l G Z ad _ h.2 i_58 hi_58 v_49) k_X4_add q_827 q_828 q_826 hi_58 rfl rfl rfl hl.1 rfl rfl (Nat.le_of_ble_eq_true rfl) dX5_unit_162 ⟨Nat.le_of_ble_eq_true rfl, Nat.le_of_ble_eq_true rfl⟩ ⟨Nat.le_of_ble_eq_true rfl, Nat.le_of_ble_eq_true rfl⟩) (fun H locs ws_59 h u_60 p_61 => ?_)
            rw [hQ]
            exact y_vret C0 h (Fr.tr (Fr.tr (Fr.tr (Fr.tr (Fr.mono u_2 (by decide)) u_16) (Fr.mono u_53 (by decide))) u_56) (Fr.mono u_60 (by decide))) trivial dX5_unit_165
        · -- 112
          refine y_c3 (n := 2004) C0 (by decide) dX5_unit_115 (fun v_62 e_63 => ?_)
          refine lv_goto (tgt := 137) C0.1 C0.2.1 dX5_unit_118 (by decide) ?_
          refine lv_istore_n (lv' := [(2, .int v_62), (0, .ref (ad 77)), (1, .int a1)]) C0.1 C0.2.1 dX5_unit_137 rfl hl (by decide) rfl (fun ls hl => ?_)
          refine lv_iload_n C0.1 C0.2.1 dX5_unit_138 rfl (lv_at hl 0 rfl) ?_
          refine y_if_ge (tgt := 148) C0 dX5_unit_139 (by decide) (fun c_64 => ?_) (fun c_64 => ((o24_27 e_63 c_64)).elim)
          refine lv_aload_n C0.1 C0.2.1 dX5_unit_148 rfl (lv_at hl 1 rfl) ?_
          refine y_cv h (y_rV (As := []) (rest := []) C0 hZ h (c_X5_advance l G Z ad _ h.2) k_X5_advance q_616 q_0 q_614 kSC_77 rfl rfl rfl hl.1 rfl rfl (Nat.le_of_ble_eq_true rfl) dX5_unit_149 ⟨Nat.le_of_ble_eq_true rfl, Nat.le_of_ble_eq_true rfl⟩ ⟨Nat.le_of_ble_eq_true rfl, Nat.le_of_ble_eq_true rfl⟩) (fun H locs ws_65 h u_66 p_67 => ?_)
          refine lv_aload_n C0.1 C0.2.1 dX5_unit_152 rfl (lv_at hl 1 rfl) ?_
          refine lv_iload_n C0.1 C0.2.1 dX5_unit_153 rfl (lv_at hl 2 rfl) ?_
          refine y_cv h (y_rV (As := [.int a1]) (rest := []) C0 hZ h (c_X5_sum_6 l G Z ad _ h.2 a1 (o24_12 l1 u1) (o24_13 l1 u1)) k_X5_sum q_816 q_15 q_814 kSC_77 rfl rfl rfl hl.1 rfl rfl (Nat.le_of_ble_eq_true rfl) dX5_unit_154 ⟨Nat.le_of_ble_eq_true rfl, Nat.le_of_ble_eq_true rfl⟩ ⟨Nat.le_of_ble_eq_true rfl, Nat.le_of_ble_eq_true rfl⟩) (fun H locs ws_68 h u_69 p_70 => ?_)
          refine lv_aload_n C0.1 C0.2.1 dX5_unit_157 rfl (lv_at hl 1 rfl) ?_
          refine tg_X5_law C0 h kSC_77 q_380 dX5_unit_158 (fun i_71 hi_71 => ?_)
          refine lv_iload_n C0.1 C0.2.1 dX5_unit_161 rfl (lv_at hl 0 rfl) ?_
          refine y_cv h (y_rV (As := [.int v_62]) (rest := []) C0 hZ h (c_X4_add l G Z ad _ h.2 i_71 hi_71 v_62) k_X4_add q_827 q_828 q_826 hi_71 rfl rfl rfl hl.1 rfl rfl (Nat.le_of_ble_eq_true rfl) dX5_unit_162 ⟨Nat.le_of_ble_eq_true rfl, Nat.le_of_ble_eq_true rfl⟩ ⟨Nat.le_of_ble_eq_true rfl, Nat.le_of_ble_eq_true rfl⟩) (fun H locs ws_72 h u_73 p_74 => ?_)
          rw [hQ]
          exact y_vret C0 h (Fr.tr (Fr.tr (Fr.tr (Fr.tr (Fr.mono u_2 (by decide)) u_16) (Fr.mono u_66 (by decide))) u_69) (Fr.mono u_73 (by decide))) trivial dX5_unit_165
      · -- 97
        refine y_c3 (n := 2003) C0 (by decide) dX5_unit_100 (fun v_75 e_76 => ?_)
        refine lv_goto (tgt := 137) C0.1 C0.2.1 dX5_unit_103 (by decide) ?_
        refine lv_istore_n (lv' := [(2, .int v_75), (0, .ref (ad 77)), (1, .int a1)]) C0.1 C0.2.1 dX5_unit_137 rfl hl (by decide) rfl (fun ls hl => ?_)
        refine lv_iload_n C0.1 C0.2.1 dX5_unit_138 rfl (lv_at hl 0 rfl) ?_
        refine y_if_ge (tgt := 148) C0 dX5_unit_139 (by decide) (fun c_77 => ?_) (fun c_77 => ((o24_28 e_76 c_77)).elim)
        refine lv_aload_n C0.1 C0.2.1 dX5_unit_148 rfl (lv_at hl 1 rfl) ?_
        refine y_cv h (y_rV (As := []) (rest := []) C0 hZ h (c_X5_advance l G Z ad _ h.2) k_X5_advance q_616 q_0 q_614 kSC_77 rfl rfl rfl hl.1 rfl rfl (Nat.le_of_ble_eq_true rfl) dX5_unit_149 ⟨Nat.le_of_ble_eq_true rfl, Nat.le_of_ble_eq_true rfl⟩ ⟨Nat.le_of_ble_eq_true rfl, Nat.le_of_ble_eq_true rfl⟩) (fun H locs ws_78 h u_79 p_80 => ?_)
        refine lv_aload_n C0.1 C0.2.1 dX5_unit_152 rfl (lv_at hl 1 rfl) ?_
        refine lv_iload_n C0.1 C0.2.1 dX5_unit_153 rfl (lv_at hl 2 rfl) ?_
        refine y_cv h (y_rV (As := [.int a1]) (rest := []) C0 hZ h (c_X5_sum_6 l G Z ad _ h.2 a1 (o24_12 l1 u1) (o24_13 l1 u1)) k_X5_sum q_816 q_15 q_814 kSC_77 rfl rfl rfl hl.1 rfl rfl (Nat.le_of_ble_eq_true rfl) dX5_unit_154 ⟨Nat.le_of_ble_eq_true rfl, Nat.le_of_ble_eq_true rfl⟩ ⟨Nat.le_of_ble_eq_true rfl, Nat.le_of_ble_eq_true rfl⟩) (fun H locs ws_81 h u_82 p_83 => ?_)
        refine lv_aload_n C0.1 C0.2.1 dX5_unit_157 rfl (lv_at hl 1 rfl) ?_
        refine tg_X5_law C0 h kSC_77 q_380 dX5_unit_158 (fun i_84 hi_84 => ?_)
        refine lv_iload_n C0.1 C0.2.1 dX5_unit_161 rfl (lv_at hl 0 rfl) ?_
        refine y_cv h (y_rV (As := [.int v_75]) (rest := []) C0 hZ h (c_X4_add l G Z ad _ h.2 i_84 hi_84 v_75) k_X4_add q_827 q_828 q_826 hi_84 rfl rfl rfl hl.1 rfl rfl (Nat.le_of_ble_eq_true rfl) dX5_unit_162 ⟨Nat.le_of_ble_eq_true rfl, Nat.le_of_ble_eq_true rfl⟩ ⟨Nat.le_of_ble_eq_true rfl, Nat.le_of_ble_eq_true rfl⟩) (fun H locs ws_85 h u_86 p_87 => ?_)
        rw [hQ]
        exact y_vret C0 h (Fr.tr (Fr.tr (Fr.tr (Fr.tr (Fr.mono u_2 (by decide)) u_16) (Fr.mono u_79 (by decide))) u_82) (Fr.mono u_86 (by decide))) trivial dX5_unit_165
    · -- 55
      refine lv_aload_n C0.1 C0.2.1 dX5_unit_58 rfl (lv_at hl 0 rfl) ?_
      refine lv_iload_n C0.1 C0.2.1 dX5_unit_59 rfl (lv_at hl 1 rfl) ?_
      refine y_ci h (y_rV (As := [.int a1]) (rest := []) C0 hZ h (c_X5_tooDeep_6 l G Z ad _ h.2 a1 (o24_12 l1 u1) (o24_13 l1 u1)) k_X5_tooDeep q_832 q_18 q_830 kSC_77 rfl rfl rfl hl.1 rfl rfl (Nat.le_of_ble_eq_true rfl) dX5_unit_60 ⟨Nat.le_of_ble_eq_true rfl, Nat.le_of_ble_eq_true rfl⟩ ⟨Nat.le_of_ble_eq_true rfl, Nat.le_of_ble_eq_true rfl⟩) (fun r_91 H locs ws_88 h u_89 p_90 => ?_)
      obtain ⟨e_92, e_93⟩ := p_90
      refine y_if_ne (tgt := 165) C0 dX5_unit_63 (by decide) (fun c_94 => ?_) (fun c_94 => ((o24_14 e_92 e_93 c_94)).elim)
      rw [hQ]
      exact y_vret C0 h (Fr.tr (Fr.mono u_2 (by decide)) (Fr.mono u_89 (by decide))) trivial dX5_unit_165
  · -- 6
    refine lv_aload_n C0.1 C0.2.1 dX5_unit_9 rfl (lv_at hl 0 rfl) ?_
    refine lv_iload_n C0.1 C0.2.1 dX5_unit_10 rfl (lv_at hl 1 rfl) ?_
    refine y_ci h (y_rV (As := [.int a1]) (rest := []) C0 hZ h (c_X5_tooDeep_6 l G Z ad _ h.2 a1 (o24_12 l1 u1) (o24_13 l1 u1)) k_X5_tooDeep q_832 q_18 q_830 kSC_77 rfl rfl rfl hl.1 rfl rfl (Nat.le_of_ble_eq_true rfl) dX5_unit_11 ⟨Nat.le_of_ble_eq_true rfl, Nat.le_of_ble_eq_true rfl⟩ ⟨Nat.le_of_ble_eq_true rfl, Nat.le_of_ble_eq_true rfl⟩) (fun r_98 H locs ws_95 h u_96 p_97 => ?_)
    obtain ⟨e_99, e_100⟩ := p_97
    refine y_if_ne (tgt := 165) C0 dX5_unit_14 (by decide) (fun c_101 => ?_) (fun c_101 => ((o24_14 e_99 e_100 c_101)).elim)
    rw [hQ]
    exact y_vret C0 h (Fr.tr (Fr.mono u_2 (by decide)) (Fr.mono u_96 (by decide))) trivial dX5_unit_165
set_option maxHeartbeats 4000000 in
set_option maxRecDepth 100000 in
theorem c_X5_both_6 (l : Launch) (G : GG) (Z : RZ) (ad : Nat → Nat) (ws0 : va_W) (hT : Ty G (SC tt) ad ws0) (a1 : Int32) (l1 : 6 ≤ a1.toInt) (u1 : a1.toInt ≤ 6) : Mq l yX5_both cX5_both 3 none 10 G Z [.ref (ad 77), .int a1] ws0 (PV G (SC tt) ad [2, 3, 16] ws0 (fun u => True)) := by
  refine Mq.start (by decide) (Nat.le_of_ble_eq_true rfl) ?_
  intro p e s m below meth c A ls C0 hZ h hl
  have hl : lv_has ls 3 [(0, .ref (ad 77)), (1, .int a1)] := hl
  have h : Wt G (SC tt) ad A s s.heap [] ws0 := ⟨h, hT⟩
  obtain ⟨args, hargs⟩ : ∃ z, z = ([.ref (ad 77), .int a1] : List Value).toArray := ⟨_, rfl⟩
  rw [← hargs] at C0 ⊢
  have C0 : Cx p s m args meth c RX5 cX5_both 3 none := C0
  obtain ⟨Q, hQ⟩ : ∃ z, z = MQ below ((PV G (SC tt) ad [2, 3, 16] ws0 (fun u => True)) A) args s 0 0 A := ⟨_, rfl⟩
  rw [← hQ]
  refine lv_aload_n C0.1 C0.2.1 dX5_both_0 rfl (lv_at hl 0 rfl) ?_
  refine lv_iload_n C0.1 C0.2.1 dX5_both_1 rfl (lv_at hl 1 rfl) ?_
  refine y_cv h (y_rV (As := [.int a1]) (rest := []) C0 hZ h (c_X5_unit_6 l G Z ad _ h.2 a1 (o24_12 l1 u1) (o24_13 l1 u1)) k_X5_unit q_851 q_21 q_849 kSC_77 rfl rfl rfl hl.1 rfl rfl (Nat.le_of_ble_eq_true rfl) dX5_both_2 ⟨Nat.le_of_ble_eq_true rfl, Nat.le_of_ble_eq_true rfl⟩ ⟨Nat.le_of_ble_eq_true rfl, Nat.le_of_ble_eq_true rfl⟩) (fun H locs ws_1 h u_2 p_3 => ?_)
  refine y_c1 (n := 0) C0 (by decide) dX5_both_5 (fun v_4 e_5 => ?_)
  refine lv_istore_n (lv' := [(2, .int v_4), (0, .ref (ad 77)), (1, .int a1)]) C0.1 C0.2.1 dX5_both_6 rfl hl (by decide) rfl (fun ls hl => ?_)
  have lp_9 : ∀ (n_11 : Nat) (x2_6 : Int32) (H : Heap) (locs : List Loc) (ls : Array Slot) (ws_7 : va_W), 900 - x2_6.toInt < (n_11 : Int) → 0 ≤ x2_6.toInt → x2_6.toInt ≤ 900 → Wt G (SC tt) ad A s H locs ws_7 → Fr (SC tt) [2, 3, 16] ws_1 ws_7 → lv_has ls 3 [(2, .int x2_6), (0, .ref (ad 77)), (1, .int a1)] → W p l e (rmd 10 0 0) s m args below meth c H locs 0 0 Q (F0 m 7 ls []) := by
    intro n_11
    induction n_11 with
    | zero => intro x2_6 H locs ls ws_7 hn_12 b_13 b_14 h hF_8 hl; exact ((o24_15 b_13 b_14 hn_12)).elim
    | succ n_11 ih_10 =>
      intro x2_6 H locs ls ws_7 hn_12 b_13 b_14 h hF_8 hl
      refine lv_iload_n C0.1 C0.2.1 dX5_both_7 rfl (lv_at hl 0 rfl) ?_
      refine y_c3 (n := 900) C0 (by decide) dX5_both_8 (fun v_15 e_16 => ?_)
      refine y_icmp_ge (tgt := 48) C0 dX5_both_11 (by decide) (fun c_17 => ?_) (fun c_17 => ?_)
      · -- 11
        rw [hQ]
        exact y_vret C0 h (Fr.tr u_2 hF_8) trivial dX5_both_48
      · -- 11
        refine lv_aload_n C0.1 C0.2.1 dX5_both_14 rfl (lv_at hl 1 rfl) ?_
        refine va_ldcS C0.1 C0.2.1 C0.2.2.2.1 (sr_20 hZ) dX5_both_15 ?_
        refine y_ci h (y_rV (As := [.ref (Z.2.1 20)]) (rest := []) C0 hZ h (c_X5_isWord l G Z ad _ h.2 20 (by decide)) k_X5_isWord q_724 q_5 q_722 kSC_77 rfl rfl rfl hl.1 rfl rfl (Nat.le_of_ble_eq_true rfl) dX5_both_17 ⟨Nat.le_of_ble_eq_true rfl, Nat.le_of_ble_eq_true rfl⟩ ⟨Nat.le_of_ble_eq_true rfl, Nat.le_of_ble_eq_true rfl⟩) (fun r_21 H locs ws_18 h u_19 p_20 => ?_)
        obtain ⟨e_22, e_23⟩ := p_20
        refine y_if_eq (tgt := 48) C0 dX5_both_20 (by decide) (fun c_24 => ?_) (fun c_24 => ?_)
        · -- 20
          rw [hQ]
          exact y_vret C0 h (Fr.tr (Fr.tr u_2 hF_8) (Fr.mono u_19 (by decide))) trivial dX5_both_48
        · -- 20
          refine lv_aload_n C0.1 C0.2.1 dX5_both_23 rfl (lv_at hl 1 rfl) ?_
          refine y_cv h (y_rV (As := []) (rest := []) C0 hZ h (c_X5_advance l G Z ad _ h.2) k_X5_advance q_616 q_0 q_614 kSC_77 rfl rfl rfl hl.1 rfl rfl (Nat.le_of_ble_eq_true rfl) dX5_both_24 ⟨Nat.le_of_ble_eq_true rfl, Nat.le_of_ble_eq_true rfl⟩ ⟨Nat.le_of_ble_eq_true rfl, Nat.le_of_ble_eq_true rfl⟩) (fun H locs ws_25 h u_26 p_27 => ?_)
          refine lv_aload_n C0.1 C0.2.1 dX5_both_27 rfl (lv_at hl 1 rfl) ?_
          refine lv_iload_n C0.1 C0.2.1 dX5_both_28 rfl (lv_at hl 2 rfl) ?_
          refine y_cv h (y_rV (As := [.int a1]) (rest := []) C0 hZ h (c_X5_unit_6 l G Z ad _ h.2 a1 (o24_12 l1 u1) (o24_13 l1 u1)) k_X5_unit q_851 q_21 q_849 kSC_77 rfl rfl rfl hl.1 rfl rfl (Nat.le_of_ble_eq_true rfl) dX5_both_29 ⟨Nat.le_of_ble_eq_true rfl, Nat.le_of_ble_eq_true rfl⟩ ⟨Nat.le_of_ble_eq_true rfl, Nat.le_of_ble_eq_true rfl⟩) (fun H locs ws_28 h u_29 p_30 => ?_)
          refine lv_aload_n C0.1 C0.2.1 dX5_both_32 rfl (lv_at hl 1 rfl) ?_
          refine tg_X5_law C0 h kSC_77 q_380 dX5_both_33 (fun i_31 hi_31 => ?_)
          refine y_c3 (n := 2006) C0 (by decide) dX5_both_36 (fun v_32 e_33 => ?_)
          refine y_cv h (y_rV (As := [.int v_32]) (rest := []) C0 hZ h (c_X4_add l G Z ad _ h.2 i_31 hi_31 v_32) k_X4_add q_827 q_828 q_826 hi_31 rfl rfl rfl hl.1 rfl rfl (Nat.le_of_ble_eq_true rfl) dX5_both_39 ⟨Nat.le_of_ble_eq_true rfl, Nat.le_of_ble_eq_true rfl⟩ ⟨Nat.le_of_ble_eq_true rfl, Nat.le_of_ble_eq_true rfl⟩) (fun H locs ws_34 h u_35 p_36 => ?_)
          refine y_inc (kp := 0) (n := 1) (fun v_37 => [(2, .int v_37), (0, .ref (ad 77)), (1, .int a1)]) C0 hl rfl (by decide) (by decide) (fun _ => rfl) (o24_16 b_13 b_14 hn_12 e_16 c_17 (le_min x2_6) (le_max x2_6) (le_min v_15) (le_max v_15)) (o24_17 b_13 b_14 hn_12 e_16 c_17 (le_min x2_6) (le_max x2_6) (le_min v_15) (le_max v_15)) dX5_both_42 (fun v_37 ls e_38 hl => ?_)
          refine lv_goto (tgt := 7) C0.1 C0.2.1 dX5_both_45 (by decide) ?_
          exact ih_10 v_37 _ _ _ _ (o24_18 b_13 b_14 hn_12 e_16 c_17 e_38) (o24_19 b_13 b_14 hn_12 e_16 c_17 e_38) (o24_20 b_13 b_14 hn_12 e_16 c_17 e_38) h (Fr.tr (Fr.tr (Fr.tr (Fr.tr hF_8 (Fr.mono u_19 (by decide))) (Fr.mono u_26 (by decide))) u_29) (Fr.mono u_35 (by decide))) (lv_sub hl [0, 1, 2] rfl)
  exact lp_9 ((900 - v_4.toInt + 1).toNat) v_4 _ _ _ _ (o24_21 e_5) (o24_22 e_5) (o24_23 e_5) h Fr.rf (lv_sub hl [0, 1, 2] rfl)
set_option maxHeartbeats 4000000 in
set_option maxRecDepth 100000 in
theorem c_X5_truth_6 (l : Launch) (G : GG) (Z : RZ) (ad : Nat → Nat) (ws0 : va_W) (hT : Ty G (SC tt) ad ws0) (a1 : Int32) (l1 : 6 ≤ a1.toInt) (u1 : a1.toInt ≤ 6) : Mq l yX5_truth cX5_truth 3 none 11 G Z [.ref (ad 77), .int a1] ws0 (PV G (SC tt) ad [2, 3, 16] ws0 (fun u => True)) := by
  refine Mq.start (by decide) (Nat.le_of_ble_eq_true rfl) ?_
  intro p e s m below meth c A ls C0 hZ h hl
  have hl : lv_has ls 3 [(0, .ref (ad 77)), (1, .int a1)] := hl
  have h : Wt G (SC tt) ad A s s.heap [] ws0 := ⟨h, hT⟩
  obtain ⟨args, hargs⟩ : ∃ z, z = ([.ref (ad 77), .int a1] : List Value).toArray := ⟨_, rfl⟩
  rw [← hargs] at C0 ⊢
  have C0 : Cx p s m args meth c RX5 cX5_truth 3 none := C0
  obtain ⟨Q, hQ⟩ : ∃ z, z = MQ below ((PV G (SC tt) ad [2, 3, 16] ws0 (fun u => True)) A) args s 0 0 A := ⟨_, rfl⟩
  rw [← hQ]
  refine lv_aload_n C0.1 C0.2.1 dX5_truth_0 rfl (lv_at hl 0 rfl) ?_
  refine lv_iload_n C0.1 C0.2.1 dX5_truth_1 rfl (lv_at hl 1 rfl) ?_
  refine y_cv h (y_rV (As := [.int a1]) (rest := []) C0 hZ h (c_X5_both_6 l G Z ad _ h.2 a1 (o24_12 l1 u1) (o24_13 l1 u1)) k_X5_both q_847 q_20 q_845 kSC_77 rfl rfl rfl hl.1 rfl rfl (Nat.le_of_ble_eq_true rfl) dX5_truth_2 ⟨Nat.le_of_ble_eq_true rfl, Nat.le_of_ble_eq_true rfl⟩ ⟨Nat.le_of_ble_eq_true rfl, Nat.le_of_ble_eq_true rfl⟩) (fun H locs ws_1 h u_2 p_3 => ?_)
  refine y_c1 (n := 0) C0 (by decide) dX5_truth_5 (fun v_4 e_5 => ?_)
  refine lv_istore_n (lv' := [(2, .int v_4), (0, .ref (ad 77)), (1, .int a1)]) C0.1 C0.2.1 dX5_truth_6 rfl hl (by decide) rfl (fun ls hl => ?_)
  have lp_9 : ∀ (n_11 : Nat) (x2_6 : Int32) (H : Heap) (locs : List Loc) (ls : Array Slot) (ws_7 : va_W), 900 - x2_6.toInt < (n_11 : Int) → 0 ≤ x2_6.toInt → x2_6.toInt ≤ 900 → Wt G (SC tt) ad A s H locs ws_7 → Fr (SC tt) [2, 3, 16] ws_1 ws_7 → lv_has ls 3 [(2, .int x2_6), (0, .ref (ad 77)), (1, .int a1)] → W p l e (rmd 11 0 0) s m args below meth c H locs 0 0 Q (F0 m 7 ls []) := by
    intro n_11
    induction n_11 with
    | zero => intro x2_6 H locs ls ws_7 hn_12 b_13 b_14 h hF_8 hl; exact ((o24_15 b_13 b_14 hn_12)).elim
    | succ n_11 ih_10 =>
      intro x2_6 H locs ls ws_7 hn_12 b_13 b_14 h hF_8 hl
      refine lv_iload_n C0.1 C0.2.1 dX5_truth_7 rfl (lv_at hl 0 rfl) ?_
      refine y_c3 (n := 900) C0 (by decide) dX5_truth_8 (fun v_15 e_16 => ?_)
      refine y_icmp_ge (tgt := 48) C0 dX5_truth_11 (by decide) (fun c_17 => ?_) (fun c_17 => ?_)
      · -- 11
        rw [hQ]
        exact y_vret C0 h (Fr.tr u_2 hF_8) trivial dX5_truth_48
      · -- 11
        refine lv_aload_n C0.1 C0.2.1 dX5_truth_14 rfl (lv_at hl 1 rfl) ?_
        refine va_ldcS C0.1 C0.2.1 C0.2.2.2.1 (sr_21 hZ) dX5_truth_15 ?_
        refine y_ci h (y_rV (As := [.ref (Z.2.1 21)]) (rest := []) C0 hZ h (c_X5_isWord l G Z ad _ h.2 21 (by decide)) k_X5_isWord q_724 q_5 q_722 kSC_77 rfl rfl rfl hl.1 rfl rfl (Nat.le_of_ble_eq_true rfl) dX5_truth_17 ⟨Nat.le_of_ble_eq_true rfl, Nat.le_of_ble_eq_true rfl⟩ ⟨Nat.le_of_ble_eq_true rfl, Nat.le_of_ble_eq_true rfl⟩) (fun r_21 H locs ws_18 h u_19 p_20 => ?_)
        obtain ⟨e_22, e_23⟩ := p_20
        refine y_if_eq (tgt := 48) C0 dX5_truth_20 (by decide) (fun c_24 => ?_) (fun c_24 => ?_)
        · -- 20
          rw [hQ]
          exact y_vret C0 h (Fr.tr (Fr.tr u_2 hF_8) (Fr.mono u_19 (by decide))) trivial dX5_truth_48
        · -- 20
          refine lv_aload_n C0.1 C0.2.1 dX5_truth_23 rfl (lv_at hl 1 rfl) ?_
          refine y_cv h (y_rV (As := []) (rest := []) C0 hZ h (c_X5_advance l G Z ad _ h.2) k_X5_advance q_616 q_0 q_614 kSC_77 rfl rfl rfl hl.1 rfl rfl (Nat.le_of_ble_eq_true rfl) dX5_truth_24 ⟨Nat.le_of_ble_eq_true rfl, Nat.le_of_ble_eq_true rfl⟩ ⟨Nat.le_of_ble_eq_true rfl, Nat.le_of_ble_eq_true rfl⟩) (fun H locs ws_25 h u_26 p_27 => ?_)
          refine lv_aload_n C0.1 C0.2.1 dX5_truth_27 rfl (lv_at hl 1 rfl) ?_
          refine lv_iload_n C0.1 C0.2.1 dX5_truth_28 rfl (lv_at hl 2 rfl) ?_
          refine y_cv h (y_rV (As := [.int a1]) (rest := []) C0 hZ h (c_X5_both_6 l G Z ad _ h.2 a1 (o24_12 l1 u1) (o24_13 l1 u1)) k_X5_both q_847 q_20 q_845 kSC_77 rfl rfl rfl hl.1 rfl rfl (Nat.le_of_ble_eq_true rfl) dX5_truth_29 ⟨Nat.le_of_ble_eq_true rfl, Nat.le_of_ble_eq_true rfl⟩ ⟨Nat.le_of_ble_eq_true rfl, Nat.le_of_ble_eq_true rfl⟩) (fun H locs ws_28 h u_29 p_30 => ?_)
          refine lv_aload_n C0.1 C0.2.1 dX5_truth_32 rfl (lv_at hl 1 rfl) ?_
          refine tg_X5_law C0 h kSC_77 q_380 dX5_truth_33 (fun i_31 hi_31 => ?_)
          refine y_c3 (n := 2007) C0 (by decide) dX5_truth_36 (fun v_32 e_33 => ?_)
          refine y_cv h (y_rV (As := [.int v_32]) (rest := []) C0 hZ h (c_X4_add l G Z ad _ h.2 i_31 hi_31 v_32) k_X4_add q_827 q_828 q_826 hi_31 rfl rfl rfl hl.1 rfl rfl (Nat.le_of_ble_eq_true rfl) dX5_truth_39 ⟨Nat.le_of_ble_eq_true rfl, Nat.le_of_ble_eq_true rfl⟩ ⟨Nat.le_of_ble_eq_true rfl, Nat.le_of_ble_eq_true rfl⟩) (fun H locs ws_34 h u_35 p_36 => ?_)
          refine y_inc (kp := 0) (n := 1) (fun v_37 => [(2, .int v_37), (0, .ref (ad 77)), (1, .int a1)]) C0 hl rfl (by decide) (by decide) (fun _ => rfl) (o24_16 b_13 b_14 hn_12 e_16 c_17 (le_min x2_6) (le_max x2_6) (le_min v_15) (le_max v_15)) (o24_17 b_13 b_14 hn_12 e_16 c_17 (le_min x2_6) (le_max x2_6) (le_min v_15) (le_max v_15)) dX5_truth_42 (fun v_37 ls e_38 hl => ?_)
          refine lv_goto (tgt := 7) C0.1 C0.2.1 dX5_truth_45 (by decide) ?_
          exact ih_10 v_37 _ _ _ _ (o24_18 b_13 b_14 hn_12 e_16 c_17 e_38) (o24_19 b_13 b_14 hn_12 e_16 c_17 e_38) (o24_20 b_13 b_14 hn_12 e_16 c_17 e_38) h (Fr.tr (Fr.tr (Fr.tr (Fr.tr hF_8 (Fr.mono u_19 (by decide))) (Fr.mono u_26 (by decide))) u_29) (Fr.mono u_35 (by decide))) (lv_sub hl [0, 1, 2] rfl)
  exact lp_9 ((900 - v_4.toInt + 1).toNat) v_4 _ _ _ _ (o24_21 e_5) (o24_22 e_5) (o24_23 e_5) h Fr.rf (lv_sub hl [0, 1, 2] rfl)
set_option maxHeartbeats 4000000 in
set_option maxRecDepth 100000 in
theorem c_X5_tooDeep_5 (l : Launch) (G : GG) (Z : RZ) (ad : Nat → Nat) (ws0 : va_W) (hT : Ty G (SC tt) ad ws0) (a1 : Int32) (l1 : 5 ≤ a1.toInt) (u1 : a1.toInt ≤ 5) : Mq l yX5_tooDeep cX5_tooDeep 2 (some .boolean) 1 G Z [.ref (ad 77), .int a1] ws0 (PI G (SC tt) ad [] ws0 (fun r u => (0 ≤ r.toInt) ∧ (r.toInt ≤ 0))) := by
  refine Mq.start (by decide) (Nat.le_of_ble_eq_true rfl) ?_
  intro p e s m below meth c A ls C0 hZ h hl
  have hl : lv_has ls 2 [(0, .ref (ad 77)), (1, .int a1)] := hl
  have h : Wt G (SC tt) ad A s s.heap [] ws0 := ⟨h, hT⟩
  obtain ⟨args, hargs⟩ : ∃ z, z = ([.ref (ad 77), .int a1] : List Value).toArray := ⟨_, rfl⟩
  rw [← hargs] at C0 ⊢
  have C0 : Cx p s m args meth c RX5 cX5_tooDeep 2 (some .boolean) := C0
  obtain ⟨Q, hQ⟩ : ∃ z, z = MQ below ((PI G (SC tt) ad [] ws0 (fun r u => (0 ≤ r.toInt) ∧ (r.toInt ≤ 0))) A) args s 0 0 A := ⟨_, rfl⟩
  rw [← hQ]
  refine lv_iload_n C0.1 C0.2.1 dX5_tooDeep_0 rfl (lv_at hl 1 rfl) ?_
  refine y_c2 (n := 6) C0 (by decide) dX5_tooDeep_1 (fun v_1 e_2 => ?_)
  refine y_icmp_lt (tgt := 13) C0 dX5_tooDeep_3 (by decide) (fun c_3 => ?_) (fun c_3 => ((o24_29 l1 u1 e_2 c_3)).elim)
  refine y_c1 (n := 0) C0 (by decide) dX5_tooDeep_13 (fun v_4 e_5 => ?_)
  rw [hQ]
  exact y_zret C0 h (o24_22 e_5) (o24_31 e_5) Fr.rf ⟨(o24_22 e_5), (o24_30 e_5)⟩ dX5_tooDeep_14
set_option maxHeartbeats 4000000 in
set_option maxRecDepth 100000 in
theorem c_X5_atom_5 (l : Launch) (G : GG) (Z : RZ) (ad : Nat → Nat) (ws0 : va_W) (hT : Ty G (SC tt) ad ws0) (a1 : Int32) (l1 : 5 ≤ a1.toInt) (u1 : a1.toInt ≤ 5) : Mq l yX5_atom cX5_atom 3 none 9 G Z [.ref (ad 77), .int a1] ws0 (PV G (SC tt) ad [2, 3, 16] ws0 (fun u => True)) := by
  refine Mq.start (by decide) (Nat.le_of_ble_eq_true rfl) ?_
  intro p e s m below meth c A ls C0 hZ h hl
  have hl : lv_has ls 3 [(0, .ref (ad 77)), (1, .int a1)] := hl
  have h : Wt G (SC tt) ad A s s.heap [] ws0 := ⟨h, hT⟩
  obtain ⟨args, hargs⟩ : ∃ z, z = ([.ref (ad 77), .int a1] : List Value).toArray := ⟨_, rfl⟩
  rw [← hargs] at C0 ⊢
  have C0 : Cx p s m args meth c RX5 cX5_atom 3 none := C0
  obtain ⟨Q, hQ⟩ : ∃ z, z = MQ below ((PV G (SC tt) ad [2, 3, 16] ws0 (fun u => True)) A) args s 0 0 A := ⟨_, rfl⟩
  rw [← hQ]
  refine lv_aload_n C0.1 C0.2.1 dX5_atom_0 rfl (lv_at hl 0 rfl) ?_
  refine tg_X5_kind C0 h kSC_77 q_374 dX5_atom_1 (fun v_1 e_2 e_3 e_4 => ?_)
  refine y_c1 (n := 2) C0 (by decide) dX5_atom_4 (fun v_5 e_6 => ?_)
  refine y_icmp_ne (tgt := 26) C0 dX5_atom_5 (by decide) (fun c_7 => ?_) (fun c_7 => ?_)
  · -- 5
    refine lv_aload_n C0.1 C0.2.1 dX5_atom_26 rfl (lv_at hl 0 rfl) ?_
    refine tg_X5_kind C0 h kSC_77 q_374 dX5_atom_27 (fun v_8 e_9 e_10 e_11 => ?_)
    have q_12 : v_8.toInt = v_1.toInt := congrArg Int32.toInt (e_9.symm.trans (Eq.trans rfl e_2))
    refine y_c2 (n := 40) C0 (by decide) dX5_atom_30 (fun v_13 e_14 => ?_)
    refine y_icmp_ne (tgt := 63) C0 dX5_atom_32 (by decide) (fun c_15 => ?_) (fun c_15 => ?_)
    · -- 32
      refine lv_aload_n C0.1 C0.2.1 dX5_atom_63 rfl (lv_at hl 0 rfl) ?_
      refine va_ldcS C0.1 C0.2.1 C0.2.2.2.1 (sr_12 hZ) dX5_atom_64 ?_
      refine y_ci h (y_rV (As := [.ref (Z.2.1 12)]) (rest := []) C0 hZ h (c_X5_isWord l G Z ad _ h.2 12 (by decide)) k_X5_isWord q_724 q_5 q_722 kSC_77 rfl rfl rfl hl.1 rfl rfl (Nat.le_of_ble_eq_true rfl) dX5_atom_66 ⟨Nat.le_of_ble_eq_true rfl, Nat.le_of_ble_eq_true rfl⟩ ⟨Nat.le_of_ble_eq_true rfl, Nat.le_of_ble_eq_true rfl⟩) (fun r_19 H locs ws_16 h u_17 p_18 => ?_)
      obtain ⟨e_20, e_21⟩ := p_18
      refine y_if_eq (tgt := 78) C0 dX5_atom_69 (by decide) (fun c_22 => ?_) (fun c_22 => ?_)
      · -- 69
        refine lv_aload_n C0.1 C0.2.1 dX5_atom_78 rfl (lv_at hl 0 rfl) ?_
        refine va_ldcS C0.1 C0.2.1 C0.2.2.2.1 (sr_13 hZ) dX5_atom_79 ?_
        refine y_ci h (y_rV (As := [.ref (Z.2.1 13)]) (rest := []) C0 hZ h (c_X5_isWord l G Z ad _ h.2 13 (by decide)) k_X5_isWord q_724 q_5 q_722 kSC_77 rfl rfl rfl hl.1 rfl rfl (Nat.le_of_ble_eq_true rfl) dX5_atom_81 ⟨Nat.le_of_ble_eq_true rfl, Nat.le_of_ble_eq_true rfl⟩ ⟨Nat.le_of_ble_eq_true rfl, Nat.le_of_ble_eq_true rfl⟩) (fun r_26 H locs ws_23 h u_24 p_25 => ?_)
        obtain ⟨e_27, e_28⟩ := p_25
        refine y_if_eq (tgt := 93) C0 dX5_atom_84 (by decide) (fun c_29 => ?_) (fun c_29 => ?_)
        · -- 84
          refine lv_aload_n C0.1 C0.2.1 dX5_atom_93 rfl (lv_at hl 0 rfl) ?_
          refine va_ldcS C0.1 C0.2.1 C0.2.2.2.1 (sr_14 hZ) dX5_atom_94 ?_
          refine y_ci h (y_rV (As := [.ref (Z.2.1 14)]) (rest := []) C0 hZ h (c_X5_isWord l G Z ad _ h.2 14 (by decide)) k_X5_isWord q_724 q_5 q_722 kSC_77 rfl rfl rfl hl.1 rfl rfl (Nat.le_of_ble_eq_true rfl) dX5_atom_96 ⟨Nat.le_of_ble_eq_true rfl, Nat.le_of_ble_eq_true rfl⟩ ⟨Nat.le_of_ble_eq_true rfl, Nat.le_of_ble_eq_true rfl⟩) (fun r_33 H locs ws_30 h u_31 p_32 => ?_)
          obtain ⟨e_34, e_35⟩ := p_32
          refine y_if_eq (tgt := 108) C0 dX5_atom_99 (by decide) (fun c_36 => ?_) (fun c_36 => ?_)
          · -- 99
            refine lv_aload_n C0.1 C0.2.1 dX5_atom_108 rfl (lv_at hl 0 rfl) ?_
            refine va_ldcS C0.1 C0.2.1 C0.2.2.2.1 (sr_15 hZ) dX5_atom_109 ?_
            refine y_ci h (y_rV (As := [.ref (Z.2.1 15)]) (rest := []) C0 hZ h (c_X5_isWord l G Z ad _ h.2 15 (by decide)) k_X5_isWord q_724 q_5 q_722 kSC_77 rfl rfl rfl hl.1 rfl rfl (Nat.le_of_ble_eq_true rfl) dX5_atom_111 ⟨Nat.le_of_ble_eq_true rfl, Nat.le_of_ble_eq_true rfl⟩ ⟨Nat.le_of_ble_eq_true rfl, Nat.le_of_ble_eq_true rfl⟩) (fun r_40 H locs ws_37 h u_38 p_39 => ?_)
            obtain ⟨e_41, e_42⟩ := p_39
            refine y_if_eq (tgt := 123) C0 dX5_atom_114 (by decide) (fun c_43 => ?_) (fun c_43 => ?_)
            · -- 114
              refine lv_aload_n C0.1 C0.2.1 dX5_atom_123 rfl (lv_at hl 0 rfl) ?_
              refine va_ldcS C0.1 C0.2.1 C0.2.2.2.1 (sr_16 hZ) dX5_atom_124 ?_
              refine y_ci h (y_rV (As := [.ref (Z.2.1 16)]) (rest := []) C0 hZ h (c_X5_isWord l G Z ad _ h.2 16 (by decide)) k_X5_isWord q_724 q_5 q_722 kSC_77 rfl rfl rfl hl.1 rfl rfl (Nat.le_of_ble_eq_true rfl) dX5_atom_126 ⟨Nat.le_of_ble_eq_true rfl, Nat.le_of_ble_eq_true rfl⟩ ⟨Nat.le_of_ble_eq_true rfl, Nat.le_of_ble_eq_true rfl⟩) (fun r_47 H locs ws_44 h u_45 p_46 => ?_)
              obtain ⟨e_48, e_49⟩ := p_46
              refine y_if_eq (tgt := 138) C0 dX5_atom_129 (by decide) (fun c_50 => ?_) (fun c_50 => ?_)
              · -- 129
                refine lv_aload_n C0.1 C0.2.1 dX5_atom_138 rfl (lv_at hl 0 rfl) ?_
                refine va_ldcS C0.1 C0.2.1 C0.2.2.2.1 (sr_17 hZ) dX5_atom_139 ?_
                refine y_ci h (y_rV (As := [.ref (Z.2.1 17)]) (rest := []) C0 hZ h (c_X5_isWord l G Z ad _ h.2 17 (by decide)) k_X5_isWord q_724 q_5 q_722 kSC_77 rfl rfl rfl hl.1 rfl rfl (Nat.le_of_ble_eq_true rfl) dX5_atom_141 ⟨Nat.le_of_ble_eq_true rfl, Nat.le_of_ble_eq_true rfl⟩ ⟨Nat.le_of_ble_eq_true rfl, Nat.le_of_ble_eq_true rfl⟩) (fun r_54 H locs ws_51 h u_52 p_53 => ?_)
                obtain ⟨e_55, e_56⟩ := p_53
                refine y_if_eq (tgt := 153) C0 dX5_atom_144 (by decide) (fun c_57 => ?_) (fun c_57 => ?_)
                · -- 144
                  refine y_c1 (n := (-1)) C0 (by decide) dX5_atom_153 (fun v_58 e_59 => ?_)
                  refine lv_istore_n (lv' := [(2, .int v_58), (0, .ref (ad 77)), (1, .int a1)]) C0.1 C0.2.1 dX5_atom_154 rfl hl (by decide) rfl (fun ls hl => ?_)
                  refine lv_iload_n C0.1 C0.2.1 dX5_atom_155 rfl (lv_at hl 0 rfl) ?_
                  refine y_if_ge (tgt := 165) C0 dX5_atom_156 (by decide) (fun c_60 => ((o24_5 e_59 c_60)).elim) (fun c_60 => ?_)
                  refine lv_aload_n C0.1 C0.2.1 dX5_atom_159 rfl (lv_at hl 1 rfl) ?_
                  refine y_c1 (n := 2) C0 (by decide) dX5_atom_160 (fun v_61 e_62 => ?_)
                  refine y_cv h (y_rV (As := [.int v_61]) (rest := []) C0 hZ h (c_X5_fail l G Z ad _ h.2 v_61) k_X5_fail q_628 q_3 q_626 kSC_77 rfl rfl rfl hl.1 rfl rfl (Nat.le_of_ble_eq_true rfl) dX5_atom_161 ⟨Nat.le_of_ble_eq_true rfl, Nat.le_of_ble_eq_true rfl⟩ ⟨Nat.le_of_ble_eq_true rfl, Nat.le_of_ble_eq_true rfl⟩) (fun H locs ws_63 h u_64 p_65 => ?_)
                  rw [hQ]
                  exact y_vret C0 h (Fr.tr (Fr.tr (Fr.tr (Fr.tr (Fr.tr (Fr.tr (Fr.mono u_17 (by decide)) (Fr.mono u_24 (by decide))) (Fr.mono u_31 (by decide))) (Fr.mono u_38 (by decide))) (Fr.mono u_45 (by decide))) (Fr.mono u_52 (by decide))) (Fr.mono u_64 (by decide))) trivial dX5_atom_164
                · -- 144
                  refine y_c3 (n := 1005) C0 (by decide) dX5_atom_147 (fun v_66 e_67 => ?_)
                  refine lv_goto (tgt := 154) C0.1 C0.2.1 dX5_atom_150 (by decide) ?_
                  refine lv_istore_n (lv' := [(2, .int v_66), (0, .ref (ad 77)), (1, .int a1)]) C0.1 C0.2.1 dX5_atom_154 rfl hl (by decide) rfl (fun ls hl => ?_)
                  refine lv_iload_n C0.1 C0.2.1 dX5_atom_155 rfl (lv_at hl 0 rfl) ?_
                  refine y_if_ge (tgt := 165) C0 dX5_atom_156 (by decide) (fun c_68 => ?_) (fun c_68 => ((o24_6 e_67 c_68)).elim)
                  refine lv_aload_n C0.1 C0.2.1 dX5_atom_165 rfl (lv_at hl 1 rfl) ?_
                  refine tg_X5_law C0 h kSC_77 q_380 dX5_atom_166 (fun i_69 hi_69 => ?_)
                  refine lv_iload_n C0.1 C0.2.1 dX5_atom_169 rfl (lv_at hl 0 rfl) ?_
                  refine y_cv h (y_rV (As := [.int v_66]) (rest := []) C0 hZ h (c_X4_add l G Z ad _ h.2 i_69 hi_69 v_66) k_X4_add q_827 q_828 q_826 hi_69 rfl rfl rfl hl.1 rfl rfl (Nat.le_of_ble_eq_true rfl) dX5_atom_170 ⟨Nat.le_of_ble_eq_true rfl, Nat.le_of_ble_eq_true rfl⟩ ⟨Nat.le_of_ble_eq_true rfl, Nat.le_of_ble_eq_true rfl⟩) (fun H locs ws_70 h u_71 p_72 => ?_)
                  refine lv_aload_n C0.1 C0.2.1 dX5_atom_173 rfl (lv_at hl 1 rfl) ?_
                  refine y_cv h (y_rV (As := []) (rest := []) C0 hZ h (c_X5_advance l G Z ad _ h.2) k_X5_advance q_616 q_0 q_614 kSC_77 rfl rfl rfl hl.1 rfl rfl (Nat.le_of_ble_eq_true rfl) dX5_atom_174 ⟨Nat.le_of_ble_eq_true rfl, Nat.le_of_ble_eq_true rfl⟩ ⟨Nat.le_of_ble_eq_true rfl, Nat.le_of_ble_eq_true rfl⟩) (fun H locs ws_73 h u_74 p_75 => ?_)
                  rw [hQ]
                  exact y_vret C0 h (Fr.tr (Fr.tr (Fr.tr (Fr.tr (Fr.tr (Fr.tr (Fr.tr (Fr.mono u_17 (by decide)) (Fr.mono u_24 (by decide))) (Fr.mono u_31 (by decide))) (Fr.mono u_38 (by decide))) (Fr.mono u_45 (by decide))) (Fr.mono u_52 (by decide))) (Fr.mono u_71 (by decide))) (Fr.mono u_74 (by decide))) trivial dX5_atom_177
              · -- 129
                refine y_c3 (n := 1004) C0 (by decide) dX5_atom_132 (fun v_76 e_77 => ?_)
                refine lv_goto (tgt := 154) C0.1 C0.2.1 dX5_atom_135 (by decide) ?_
                refine lv_istore_n (lv' := [(2, .int v_76), (0, .ref (ad 77)), (1, .int a1)]) C0.1 C0.2.1 dX5_atom_154 rfl hl (by decide) rfl (fun ls hl => ?_)
                refine lv_iload_n C0.1 C0.2.1 dX5_atom_155 rfl (lv_at hl 0 rfl) ?_
                refine y_if_ge (tgt := 165) C0 dX5_atom_156 (by decide) (fun c_78 => ?_) (fun c_78 => ((o24_7 e_77 c_78)).elim)
                refine lv_aload_n C0.1 C0.2.1 dX5_atom_165 rfl (lv_at hl 1 rfl) ?_
                refine tg_X5_law C0 h kSC_77 q_380 dX5_atom_166 (fun i_79 hi_79 => ?_)
                refine lv_iload_n C0.1 C0.2.1 dX5_atom_169 rfl (lv_at hl 0 rfl) ?_
                refine y_cv h (y_rV (As := [.int v_76]) (rest := []) C0 hZ h (c_X4_add l G Z ad _ h.2 i_79 hi_79 v_76) k_X4_add q_827 q_828 q_826 hi_79 rfl rfl rfl hl.1 rfl rfl (Nat.le_of_ble_eq_true rfl) dX5_atom_170 ⟨Nat.le_of_ble_eq_true rfl, Nat.le_of_ble_eq_true rfl⟩ ⟨Nat.le_of_ble_eq_true rfl, Nat.le_of_ble_eq_true rfl⟩) (fun H locs ws_80 h u_81 p_82 => ?_)
                refine lv_aload_n C0.1 C0.2.1 dX5_atom_173 rfl (lv_at hl 1 rfl) ?_
                refine y_cv h (y_rV (As := []) (rest := []) C0 hZ h (c_X5_advance l G Z ad _ h.2) k_X5_advance q_616 q_0 q_614 kSC_77 rfl rfl rfl hl.1 rfl rfl (Nat.le_of_ble_eq_true rfl) dX5_atom_174 ⟨Nat.le_of_ble_eq_true rfl, Nat.le_of_ble_eq_true rfl⟩ ⟨Nat.le_of_ble_eq_true rfl, Nat.le_of_ble_eq_true rfl⟩) (fun H locs ws_83 h u_84 p_85 => ?_)
                rw [hQ]
                exact y_vret C0 h (Fr.tr (Fr.tr (Fr.tr (Fr.tr (Fr.tr (Fr.tr (Fr.mono u_17 (by decide)) (Fr.mono u_24 (by decide))) (Fr.mono u_31 (by decide))) (Fr.mono u_38 (by decide))) (Fr.mono u_45 (by decide))) (Fr.mono u_81 (by decide))) (Fr.mono u_84 (by decide))) trivial dX5_atom_177
            · -- 114
              refine y_c3 (n := 1003) C0 (by decide) dX5_atom_117 (fun v_86 e_87 => ?_)
              refine lv_goto (tgt := 154) C0.1 C0.2.1 dX5_atom_120 (by decide) ?_
              refine lv_istore_n (lv' := [(2, .int v_86), (0, .ref (ad 77)), (1, .int a1)]) C0.1 C0.2.1 dX5_atom_154 rfl hl (by decide) rfl (fun ls hl => ?_)
              refine lv_iload_n C0.1 C0.2.1 dX5_atom_155 rfl (lv_at hl 0 rfl) ?_
              refine y_if_ge (tgt := 165) C0 dX5_atom_156 (by decide) (fun c_88 => ?_) (fun c_88 => ((o24_8 e_87 c_88)).elim)
              refine lv_aload_n C0.1 C0.2.1 dX5_atom_165 rfl (lv_at hl 1 rfl) ?_
              refine tg_X5_law C0 h kSC_77 q_380 dX5_atom_166 (fun i_89 hi_89 => ?_)
              refine lv_iload_n C0.1 C0.2.1 dX5_atom_169 rfl (lv_at hl 0 rfl) ?_
              refine y_cv h (y_rV (As := [.int v_86]) (rest := []) C0 hZ h (c_X4_add l G Z ad _ h.2 i_89 hi_89 v_86) k_X4_add q_827 q_828 q_826 hi_89 rfl rfl rfl hl.1 rfl rfl (Nat.le_of_ble_eq_true rfl) dX5_atom_170 ⟨Nat.le_of_ble_eq_true rfl, Nat.le_of_ble_eq_true rfl⟩ ⟨Nat.le_of_ble_eq_true rfl, Nat.le_of_ble_eq_true rfl⟩) (fun H locs ws_90 h u_91 p_92 => ?_)
              refine lv_aload_n C0.1 C0.2.1 dX5_atom_173 rfl (lv_at hl 1 rfl) ?_
              refine y_cv h (y_rV (As := []) (rest := []) C0 hZ h (c_X5_advance l G Z ad _ h.2) k_X5_advance q_616 q_0 q_614 kSC_77 rfl rfl rfl hl.1 rfl rfl (Nat.le_of_ble_eq_true rfl) dX5_atom_174 ⟨Nat.le_of_ble_eq_true rfl, Nat.le_of_ble_eq_true rfl⟩ ⟨Nat.le_of_ble_eq_true rfl, Nat.le_of_ble_eq_true rfl⟩) (fun H locs ws_93 h u_94 p_95 => ?_)
              rw [hQ]
              exact y_vret C0 h (Fr.tr (Fr.tr (Fr.tr (Fr.tr (Fr.tr (Fr.mono u_17 (by decide)) (Fr.mono u_24 (by decide))) (Fr.mono u_31 (by decide))) (Fr.mono u_38 (by decide))) (Fr.mono u_91 (by decide))) (Fr.mono u_94 (by decide))) trivial dX5_atom_177
          · -- 99
            refine y_c3 (n := 1002) C0 (by decide) dX5_atom_102 (fun v_96 e_97 => ?_)
            refine lv_goto (tgt := 154) C0.1 C0.2.1 dX5_atom_105 (by decide) ?_
            refine lv_istore_n (lv' := [(2, .int v_96), (0, .ref (ad 77)), (1, .int a1)]) C0.1 C0.2.1 dX5_atom_154 rfl hl (by decide) rfl (fun ls hl => ?_)
            refine lv_iload_n C0.1 C0.2.1 dX5_atom_155 rfl (lv_at hl 0 rfl) ?_
            refine y_if_ge (tgt := 165) C0 dX5_atom_156 (by decide) (fun c_98 => ?_) (fun c_98 => ((o24_9 e_97 c_98)).elim)
            refine lv_aload_n C0.1 C0.2.1 dX5_atom_165 rfl (lv_at hl 1 rfl) ?_
            refine tg_X5_law C0 h kSC_77 q_380 dX5_atom_166 (fun i_99 hi_99 => ?_)
            refine lv_iload_n C0.1 C0.2.1 dX5_atom_169 rfl (lv_at hl 0 rfl) ?_
            refine y_cv h (y_rV (As := [.int v_96]) (rest := []) C0 hZ h (c_X4_add l G Z ad _ h.2 i_99 hi_99 v_96) k_X4_add q_827 q_828 q_826 hi_99 rfl rfl rfl hl.1 rfl rfl (Nat.le_of_ble_eq_true rfl) dX5_atom_170 ⟨Nat.le_of_ble_eq_true rfl, Nat.le_of_ble_eq_true rfl⟩ ⟨Nat.le_of_ble_eq_true rfl, Nat.le_of_ble_eq_true rfl⟩) (fun H locs ws_100 h u_101 p_102 => ?_)
            refine lv_aload_n C0.1 C0.2.1 dX5_atom_173 rfl (lv_at hl 1 rfl) ?_
            refine y_cv h (y_rV (As := []) (rest := []) C0 hZ h (c_X5_advance l G Z ad _ h.2) k_X5_advance q_616 q_0 q_614 kSC_77 rfl rfl rfl hl.1 rfl rfl (Nat.le_of_ble_eq_true rfl) dX5_atom_174 ⟨Nat.le_of_ble_eq_true rfl, Nat.le_of_ble_eq_true rfl⟩ ⟨Nat.le_of_ble_eq_true rfl, Nat.le_of_ble_eq_true rfl⟩) (fun H locs ws_103 h u_104 p_105 => ?_)
            rw [hQ]
            exact y_vret C0 h (Fr.tr (Fr.tr (Fr.tr (Fr.tr (Fr.mono u_17 (by decide)) (Fr.mono u_24 (by decide))) (Fr.mono u_31 (by decide))) (Fr.mono u_101 (by decide))) (Fr.mono u_104 (by decide))) trivial dX5_atom_177
        · -- 84
          refine y_c3 (n := 1001) C0 (by decide) dX5_atom_87 (fun v_106 e_107 => ?_)
          refine lv_goto (tgt := 154) C0.1 C0.2.1 dX5_atom_90 (by decide) ?_
          refine lv_istore_n (lv' := [(2, .int v_106), (0, .ref (ad 77)), (1, .int a1)]) C0.1 C0.2.1 dX5_atom_154 rfl hl (by decide) rfl (fun ls hl => ?_)
          refine lv_iload_n C0.1 C0.2.1 dX5_atom_155 rfl (lv_at hl 0 rfl) ?_
          refine y_if_ge (tgt := 165) C0 dX5_atom_156 (by decide) (fun c_108 => ?_) (fun c_108 => ((o24_10 e_107 c_108)).elim)
          refine lv_aload_n C0.1 C0.2.1 dX5_atom_165 rfl (lv_at hl 1 rfl) ?_
          refine tg_X5_law C0 h kSC_77 q_380 dX5_atom_166 (fun i_109 hi_109 => ?_)
          refine lv_iload_n C0.1 C0.2.1 dX5_atom_169 rfl (lv_at hl 0 rfl) ?_
          refine y_cv h (y_rV (As := [.int v_106]) (rest := []) C0 hZ h (c_X4_add l G Z ad _ h.2 i_109 hi_109 v_106) k_X4_add q_827 q_828 q_826 hi_109 rfl rfl rfl hl.1 rfl rfl (Nat.le_of_ble_eq_true rfl) dX5_atom_170 ⟨Nat.le_of_ble_eq_true rfl, Nat.le_of_ble_eq_true rfl⟩ ⟨Nat.le_of_ble_eq_true rfl, Nat.le_of_ble_eq_true rfl⟩) (fun H locs ws_110 h u_111 p_112 => ?_)
          refine lv_aload_n C0.1 C0.2.1 dX5_atom_173 rfl (lv_at hl 1 rfl) ?_
          refine y_cv h (y_rV (As := []) (rest := []) C0 hZ h (c_X5_advance l G Z ad _ h.2) k_X5_advance q_616 q_0 q_614 kSC_77 rfl rfl rfl hl.1 rfl rfl (Nat.le_of_ble_eq_true rfl) dX5_atom_174 ⟨Nat.le_of_ble_eq_true rfl, Nat.le_of_ble_eq_true rfl⟩ ⟨Nat.le_of_ble_eq_true rfl, Nat.le_of_ble_eq_true rfl⟩) (fun H locs ws_113 h u_114 p_115 => ?_)
          rw [hQ]
          exact y_vret C0 h (Fr.tr (Fr.tr (Fr.tr (Fr.mono u_17 (by decide)) (Fr.mono u_24 (by decide))) (Fr.mono u_111 (by decide))) (Fr.mono u_114 (by decide))) trivial dX5_atom_177
      · -- 69
        refine y_c3 (n := 1000) C0 (by decide) dX5_atom_72 (fun v_116 e_117 => ?_)
        refine lv_goto (tgt := 154) C0.1 C0.2.1 dX5_atom_75 (by decide) ?_
        refine lv_istore_n (lv' := [(2, .int v_116), (0, .ref (ad 77)), (1, .int a1)]) C0.1 C0.2.1 dX5_atom_154 rfl hl (by decide) rfl (fun ls hl => ?_)
        refine lv_iload_n C0.1 C0.2.1 dX5_atom_155 rfl (lv_at hl 0 rfl) ?_
        refine y_if_ge (tgt := 165) C0 dX5_atom_156 (by decide) (fun c_118 => ?_) (fun c_118 => ((o24_11 e_117 c_118)).elim)
        refine lv_aload_n C0.1 C0.2.1 dX5_atom_165 rfl (lv_at hl 1 rfl) ?_
        refine tg_X5_law C0 h kSC_77 q_380 dX5_atom_166 (fun i_119 hi_119 => ?_)
        refine lv_iload_n C0.1 C0.2.1 dX5_atom_169 rfl (lv_at hl 0 rfl) ?_
        refine y_cv h (y_rV (As := [.int v_116]) (rest := []) C0 hZ h (c_X4_add l G Z ad _ h.2 i_119 hi_119 v_116) k_X4_add q_827 q_828 q_826 hi_119 rfl rfl rfl hl.1 rfl rfl (Nat.le_of_ble_eq_true rfl) dX5_atom_170 ⟨Nat.le_of_ble_eq_true rfl, Nat.le_of_ble_eq_true rfl⟩ ⟨Nat.le_of_ble_eq_true rfl, Nat.le_of_ble_eq_true rfl⟩) (fun H locs ws_120 h u_121 p_122 => ?_)
        refine lv_aload_n C0.1 C0.2.1 dX5_atom_173 rfl (lv_at hl 1 rfl) ?_
        refine y_cv h (y_rV (As := []) (rest := []) C0 hZ h (c_X5_advance l G Z ad _ h.2) k_X5_advance q_616 q_0 q_614 kSC_77 rfl rfl rfl hl.1 rfl rfl (Nat.le_of_ble_eq_true rfl) dX5_atom_174 ⟨Nat.le_of_ble_eq_true rfl, Nat.le_of_ble_eq_true rfl⟩ ⟨Nat.le_of_ble_eq_true rfl, Nat.le_of_ble_eq_true rfl⟩) (fun H locs ws_123 h u_124 p_125 => ?_)
        rw [hQ]
        exact y_vret C0 h (Fr.tr (Fr.tr (Fr.mono u_17 (by decide)) (Fr.mono u_121 (by decide))) (Fr.mono u_124 (by decide))) trivial dX5_atom_177
    · -- 32
      refine lv_aload_n C0.1 C0.2.1 dX5_atom_35 rfl (lv_at hl 0 rfl) ?_
      refine lv_iload_n C0.1 C0.2.1 dX5_atom_36 rfl (lv_at hl 1 rfl) ?_
      refine y_ci h (y_rV (As := [.int a1]) (rest := []) C0 hZ h (c_X5_tooDeep_5 l G Z ad _ h.2 a1 (o24_32 l1 u1) (o24_33 l1 u1)) k_X5_tooDeep q_832 q_18 q_830 kSC_77 rfl rfl rfl hl.1 rfl rfl (Nat.le_of_ble_eq_true rfl) dX5_atom_37 ⟨Nat.le_of_ble_eq_true rfl, Nat.le_of_ble_eq_true rfl⟩ ⟨Nat.le_of_ble_eq_true rfl, Nat.le_of_ble_eq_true rfl⟩) (fun r_129 H locs ws_126 h u_127 p_128 => ?_)
      obtain ⟨e_130, e_131⟩ := p_128
      refine y_if_ne (tgt := 177) C0 dX5_atom_40 (by decide) (fun c_132 => ((o24_34 e_130 e_131 c_132)).elim) (fun c_132 => ?_)
      refine lv_aload_n C0.1 C0.2.1 dX5_atom_43 rfl (lv_at hl 0 rfl) ?_
      refine y_cv h (y_rV (As := []) (rest := []) C0 hZ h (c_X5_advance l G Z ad _ h.2) k_X5_advance q_616 q_0 q_614 kSC_77 rfl rfl rfl hl.1 rfl rfl (Nat.le_of_ble_eq_true rfl) dX5_atom_44 ⟨Nat.le_of_ble_eq_true rfl, Nat.le_of_ble_eq_true rfl⟩ ⟨Nat.le_of_ble_eq_true rfl, Nat.le_of_ble_eq_true rfl⟩) (fun H locs ws_133 h u_134 p_135 => ?_)
      refine lv_aload_n C0.1 C0.2.1 dX5_atom_47 rfl (lv_at hl 0 rfl) ?_
      refine lv_iload_n C0.1 C0.2.1 dX5_atom_48 rfl (lv_at hl 1 rfl) ?_
      refine y_c1 (n := 1) C0 (by decide) dX5_atom_49 (fun v_136 e_137 => ?_)
      refine y_add C0 (o24_35 l1 u1 e_137 (le_min a1) (le_max a1) (le_min v_136) (le_max v_136)) (o24_36 l1 u1 e_137 (le_min a1) (le_max a1) (le_min v_136) (le_max v_136)) dX5_atom_50 (fun v_138 e_139 => ?_)
      refine y_cv h (y_rV (As := [.int v_138]) (rest := []) C0 hZ h (c_X5_sum_6 l G Z ad _ h.2 v_138 (o24_37 l1 u1 e_137 e_139) (o24_38 l1 u1 e_137 e_139)) k_X5_sum q_816 q_15 q_814 kSC_77 rfl rfl rfl hl.1 rfl rfl (Nat.le_of_ble_eq_true rfl) dX5_atom_51 ⟨Nat.le_of_ble_eq_true rfl, Nat.le_of_ble_eq_true rfl⟩ ⟨Nat.le_of_ble_eq_true rfl, Nat.le_of_ble_eq_true rfl⟩) (fun H locs ws_140 h u_141 p_142 => ?_)
      refine lv_aload_n C0.1 C0.2.1 dX5_atom_54 rfl (lv_at hl 0 rfl) ?_
      refine y_c2 (n := 41) C0 (by decide) dX5_atom_55 (fun v_143 e_144 => ?_)
      refine y_cv h (y_rV (As := [.int v_143]) (rest := []) C0 hZ h (c_X5_sign l G Z ad _ h.2 v_143 (o24_39 e_144) (o24_40 e_144)) k_X5_sign q_812 q_14 q_810 kSC_77 rfl rfl rfl hl.1 rfl rfl (Nat.le_of_ble_eq_true rfl) dX5_atom_57 ⟨Nat.le_of_ble_eq_true rfl, Nat.le_of_ble_eq_true rfl⟩ ⟨Nat.le_of_ble_eq_true rfl, Nat.le_of_ble_eq_true rfl⟩) (fun H locs ws_145 h u_146 p_147 => ?_)
      refine lv_goto (tgt := 177) C0.1 C0.2.1 dX5_atom_60 (by decide) ?_
      rw [hQ]
      exact y_vret C0 h (Fr.tr (Fr.tr (Fr.tr (Fr.mono u_127 (by decide)) (Fr.mono u_134 (by decide))) u_141) (Fr.mono u_146 (by decide))) trivial dX5_atom_177
  · -- 5
    refine lv_aload_n C0.1 C0.2.1 dX5_atom_8 rfl (lv_at hl 0 rfl) ?_
    refine tg_X5_law C0 h kSC_77 q_380 dX5_atom_9 (fun i_148 hi_148 => ?_)
    refine lv_aload_n C0.1 C0.2.1 dX5_atom_12 rfl (lv_at hl 0 rfl) ?_
    refine tg_X5_number C0 h kSC_77 q_377 dX5_atom_13 (fun v_149 e_150 e_151 e_152 => ?_)
    refine y_cv h (y_rV (As := [.int v_149]) (rest := []) C0 hZ h (c_X4_add l G Z ad _ h.2 i_148 hi_148 v_149) k_X4_add q_827 q_828 q_826 hi_148 rfl rfl rfl hl.1 rfl rfl (Nat.le_of_ble_eq_true rfl) dX5_atom_16 ⟨Nat.le_of_ble_eq_true rfl, Nat.le_of_ble_eq_true rfl⟩ ⟨Nat.le_of_ble_eq_true rfl, Nat.le_of_ble_eq_true rfl⟩) (fun H locs ws_153 h u_154 p_155 => ?_)
    refine lv_aload_n C0.1 C0.2.1 dX5_atom_19 rfl (lv_at hl 0 rfl) ?_
    refine y_cv h (y_rV (As := []) (rest := []) C0 hZ h (c_X5_advance l G Z ad _ h.2) k_X5_advance q_616 q_0 q_614 kSC_77 rfl rfl rfl hl.1 rfl rfl (Nat.le_of_ble_eq_true rfl) dX5_atom_20 ⟨Nat.le_of_ble_eq_true rfl, Nat.le_of_ble_eq_true rfl⟩ ⟨Nat.le_of_ble_eq_true rfl, Nat.le_of_ble_eq_true rfl⟩) (fun H locs ws_156 h u_157 p_158 => ?_)
    refine lv_goto (tgt := 177) C0.1 C0.2.1 dX5_atom_23 (by decide) ?_
    rw [hQ]
    exact y_vret C0 h (Fr.tr (Fr.mono u_154 (by decide)) (Fr.mono u_157 (by decide))) trivial dX5_atom_177
set_option maxHeartbeats 4000000 in
set_option maxRecDepth 100000 in
theorem c_X5_term_5 (l : Launch) (G : GG) (Z : RZ) (ad : Nat → Nat) (ws0 : va_W) (hT : Ty G (SC tt) ad ws0) (a1 : Int32) (l1 : 5 ≤ a1.toInt) (u1 : a1.toInt ≤ 5) : Mq l yX5_term cX5_term 3 none 10 G Z [.ref (ad 77), .int a1] ws0 (PV G (SC tt) ad [2, 3, 16] ws0 (fun u => True)) := by
  refine Mq.start (by decide) (Nat.le_of_ble_eq_true rfl) ?_
  intro p e s m below meth c A ls C0 hZ h hl
  have hl : lv_has ls 3 [(0, .ref (ad 77)), (1, .int a1)] := hl
  have h : Wt G (SC tt) ad A s s.heap [] ws0 := ⟨h, hT⟩
  obtain ⟨args, hargs⟩ : ∃ z, z = ([.ref (ad 77), .int a1] : List Value).toArray := ⟨_, rfl⟩
  rw [← hargs] at C0 ⊢
  have C0 : Cx p s m args meth c RX5 cX5_term 3 none := C0
  obtain ⟨Q, hQ⟩ : ∃ z, z = MQ below ((PV G (SC tt) ad [2, 3, 16] ws0 (fun u => True)) A) args s 0 0 A := ⟨_, rfl⟩
  rw [← hQ]
  refine lv_aload_n C0.1 C0.2.1 dX5_term_0 rfl (lv_at hl 0 rfl) ?_
  refine lv_iload_n C0.1 C0.2.1 dX5_term_1 rfl (lv_at hl 1 rfl) ?_
  refine y_cv h (y_rV (As := [.int a1]) (rest := []) C0 hZ h (c_X5_atom_5 l G Z ad _ h.2 a1 (o24_32 l1 u1) (o24_33 l1 u1)) k_X5_atom q_824 q_17 q_822 kSC_77 rfl rfl rfl hl.1 rfl rfl (Nat.le_of_ble_eq_true rfl) dX5_term_2 ⟨Nat.le_of_ble_eq_true rfl, Nat.le_of_ble_eq_true rfl⟩ ⟨Nat.le_of_ble_eq_true rfl, Nat.le_of_ble_eq_true rfl⟩) (fun H locs ws_1 h u_2 p_3 => ?_)
  refine y_c1 (n := 0) C0 (by decide) dX5_term_5 (fun v_4 e_5 => ?_)
  refine lv_istore_n (lv' := [(2, .int v_4), (0, .ref (ad 77)), (1, .int a1)]) C0.1 C0.2.1 dX5_term_6 rfl hl (by decide) rfl (fun ls hl => ?_)
  have lp_9 : ∀ (n_11 : Nat) (x2_6 : Int32) (H : Heap) (locs : List Loc) (ls : Array Slot) (ws_7 : va_W), 900 - x2_6.toInt < (n_11 : Int) → 0 ≤ x2_6.toInt → x2_6.toInt ≤ 900 → Wt G (SC tt) ad A s H locs ws_7 → Fr (SC tt) [2, 3, 16] ws_1 ws_7 → lv_has ls 3 [(2, .int x2_6), (0, .ref (ad 77)), (1, .int a1)] → W p l e (rmd 10 0 0) s m args below meth c H locs 0 0 Q (F0 m 7 ls []) := by
    intro n_11
    induction n_11 with
    | zero => intro x2_6 H locs ls ws_7 hn_12 b_13 b_14 h hF_8 hl; exact ((o24_15 b_13 b_14 hn_12)).elim
    | succ n_11 ih_10 =>
      intro x2_6 H locs ls ws_7 hn_12 b_13 b_14 h hF_8 hl
      refine lv_iload_n C0.1 C0.2.1 dX5_term_7 rfl (lv_at hl 0 rfl) ?_
      refine y_c3 (n := 900) C0 (by decide) dX5_term_8 (fun v_15 e_16 => ?_)
      refine y_icmp_ge (tgt := 48) C0 dX5_term_11 (by decide) (fun c_17 => ?_) (fun c_17 => ?_)
      · -- 11
        rw [hQ]
        exact y_vret C0 h (Fr.tr u_2 hF_8) trivial dX5_term_48
      · -- 11
        refine lv_aload_n C0.1 C0.2.1 dX5_term_14 rfl (lv_at hl 1 rfl) ?_
        refine tg_X5_kind C0 h kSC_77 q_374 dX5_term_15 (fun v_18 e_19 e_20 e_21 => ?_)
        refine y_c2 (n := 42) C0 (by decide) dX5_term_18 (fun v_22 e_23 => ?_)
        refine y_icmp_ne (tgt := 48) C0 dX5_term_20 (by decide) (fun c_24 => ?_) (fun c_24 => ?_)
        · -- 20
          rw [hQ]
          exact y_vret C0 h (Fr.tr u_2 hF_8) trivial dX5_term_48
        · -- 20
          refine lv_aload_n C0.1 C0.2.1 dX5_term_23 rfl (lv_at hl 1 rfl) ?_
          refine y_cv h (y_rV (As := []) (rest := []) C0 hZ h (c_X5_advance l G Z ad _ h.2) k_X5_advance q_616 q_0 q_614 kSC_77 rfl rfl rfl hl.1 rfl rfl (Nat.le_of_ble_eq_true rfl) dX5_term_24 ⟨Nat.le_of_ble_eq_true rfl, Nat.le_of_ble_eq_true rfl⟩ ⟨Nat.le_of_ble_eq_true rfl, Nat.le_of_ble_eq_true rfl⟩) (fun H locs ws_25 h u_26 p_27 => ?_)
          refine lv_aload_n C0.1 C0.2.1 dX5_term_27 rfl (lv_at hl 1 rfl) ?_
          refine lv_iload_n C0.1 C0.2.1 dX5_term_28 rfl (lv_at hl 2 rfl) ?_
          refine y_cv h (y_rV (As := [.int a1]) (rest := []) C0 hZ h (c_X5_atom_5 l G Z ad _ h.2 a1 (o24_32 l1 u1) (o24_33 l1 u1)) k_X5_atom q_824 q_17 q_822 kSC_77 rfl rfl rfl hl.1 rfl rfl (Nat.le_of_ble_eq_true rfl) dX5_term_29 ⟨Nat.le_of_ble_eq_true rfl, Nat.le_of_ble_eq_true rfl⟩ ⟨Nat.le_of_ble_eq_true rfl, Nat.le_of_ble_eq_true rfl⟩) (fun H locs ws_28 h u_29 p_30 => ?_)
          refine lv_aload_n C0.1 C0.2.1 dX5_term_32 rfl (lv_at hl 1 rfl) ?_
          refine tg_X5_law C0 h kSC_77 q_380 dX5_term_33 (fun i_31 hi_31 => ?_)
          refine y_c3 (n := 2002) C0 (by decide) dX5_term_36 (fun v_32 e_33 => ?_)
          refine y_cv h (y_rV (As := [.int v_32]) (rest := []) C0 hZ h (c_X4_add l G Z ad _ h.2 i_31 hi_31 v_32) k_X4_add q_827 q_828 q_826 hi_31 rfl rfl rfl hl.1 rfl rfl (Nat.le_of_ble_eq_true rfl) dX5_term_39 ⟨Nat.le_of_ble_eq_true rfl, Nat.le_of_ble_eq_true rfl⟩ ⟨Nat.le_of_ble_eq_true rfl, Nat.le_of_ble_eq_true rfl⟩) (fun H locs ws_34 h u_35 p_36 => ?_)
          refine y_inc (kp := 0) (n := 1) (fun v_37 => [(2, .int v_37), (0, .ref (ad 77)), (1, .int a1)]) C0 hl rfl (by decide) (by decide) (fun _ => rfl) (o24_16 b_13 b_14 hn_12 e_16 c_17 (le_min x2_6) (le_max x2_6) (le_min v_15) (le_max v_15)) (o24_17 b_13 b_14 hn_12 e_16 c_17 (le_min x2_6) (le_max x2_6) (le_min v_15) (le_max v_15)) dX5_term_42 (fun v_37 ls e_38 hl => ?_)
          refine lv_goto (tgt := 7) C0.1 C0.2.1 dX5_term_45 (by decide) ?_
          exact ih_10 v_37 _ _ _ _ (o24_18 b_13 b_14 hn_12 e_16 c_17 e_38) (o24_19 b_13 b_14 hn_12 e_16 c_17 e_38) (o24_20 b_13 b_14 hn_12 e_16 c_17 e_38) h (Fr.tr (Fr.tr (Fr.tr hF_8 (Fr.mono u_26 (by decide))) u_29) (Fr.mono u_35 (by decide))) (lv_sub hl [0, 1, 2] rfl)
  exact lp_9 ((900 - v_4.toInt + 1).toNat) v_4 _ _ _ _ (o24_21 e_5) (o24_22 e_5) (o24_23 e_5) h Fr.rf (lv_sub hl [0, 1, 2] rfl)
set_option maxHeartbeats 4000000 in
set_option maxRecDepth 100000 in
theorem c_X5_sum_5 (l : Launch) (G : GG) (Z : RZ) (ad : Nat → Nat) (ws0 : va_W) (hT : Ty G (SC tt) ad ws0) (a1 : Int32) (l1 : 5 ≤ a1.toInt) (u1 : a1.toInt ≤ 5) : Mq l yX5_sum cX5_sum 4 none 11 G Z [.ref (ad 77), .int a1] ws0 (PV G (SC tt) ad [2, 3, 16] ws0 (fun u => True)) := by
  refine Mq.start (by decide) (Nat.le_of_ble_eq_true rfl) ?_
  intro p e s m below meth c A ls C0 hZ h hl
  have hl : lv_has ls 4 [(0, .ref (ad 77)), (1, .int a1)] := hl
  have h : Wt G (SC tt) ad A s s.heap [] ws0 := ⟨h, hT⟩
  obtain ⟨args, hargs⟩ : ∃ z, z = ([.ref (ad 77), .int a1] : List Value).toArray := ⟨_, rfl⟩
  rw [← hargs] at C0 ⊢
  have C0 : Cx p s m args meth c RX5 cX5_sum 4 none := C0
  obtain ⟨Q, hQ⟩ : ∃ z, z = MQ below ((PV G (SC tt) ad [2, 3, 16] ws0 (fun u => True)) A) args s 0 0 A := ⟨_, rfl⟩
  rw [← hQ]
  refine lv_aload_n C0.1 C0.2.1 dX5_sum_0 rfl (lv_at hl 0 rfl) ?_
  refine lv_iload_n C0.1 C0.2.1 dX5_sum_1 rfl (lv_at hl 1 rfl) ?_
  refine y_cv h (y_rV (As := [.int a1]) (rest := []) C0 hZ h (c_X5_term_5 l G Z ad _ h.2 a1 (o24_32 l1 u1) (o24_33 l1 u1)) k_X5_term q_820 q_16 q_818 kSC_77 rfl rfl rfl hl.1 rfl rfl (Nat.le_of_ble_eq_true rfl) dX5_sum_2 ⟨Nat.le_of_ble_eq_true rfl, Nat.le_of_ble_eq_true rfl⟩ ⟨Nat.le_of_ble_eq_true rfl, Nat.le_of_ble_eq_true rfl⟩) (fun H locs ws_1 h u_2 p_3 => ?_)
  refine y_c1 (n := 0) C0 (by decide) dX5_sum_5 (fun v_4 e_5 => ?_)
  refine lv_istore_n (lv' := [(2, .int v_4), (0, .ref (ad 77)), (1, .int a1)]) C0.1 C0.2.1 dX5_sum_6 rfl hl (by decide) rfl (fun ls hl => ?_)
  have lp_9 : ∀ (n_11 : Nat) (x2_6 : Int32) (H : Heap) (locs : List Loc) (ls : Array Slot) (ws_7 : va_W), 900 - x2_6.toInt < (n_11 : Int) → 0 ≤ x2_6.toInt → x2_6.toInt ≤ 900 → Wt G (SC tt) ad A s H locs ws_7 → Fr (SC tt) [2, 3, 16] ws_1 ws_7 → lv_has ls 4 [(2, .int x2_6), (0, .ref (ad 77)), (1, .int a1)] → W p l e (rmd 11 0 0) s m args below meth c H locs 0 0 Q (F0 m 7 ls []) := by
    intro n_11
    induction n_11 with
    | zero => intro x2_6 H locs ls ws_7 hn_12 b_13 b_14 h hF_8 hl; exact ((o24_15 b_13 b_14 hn_12)).elim
    | succ n_11 ih_10 =>
      intro x2_6 H locs ls ws_7 hn_12 b_13 b_14 h hF_8 hl
      refine lv_iload_n C0.1 C0.2.1 dX5_sum_7 rfl (lv_at hl 0 rfl) ?_
      refine y_c3 (n := 900) C0 (by decide) dX5_sum_8 (fun v_15 e_16 => ?_)
      refine y_icmp_ge (tgt := 74) C0 dX5_sum_11 (by decide) (fun c_17 => ?_) (fun c_17 => ?_)
      · -- 11
        rw [hQ]
        exact y_vret C0 h (Fr.tr u_2 hF_8) trivial dX5_sum_74
      · -- 11
        refine lv_aload_n C0.1 C0.2.1 dX5_sum_14 rfl (lv_at hl 1 rfl) ?_
        refine tg_X5_kind C0 h kSC_77 q_374 dX5_sum_15 (fun v_18 e_19 e_20 e_21 => ?_)
        refine y_c2 (n := 43) C0 (by decide) dX5_sum_18 (fun v_22 e_23 => ?_)
        refine y_icmp_eq (tgt := 32) C0 dX5_sum_20 (by decide) (fun c_24 => ?_) (fun c_24 => ?_)
        · -- 20
          refine lv_aload_n C0.1 C0.2.1 dX5_sum_32 rfl (lv_at hl 1 rfl) ?_
          refine tg_X5_kind C0 h kSC_77 q_374 dX5_sum_33 (fun v_25 e_26 e_27 e_28 => ?_)
          have q_29 : v_25.toInt = v_18.toInt := congrArg Int32.toInt (e_26.symm.trans (Eq.trans rfl e_19))
          refine y_c2 (n := 43) C0 (by decide) dX5_sum_36 (fun v_30 e_31 => ?_)
          refine y_icmp_ne (tgt := 47) C0 dX5_sum_38 (by decide) (fun c_32 => ((o24_24 e_23 c_24 q_29 e_31 c_32)).elim) (fun c_32 => ?_)
          refine y_c3 (n := 2000) C0 (by decide) dX5_sum_41 (fun v_33 e_34 => ?_)
          refine lv_goto (tgt := 50) C0.1 C0.2.1 dX5_sum_44 (by decide) ?_
          refine lv_istore_n (lv' := [(3, .int v_33), (2, .int x2_6), (0, .ref (ad 77)), (1, .int a1)]) C0.1 C0.2.1 dX5_sum_50 rfl hl (by decide) rfl (fun ls hl => ?_)
          refine lv_aload_n C0.1 C0.2.1 dX5_sum_51 rfl (lv_at hl 2 rfl) ?_
          refine y_cv h (y_rV (As := []) (rest := []) C0 hZ h (c_X5_advance l G Z ad _ h.2) k_X5_advance q_616 q_0 q_614 kSC_77 rfl rfl rfl hl.1 rfl rfl (Nat.le_of_ble_eq_true rfl) dX5_sum_52 ⟨Nat.le_of_ble_eq_true rfl, Nat.le_of_ble_eq_true rfl⟩ ⟨Nat.le_of_ble_eq_true rfl, Nat.le_of_ble_eq_true rfl⟩) (fun H locs ws_35 h u_36 p_37 => ?_)
          refine lv_aload_n C0.1 C0.2.1 dX5_sum_55 rfl (lv_at hl 2 rfl) ?_
          refine lv_iload_n C0.1 C0.2.1 dX5_sum_56 rfl (lv_at hl 3 rfl) ?_
          refine y_cv h (y_rV (As := [.int a1]) (rest := []) C0 hZ h (c_X5_term_5 l G Z ad _ h.2 a1 (o24_32 l1 u1) (o24_33 l1 u1)) k_X5_term q_820 q_16 q_818 kSC_77 rfl rfl rfl hl.1 rfl rfl (Nat.le_of_ble_eq_true rfl) dX5_sum_57 ⟨Nat.le_of_ble_eq_true rfl, Nat.le_of_ble_eq_true rfl⟩ ⟨Nat.le_of_ble_eq_true rfl, Nat.le_of_ble_eq_true rfl⟩) (fun H locs ws_38 h u_39 p_40 => ?_)
          refine lv_aload_n C0.1 C0.2.1 dX5_sum_60 rfl (lv_at hl 2 rfl) ?_
          refine tg_X5_law C0 h kSC_77 q_380 dX5_sum_61 (fun i_41 hi_41 => ?_)
          refine lv_iload_n C0.1 C0.2.1 dX5_sum_64 rfl (lv_at hl 0 rfl) ?_
          refine y_cv h (y_rV (As := [.int v_33]) (rest := []) C0 hZ h (c_X4_add l G Z ad _ h.2 i_41 hi_41 v_33) k_X4_add q_827 q_828 q_826 hi_41 rfl rfl rfl hl.1 rfl rfl (Nat.le_of_ble_eq_true rfl) dX5_sum_65 ⟨Nat.le_of_ble_eq_true rfl, Nat.le_of_ble_eq_true rfl⟩ ⟨Nat.le_of_ble_eq_true rfl, Nat.le_of_ble_eq_true rfl⟩) (fun H locs ws_42 h u_43 p_44 => ?_)
          refine y_inc (kp := 1) (n := 1) (fun v_45 => [(2, .int v_45), (3, .int v_33), (0, .ref (ad 77)), (1, .int a1)]) C0 hl rfl (by decide) (by decide) (fun _ => rfl) (o24_16 b_13 b_14 hn_12 e_16 c_17 (le_min x2_6) (le_max x2_6) (le_min v_15) (le_max v_15)) (o24_17 b_13 b_14 hn_12 e_16 c_17 (le_min x2_6) (le_max x2_6) (le_min v_15) (le_max v_15)) dX5_sum_68 (fun v_45 ls e_46 hl => ?_)
          refine lv_goto (tgt := 7) C0.1 C0.2.1 dX5_sum_71 (by decide) ?_
          exact ih_10 v_45 _ _ _ _ (o24_18 b_13 b_14 hn_12 e_16 c_17 e_46) (o24_19 b_13 b_14 hn_12 e_16 c_17 e_46) (o24_20 b_13 b_14 hn_12 e_16 c_17 e_46) h (Fr.tr (Fr.tr (Fr.tr hF_8 (Fr.mono u_36 (by decide))) u_39) (Fr.mono u_43 (by decide))) (lv_sub hl [0, 2, 3] rfl)
        · -- 20
          refine lv_aload_n C0.1 C0.2.1 dX5_sum_23 rfl (lv_at hl 1 rfl) ?_
          refine tg_X5_kind C0 h kSC_77 q_374 dX5_sum_24 (fun v_47 e_48 e_49 e_50 => ?_)
          have q_51 : v_47.toInt = v_18.toInt := congrArg Int32.toInt (e_48.symm.trans (Eq.trans rfl e_19))
          refine y_c2 (n := 45) C0 (by decide) dX5_sum_27 (fun v_52 e_53 => ?_)
          refine y_icmp_ne (tgt := 74) C0 dX5_sum_29 (by decide) (fun c_54 => ?_) (fun c_54 => ?_)
          · -- 29
            rw [hQ]
            exact y_vret C0 h (Fr.tr u_2 hF_8) trivial dX5_sum_74
          · -- 29
            refine lv_aload_n C0.1 C0.2.1 dX5_sum_32 rfl (lv_at hl 1 rfl) ?_
            refine tg_X5_kind C0 h kSC_77 q_374 dX5_sum_33 (fun v_55 e_56 e_57 e_58 => ?_)
            have q_59 : v_55.toInt = v_18.toInt := congrArg Int32.toInt (e_56.symm.trans (Eq.trans rfl e_19))
            refine y_c2 (n := 43) C0 (by decide) dX5_sum_36 (fun v_60 e_61 => ?_)
            refine y_icmp_ne (tgt := 47) C0 dX5_sum_38 (by decide) (fun c_62 => ?_) (fun c_62 => ((o24_25 e_23 c_24 q_51 e_53 c_54 q_59 e_61 c_62)).elim)
            refine y_c3 (n := 2001) C0 (by decide) dX5_sum_47 (fun v_63 e_64 => ?_)
            refine lv_istore_n (lv' := [(3, .int v_63), (2, .int x2_6), (0, .ref (ad 77)), (1, .int a1)]) C0.1 C0.2.1 dX5_sum_50 rfl hl (by decide) rfl (fun ls hl => ?_)
            refine lv_aload_n C0.1 C0.2.1 dX5_sum_51 rfl (lv_at hl 2 rfl) ?_
            refine y_cv h (y_rV (As := []) (rest := []) C0 hZ h (c_X5_advance l G Z ad _ h.2) k_X5_advance q_616 q_0 q_614 kSC_77 rfl rfl rfl hl.1 rfl rfl (Nat.le_of_ble_eq_true rfl) dX5_sum_52 ⟨Nat.le_of_ble_eq_true rfl, Nat.le_of_ble_eq_true rfl⟩ ⟨Nat.le_of_ble_eq_true rfl, Nat.le_of_ble_eq_true rfl⟩) (fun H locs ws_65 h u_66 p_67 => ?_)
            refine lv_aload_n C0.1 C0.2.1 dX5_sum_55 rfl (lv_at hl 2 rfl) ?_
            refine lv_iload_n C0.1 C0.2.1 dX5_sum_56 rfl (lv_at hl 3 rfl) ?_
            refine y_cv h (y_rV (As := [.int a1]) (rest := []) C0 hZ h (c_X5_term_5 l G Z ad _ h.2 a1 (o24_32 l1 u1) (o24_33 l1 u1)) k_X5_term q_820 q_16 q_818 kSC_77 rfl rfl rfl hl.1 rfl rfl (Nat.le_of_ble_eq_true rfl) dX5_sum_57 ⟨Nat.le_of_ble_eq_true rfl, Nat.le_of_ble_eq_true rfl⟩ ⟨Nat.le_of_ble_eq_true rfl, Nat.le_of_ble_eq_true rfl⟩) (fun H locs ws_68 h u_69 p_70 => ?_)
            refine lv_aload_n C0.1 C0.2.1 dX5_sum_60 rfl (lv_at hl 2 rfl) ?_
            refine tg_X5_law C0 h kSC_77 q_380 dX5_sum_61 (fun i_71 hi_71 => ?_)
            refine lv_iload_n C0.1 C0.2.1 dX5_sum_64 rfl (lv_at hl 0 rfl) ?_
            refine y_cv h (y_rV (As := [.int v_63]) (rest := []) C0 hZ h (c_X4_add l G Z ad _ h.2 i_71 hi_71 v_63) k_X4_add q_827 q_828 q_826 hi_71 rfl rfl rfl hl.1 rfl rfl (Nat.le_of_ble_eq_true rfl) dX5_sum_65 ⟨Nat.le_of_ble_eq_true rfl, Nat.le_of_ble_eq_true rfl⟩ ⟨Nat.le_of_ble_eq_true rfl, Nat.le_of_ble_eq_true rfl⟩) (fun H locs ws_72 h u_73 p_74 => ?_)
            refine y_inc (kp := 1) (n := 1) (fun v_75 => [(2, .int v_75), (3, .int v_63), (0, .ref (ad 77)), (1, .int a1)]) C0 hl rfl (by decide) (by decide) (fun _ => rfl) (o24_16 b_13 b_14 hn_12 e_16 c_17 (le_min x2_6) (le_max x2_6) (le_min v_15) (le_max v_15)) (o24_17 b_13 b_14 hn_12 e_16 c_17 (le_min x2_6) (le_max x2_6) (le_min v_15) (le_max v_15)) dX5_sum_68 (fun v_75 ls e_76 hl => ?_)
            refine lv_goto (tgt := 7) C0.1 C0.2.1 dX5_sum_71 (by decide) ?_
            exact ih_10 v_75 _ _ _ _ (o24_18 b_13 b_14 hn_12 e_16 c_17 e_76) (o24_19 b_13 b_14 hn_12 e_16 c_17 e_76) (o24_20 b_13 b_14 hn_12 e_16 c_17 e_76) h (Fr.tr (Fr.tr (Fr.tr hF_8 (Fr.mono u_66 (by decide))) u_69) (Fr.mono u_73 (by decide))) (lv_sub hl [0, 2, 3] rfl)
  exact lp_9 ((900 - v_4.toInt + 1).toNat) v_4 _ _ _ _ (o24_21 e_5) (o24_22 e_5) (o24_23 e_5) h Fr.rf (lv_sub hl [0, 1, 2] rfl)
set_option maxHeartbeats 4000000 in
set_option maxRecDepth 100000 in
theorem c_X5_unit_5 (l : Launch) (G : GG) (Z : RZ) (ad : Nat → Nat) (ws0 : va_W) (hT : Ty G (SC tt) ad ws0) (a1 : Int32) (l1 : 5 ≤ a1.toInt) (u1 : a1.toInt ≤ 5) : Mq l yX5_unit cX5_unit 3 none 12 G Z [.ref (ad 77), .int a1] ws0 (PV G (SC tt) ad [2, 3, 16] ws0 (fun u => True)) := by
  refine Mq.start (by decide) (Nat.le_of_ble_eq_true rfl) ?_
  intro p e s m below meth c A ls C0 hZ h hl
  have hl : lv_has ls 3 [(0, .ref (ad 77)), (1, .int a1)] := hl
  have h : Wt G (SC tt) ad A s s.heap [] ws0 := ⟨h, hT⟩
  obtain ⟨args, hargs⟩ : ∃ z, z = ([.ref (ad 77), .int a1] : List Value).toArray := ⟨_, rfl⟩
  rw [← hargs] at C0 ⊢
  have C0 : Cx p s m args meth c RX5 cX5_unit 3 none := C0
  obtain ⟨Q, hQ⟩ : ∃ z, z = MQ below ((PV G (SC tt) ad [2, 3, 16] ws0 (fun u => True)) A) args s 0 0 A := ⟨_, rfl⟩
  rw [← hQ]
  refine lv_aload_n C0.1 C0.2.1 dX5_unit_0 rfl (lv_at hl 0 rfl) ?_
  refine va_ldcS C0.1 C0.2.1 C0.2.2.2.1 (sr_19 hZ) dX5_unit_1 ?_
  refine y_ci h (y_rV (As := [.ref (Z.2.1 19)]) (rest := []) C0 hZ h (c_X5_isWord l G Z ad _ h.2 19 (by decide)) k_X5_isWord q_724 q_5 q_722 kSC_77 rfl rfl rfl hl.1 rfl rfl (Nat.le_of_ble_eq_true rfl) dX5_unit_3 ⟨Nat.le_of_ble_eq_true rfl, Nat.le_of_ble_eq_true rfl⟩ ⟨Nat.le_of_ble_eq_true rfl, Nat.le_of_ble_eq_true rfl⟩) (fun r_4 H locs ws_1 h u_2 p_3 => ?_)
  obtain ⟨e_5, e_6⟩ := p_3
  refine y_if_eq (tgt := 49) C0 dX5_unit_6 (by decide) (fun c_7 => ?_) (fun c_7 => ?_)
  · -- 6
    refine lv_aload_n C0.1 C0.2.1 dX5_unit_49 rfl (lv_at hl 0 rfl) ?_
    refine tg_X5_kind C0 h kSC_77 q_374 dX5_unit_50 (fun v_8 e_9 e_10 e_11 => ?_)
    refine y_c2 (n := 91) C0 (by decide) dX5_unit_53 (fun v_12 e_13 => ?_)
    refine y_icmp_ne (tgt := 86) C0 dX5_unit_55 (by decide) (fun c_14 => ?_) (fun c_14 => ?_)
    · -- 55
      refine lv_aload_n C0.1 C0.2.1 dX5_unit_86 rfl (lv_at hl 0 rfl) ?_
      refine lv_iload_n C0.1 C0.2.1 dX5_unit_87 rfl (lv_at hl 1 rfl) ?_
      refine y_cv h (y_rV (As := [.int a1]) (rest := []) C0 hZ h (c_X5_sum_5 l G Z ad _ h.2 a1 (o24_32 l1 u1) (o24_33 l1 u1)) k_X5_sum q_816 q_15 q_814 kSC_77 rfl rfl rfl hl.1 rfl rfl (Nat.le_of_ble_eq_true rfl) dX5_unit_88 ⟨Nat.le_of_ble_eq_true rfl, Nat.le_of_ble_eq_true rfl⟩ ⟨Nat.le_of_ble_eq_true rfl, Nat.le_of_ble_eq_true rfl⟩) (fun H locs ws_15 h u_16 p_17 => ?_)
      refine lv_aload_n C0.1 C0.2.1 dX5_unit_91 rfl (lv_at hl 0 rfl) ?_
      refine tg_X5_kind C0 h kSC_77 q_374 dX5_unit_92 (fun v_18 e_19 e_20 e_21 => ?_)
      refine y_c2 (n := 61) C0 (by decide) dX5_unit_95 (fun v_22 e_23 => ?_)
      refine y_icmp_ne (tgt := 106) C0 dX5_unit_97 (by decide) (fun c_24 => ?_) (fun c_24 => ?_)
      · -- 97
        refine lv_aload_n C0.1 C0.2.1 dX5_unit_106 rfl (lv_at hl 0 rfl) ?_
        refine tg_X5_kind C0 h kSC_77 q_374 dX5_unit_107 (fun v_25 e_26 e_27 e_28 => ?_)
        have q_29 : v_25.toInt = v_18.toInt := congrArg Int32.toInt (e_26.symm.trans (Eq.trans rfl e_19))
        refine y_c2 (n := 60) C0 (by decide) dX5_unit_110 (fun v_30 e_31 => ?_)
        refine y_icmp_ne (tgt := 121) C0 dX5_unit_112 (by decide) (fun c_32 => ?_) (fun c_32 => ?_)
        · -- 112
          refine lv_aload_n C0.1 C0.2.1 dX5_unit_121 rfl (lv_at hl 0 rfl) ?_
          refine tg_X5_kind C0 h kSC_77 q_374 dX5_unit_122 (fun v_33 e_34 e_35 e_36 => ?_)
          have q_37 : v_33.toInt = v_18.toInt := congrArg Int32.toInt (e_34.symm.trans (Eq.trans rfl e_19))
          refine y_c2 (n := 62) C0 (by decide) dX5_unit_125 (fun v_38 e_39 => ?_)
          refine y_icmp_ne (tgt := 136) C0 dX5_unit_127 (by decide) (fun c_40 => ?_) (fun c_40 => ?_)
          · -- 127
            refine y_c1 (n := (-1)) C0 (by decide) dX5_unit_136 (fun v_41 e_42 => ?_)
            refine lv_istore_n (lv' := [(2, .int v_41), (0, .ref (ad 77)), (1, .int a1)]) C0.1 C0.2.1 dX5_unit_137 rfl hl (by decide) rfl (fun ls hl => ?_)
            refine lv_iload_n C0.1 C0.2.1 dX5_unit_138 rfl (lv_at hl 0 rfl) ?_
            refine y_if_ge (tgt := 148) C0 dX5_unit_139 (by decide) (fun c_43 => ((o24_5 e_42 c_43)).elim) (fun c_43 => ?_)
            refine lv_aload_n C0.1 C0.2.1 dX5_unit_142 rfl (lv_at hl 1 rfl) ?_
            refine y_c1 (n := 2) C0 (by decide) dX5_unit_143 (fun v_44 e_45 => ?_)
            refine y_cv h (y_rV (As := [.int v_44]) (rest := []) C0 hZ h (c_X5_fail l G Z ad _ h.2 v_44) k_X5_fail q_628 q_3 q_626 kSC_77 rfl rfl rfl hl.1 rfl rfl (Nat.le_of_ble_eq_true rfl) dX5_unit_144 ⟨Nat.le_of_ble_eq_true rfl, Nat.le_of_ble_eq_true rfl⟩ ⟨Nat.le_of_ble_eq_true rfl, Nat.le_of_ble_eq_true rfl⟩) (fun H locs ws_46 h u_47 p_48 => ?_)
            rw [hQ]
            exact y_vret C0 h (Fr.tr (Fr.tr (Fr.mono u_2 (by decide)) u_16) (Fr.mono u_47 (by decide))) trivial dX5_unit_147
          · -- 127
            refine y_c3 (n := 2005) C0 (by decide) dX5_unit_130 (fun v_49 e_50 => ?_)
            refine lv_goto (tgt := 137) C0.1 C0.2.1 dX5_unit_133 (by decide) ?_
            refine lv_istore_n (lv' := [(2, .int v_49), (0, .ref (ad 77)), (1, .int a1)]) C0.1 C0.2.1 dX5_unit_137 rfl hl (by decide) rfl (fun ls hl => ?_)
            refine lv_iload_n C0.1 C0.2.1 dX5_unit_138 rfl (lv_at hl 0 rfl) ?_
            refine y_if_ge (tgt := 148) C0 dX5_unit_139 (by decide) (fun c_51 => ?_) (fun c_51 => ((o24_26 e_50 c_51)).elim)
            refine lv_aload_n C0.1 C0.2.1 dX5_unit_148 rfl (lv_at hl 1 rfl) ?_
            refine y_cv h (y_rV (As := []) (rest := []) C0 hZ h (c_X5_advance l G Z ad _ h.2) k_X5_advance q_616 q_0 q_614 kSC_77 rfl rfl rfl hl.1 rfl rfl (Nat.le_of_ble_eq_true rfl) dX5_unit_149 ⟨Nat.le_of_ble_eq_true rfl, Nat.le_of_ble_eq_true rfl⟩ ⟨Nat.le_of_ble_eq_true rfl, Nat.le_of_ble_eq_true rfl⟩) (fun H locs ws_52 h u_53 p_54 => ?_)
            refine lv_aload_n C0.1 C0.2.1 dX5_unit_152 rfl (lv_at hl 1 rfl) ?_
            refine lv_iload_n C0.1 C0.2.1 dX5_unit_153 rfl (lv_at hl 2 rfl) ?_
            refine y_cv h (y_rV (As := [.int a1]) (rest := []) C0 hZ h (c_X5_sum_5 l G Z ad _ h.2 a1 (o24_32 l1 u1) (o24_33 l1 u1)) k_X5_sum q_816 q_15 q_814 kSC_77 rfl rfl rfl hl.1 rfl rfl (Nat.le_of_ble_eq_true rfl) dX5_unit_154 ⟨Nat.le_of_ble_eq_true rfl, Nat.le_of_ble_eq_true rfl⟩ ⟨Nat.le_of_ble_eq_true rfl, Nat.le_of_ble_eq_true rfl⟩) (fun H locs ws_55 h u_56 p_57 => ?_)
            refine lv_aload_n C0.1 C0.2.1 dX5_unit_157 rfl (lv_at hl 1 rfl) ?_
            refine tg_X5_law C0 h kSC_77 q_380 dX5_unit_158 (fun i_58 hi_58 => ?_)
            refine lv_iload_n C0.1 C0.2.1 dX5_unit_161 rfl (lv_at hl 0 rfl) ?_
            refine y_cv h (y_rV (As := [.int v_49]) (rest := []) C0 hZ h (c_X4_add l G Z ad _ h.2 i_58 hi_58 v_49) k_X4_add q_827 q_828 q_826 hi_58 rfl rfl rfl hl.1 rfl rfl (Nat.le_of_ble_eq_true rfl) dX5_unit_162 ⟨Nat.le_of_ble_eq_true rfl, Nat.le_of_ble_eq_true rfl⟩ ⟨Nat.le_of_ble_eq_true rfl, Nat.le_of_ble_eq_true rfl⟩) (fun H locs ws_59 h u_60 p_61 => ?_)
            rw [hQ]
            exact y_vret C0 h (Fr.tr (Fr.tr (Fr.tr (Fr.tr (Fr.mono u_2 (by decide)) u_16) (Fr.mono u_53 (by decide))) u_56) (Fr.mono u_60 (by decide))) trivial dX5_unit_165
        · -- 112
          refine y_c3 (n := 2004) C0 (by decide) dX5_unit_115 (fun v_62 e_63 => ?_)
          refine lv_goto (tgt := 137) C0.1 C0.2.1 dX5_unit_118 (by decide) ?_
          refine lv_istore_n (lv' := [(2, .int v_62), (0, .ref (ad 77)), (1, .int a1)]) C0.1 C0.2.1 dX5_unit_137 rfl hl (by decide) rfl (fun ls hl => ?_)
          refine lv_iload_n C0.1 C0.2.1 dX5_unit_138 rfl (lv_at hl 0 rfl) ?_
          refine y_if_ge (tgt := 148) C0 dX5_unit_139 (by decide) (fun c_64 => ?_) (fun c_64 => ((o24_27 e_63 c_64)).elim)
          refine lv_aload_n C0.1 C0.2.1 dX5_unit_148 rfl (lv_at hl 1 rfl) ?_
          refine y_cv h (y_rV (As := []) (rest := []) C0 hZ h (c_X5_advance l G Z ad _ h.2) k_X5_advance q_616 q_0 q_614 kSC_77 rfl rfl rfl hl.1 rfl rfl (Nat.le_of_ble_eq_true rfl) dX5_unit_149 ⟨Nat.le_of_ble_eq_true rfl, Nat.le_of_ble_eq_true rfl⟩ ⟨Nat.le_of_ble_eq_true rfl, Nat.le_of_ble_eq_true rfl⟩) (fun H locs ws_65 h u_66 p_67 => ?_)
          refine lv_aload_n C0.1 C0.2.1 dX5_unit_152 rfl (lv_at hl 1 rfl) ?_
          refine lv_iload_n C0.1 C0.2.1 dX5_unit_153 rfl (lv_at hl 2 rfl) ?_
          refine y_cv h (y_rV (As := [.int a1]) (rest := []) C0 hZ h (c_X5_sum_5 l G Z ad _ h.2 a1 (o24_32 l1 u1) (o24_33 l1 u1)) k_X5_sum q_816 q_15 q_814 kSC_77 rfl rfl rfl hl.1 rfl rfl (Nat.le_of_ble_eq_true rfl) dX5_unit_154 ⟨Nat.le_of_ble_eq_true rfl, Nat.le_of_ble_eq_true rfl⟩ ⟨Nat.le_of_ble_eq_true rfl, Nat.le_of_ble_eq_true rfl⟩) (fun H locs ws_68 h u_69 p_70 => ?_)
          refine lv_aload_n C0.1 C0.2.1 dX5_unit_157 rfl (lv_at hl 1 rfl) ?_
          refine tg_X5_law C0 h kSC_77 q_380 dX5_unit_158 (fun i_71 hi_71 => ?_)
          refine lv_iload_n C0.1 C0.2.1 dX5_unit_161 rfl (lv_at hl 0 rfl) ?_
          refine y_cv h (y_rV (As := [.int v_62]) (rest := []) C0 hZ h (c_X4_add l G Z ad _ h.2 i_71 hi_71 v_62) k_X4_add q_827 q_828 q_826 hi_71 rfl rfl rfl hl.1 rfl rfl (Nat.le_of_ble_eq_true rfl) dX5_unit_162 ⟨Nat.le_of_ble_eq_true rfl, Nat.le_of_ble_eq_true rfl⟩ ⟨Nat.le_of_ble_eq_true rfl, Nat.le_of_ble_eq_true rfl⟩) (fun H locs ws_72 h u_73 p_74 => ?_)
          rw [hQ]
          exact y_vret C0 h (Fr.tr (Fr.tr (Fr.tr (Fr.tr (Fr.mono u_2 (by decide)) u_16) (Fr.mono u_66 (by decide))) u_69) (Fr.mono u_73 (by decide))) trivial dX5_unit_165
      · -- 97
        refine y_c3 (n := 2003) C0 (by decide) dX5_unit_100 (fun v_75 e_76 => ?_)
        refine lv_goto (tgt := 137) C0.1 C0.2.1 dX5_unit_103 (by decide) ?_
        refine lv_istore_n (lv' := [(2, .int v_75), (0, .ref (ad 77)), (1, .int a1)]) C0.1 C0.2.1 dX5_unit_137 rfl hl (by decide) rfl (fun ls hl => ?_)
        refine lv_iload_n C0.1 C0.2.1 dX5_unit_138 rfl (lv_at hl 0 rfl) ?_
        refine y_if_ge (tgt := 148) C0 dX5_unit_139 (by decide) (fun c_77 => ?_) (fun c_77 => ((o24_28 e_76 c_77)).elim)
        refine lv_aload_n C0.1 C0.2.1 dX5_unit_148 rfl (lv_at hl 1 rfl) ?_
        refine y_cv h (y_rV (As := []) (rest := []) C0 hZ h (c_X5_advance l G Z ad _ h.2) k_X5_advance q_616 q_0 q_614 kSC_77 rfl rfl rfl hl.1 rfl rfl (Nat.le_of_ble_eq_true rfl) dX5_unit_149 ⟨Nat.le_of_ble_eq_true rfl, Nat.le_of_ble_eq_true rfl⟩ ⟨Nat.le_of_ble_eq_true rfl, Nat.le_of_ble_eq_true rfl⟩) (fun H locs ws_78 h u_79 p_80 => ?_)
        refine lv_aload_n C0.1 C0.2.1 dX5_unit_152 rfl (lv_at hl 1 rfl) ?_
        refine lv_iload_n C0.1 C0.2.1 dX5_unit_153 rfl (lv_at hl 2 rfl) ?_
        refine y_cv h (y_rV (As := [.int a1]) (rest := []) C0 hZ h (c_X5_sum_5 l G Z ad _ h.2 a1 (o24_32 l1 u1) (o24_33 l1 u1)) k_X5_sum q_816 q_15 q_814 kSC_77 rfl rfl rfl hl.1 rfl rfl (Nat.le_of_ble_eq_true rfl) dX5_unit_154 ⟨Nat.le_of_ble_eq_true rfl, Nat.le_of_ble_eq_true rfl⟩ ⟨Nat.le_of_ble_eq_true rfl, Nat.le_of_ble_eq_true rfl⟩) (fun H locs ws_81 h u_82 p_83 => ?_)
        refine lv_aload_n C0.1 C0.2.1 dX5_unit_157 rfl (lv_at hl 1 rfl) ?_
        refine tg_X5_law C0 h kSC_77 q_380 dX5_unit_158 (fun i_84 hi_84 => ?_)
        refine lv_iload_n C0.1 C0.2.1 dX5_unit_161 rfl (lv_at hl 0 rfl) ?_
        refine y_cv h (y_rV (As := [.int v_75]) (rest := []) C0 hZ h (c_X4_add l G Z ad _ h.2 i_84 hi_84 v_75) k_X4_add q_827 q_828 q_826 hi_84 rfl rfl rfl hl.1 rfl rfl (Nat.le_of_ble_eq_true rfl) dX5_unit_162 ⟨Nat.le_of_ble_eq_true rfl, Nat.le_of_ble_eq_true rfl⟩ ⟨Nat.le_of_ble_eq_true rfl, Nat.le_of_ble_eq_true rfl⟩) (fun H locs ws_85 h u_86 p_87 => ?_)
        rw [hQ]
        exact y_vret C0 h (Fr.tr (Fr.tr (Fr.tr (Fr.tr (Fr.mono u_2 (by decide)) u_16) (Fr.mono u_79 (by decide))) u_82) (Fr.mono u_86 (by decide))) trivial dX5_unit_165
    · -- 55
      refine lv_aload_n C0.1 C0.2.1 dX5_unit_58 rfl (lv_at hl 0 rfl) ?_
      refine lv_iload_n C0.1 C0.2.1 dX5_unit_59 rfl (lv_at hl 1 rfl) ?_
      refine y_ci h (y_rV (As := [.int a1]) (rest := []) C0 hZ h (c_X5_tooDeep_5 l G Z ad _ h.2 a1 (o24_32 l1 u1) (o24_33 l1 u1)) k_X5_tooDeep q_832 q_18 q_830 kSC_77 rfl rfl rfl hl.1 rfl rfl (Nat.le_of_ble_eq_true rfl) dX5_unit_60 ⟨Nat.le_of_ble_eq_true rfl, Nat.le_of_ble_eq_true rfl⟩ ⟨Nat.le_of_ble_eq_true rfl, Nat.le_of_ble_eq_true rfl⟩) (fun r_91 H locs ws_88 h u_89 p_90 => ?_)
      obtain ⟨e_92, e_93⟩ := p_90
      refine y_if_ne (tgt := 165) C0 dX5_unit_63 (by decide) (fun c_94 => ((o24_34 e_92 e_93 c_94)).elim) (fun c_94 => ?_)
      refine lv_aload_n C0.1 C0.2.1 dX5_unit_66 rfl (lv_at hl 0 rfl) ?_
      refine y_cv h (y_rV (As := []) (rest := []) C0 hZ h (c_X5_advance l G Z ad _ h.2) k_X5_advance q_616 q_0 q_614 kSC_77 rfl rfl rfl hl.1 rfl rfl (Nat.le_of_ble_eq_true rfl) dX5_unit_67 ⟨Nat.le_of_ble_eq_true rfl, Nat.le_of_ble_eq_true rfl⟩ ⟨Nat.le_of_ble_eq_true rfl, Nat.le_of_ble_eq_true rfl⟩) (fun H locs ws_95 h u_96 p_97 => ?_)
      refine lv_aload_n C0.1 C0.2.1 dX5_unit_70 rfl (lv_at hl 0 rfl) ?_
      refine lv_iload_n C0.1 C0.2.1 dX5_unit_71 rfl (lv_at hl 1 rfl) ?_
      refine y_c1 (n := 1) C0 (by decide) dX5_unit_72 (fun v_98 e_99 => ?_)
      refine y_add C0 (o24_35 l1 u1 e_99 (le_min a1) (le_max a1) (le_min v_98) (le_max v_98)) (o24_36 l1 u1 e_99 (le_min a1) (le_max a1) (le_min v_98) (le_max v_98)) dX5_unit_73 (fun v_100 e_101 => ?_)
      refine y_cv h (y_rV (As := [.int v_100]) (rest := []) C0 hZ h (c_X5_truth_6 l G Z ad _ h.2 v_100 (o24_37 l1 u1 e_99 e_101) (o24_38 l1 u1 e_99 e_101)) k_X5_truth q_843 q_19 q_841 kSC_77 rfl rfl rfl hl.1 rfl rfl (Nat.le_of_ble_eq_true rfl) dX5_unit_74 ⟨Nat.le_of_ble_eq_true rfl, Nat.le_of_ble_eq_true rfl⟩ ⟨Nat.le_of_ble_eq_true rfl, Nat.le_of_ble_eq_true rfl⟩) (fun H locs ws_102 h u_103 p_104 => ?_)
      refine lv_aload_n C0.1 C0.2.1 dX5_unit_77 rfl (lv_at hl 0 rfl) ?_
      refine y_c2 (n := 93) C0 (by decide) dX5_unit_78 (fun v_105 e_106 => ?_)
      refine y_cv h (y_rV (As := [.int v_105]) (rest := []) C0 hZ h (c_X5_sign l G Z ad _ h.2 v_105 (o24_41 e_106) (o24_42 e_106)) k_X5_sign q_812 q_14 q_810 kSC_77 rfl rfl rfl hl.1 rfl rfl (Nat.le_of_ble_eq_true rfl) dX5_unit_80 ⟨Nat.le_of_ble_eq_true rfl, Nat.le_of_ble_eq_true rfl⟩ ⟨Nat.le_of_ble_eq_true rfl, Nat.le_of_ble_eq_true rfl⟩) (fun H locs ws_107 h u_108 p_109 => ?_)
      refine lv_goto (tgt := 165) C0.1 C0.2.1 dX5_unit_83 (by decide) ?_
      rw [hQ]
      exact y_vret C0 h (Fr.tr (Fr.tr (Fr.tr (Fr.tr (Fr.mono u_2 (by decide)) (Fr.mono u_89 (by decide))) (Fr.mono u_96 (by decide))) u_103) (Fr.mono u_108 (by decide))) trivial dX5_unit_165
  · -- 6
    refine lv_aload_n C0.1 C0.2.1 dX5_unit_9 rfl (lv_at hl 0 rfl) ?_
    refine lv_iload_n C0.1 C0.2.1 dX5_unit_10 rfl (lv_at hl 1 rfl) ?_
    refine y_ci h (y_rV (As := [.int a1]) (rest := []) C0 hZ h (c_X5_tooDeep_5 l G Z ad _ h.2 a1 (o24_32 l1 u1) (o24_33 l1 u1)) k_X5_tooDeep q_832 q_18 q_830 kSC_77 rfl rfl rfl hl.1 rfl rfl (Nat.le_of_ble_eq_true rfl) dX5_unit_11 ⟨Nat.le_of_ble_eq_true rfl, Nat.le_of_ble_eq_true rfl⟩ ⟨Nat.le_of_ble_eq_true rfl, Nat.le_of_ble_eq_true rfl⟩) (fun r_113 H locs ws_110 h u_111 p_112 => ?_)
    obtain ⟨e_114, e_115⟩ := p_112
    refine y_if_ne (tgt := 165) C0 dX5_unit_14 (by decide) (fun c_116 => ((o24_34 e_114 e_115 c_116)).elim) (fun c_116 => ?_)
    refine lv_aload_n C0.1 C0.2.1 dX5_unit_17 rfl (lv_at hl 0 rfl) ?_
    refine y_cv h (y_rV (As := []) (rest := []) C0 hZ h (c_X5_advance l G Z ad _ h.2) k_X5_advance q_616 q_0 q_614 kSC_77 rfl rfl rfl hl.1 rfl rfl (Nat.le_of_ble_eq_true rfl) dX5_unit_18 ⟨Nat.le_of_ble_eq_true rfl, Nat.le_of_ble_eq_true rfl⟩ ⟨Nat.le_of_ble_eq_true rfl, Nat.le_of_ble_eq_true rfl⟩) (fun H locs ws_117 h u_118 p_119 => ?_)
    refine lv_aload_n C0.1 C0.2.1 dX5_unit_21 rfl (lv_at hl 0 rfl) ?_
    refine lv_iload_n C0.1 C0.2.1 dX5_unit_22 rfl (lv_at hl 1 rfl) ?_
    refine y_c1 (n := 1) C0 (by decide) dX5_unit_23 (fun v_120 e_121 => ?_)
    refine y_add C0 (o24_35 l1 u1 e_121 (le_min a1) (le_max a1) (le_min v_120) (le_max v_120)) (o24_36 l1 u1 e_121 (le_min a1) (le_max a1) (le_min v_120) (le_max v_120)) dX5_unit_24 (fun v_122 e_123 => ?_)
    refine y_cv h (y_rV (As := [.int v_122]) (rest := []) C0 hZ h (c_X5_unit_6 l G Z ad _ h.2 v_122 (o24_37 l1 u1 e_121 e_123) (o24_38 l1 u1 e_121 e_123)) k_X5_unit q_851 q_21 q_849 kSC_77 rfl rfl rfl hl.1 rfl rfl (Nat.le_of_ble_eq_true rfl) dX5_unit_25 ⟨Nat.le_of_ble_eq_true rfl, Nat.le_of_ble_eq_true rfl⟩ ⟨Nat.le_of_ble_eq_true rfl, Nat.le_of_ble_eq_true rfl⟩) (fun H locs ws_124 h u_125 p_126 => ?_)
    refine lv_aload_n C0.1 C0.2.1 dX5_unit_28 rfl (lv_at hl 0 rfl) ?_
    refine tg_X5_law C0 h kSC_77 q_380 dX5_unit_29 (fun i_127 hi_127 => ?_)
    refine y_c1 (n := 0) C0 (by decide) dX5_unit_32 (fun v_128 e_129 => ?_)
    refine y_cv h (y_rV (As := [.int v_128]) (rest := []) C0 hZ h (c_X4_add l G Z ad _ h.2 i_127 hi_127 v_128) k_X4_add q_827 q_828 q_826 hi_127 rfl rfl rfl hl.1 rfl rfl (Nat.le_of_ble_eq_true rfl) dX5_unit_33 ⟨Nat.le_of_ble_eq_true rfl, Nat.le_of_ble_eq_true rfl⟩ ⟨Nat.le_of_ble_eq_true rfl, Nat.le_of_ble_eq_true rfl⟩) (fun H locs ws_130 h u_131 p_132 => ?_)
    refine lv_aload_n C0.1 C0.2.1 dX5_unit_36 rfl (lv_at hl 0 rfl) ?_
    refine tg_X5_law C0 h kSC_77 q_380 dX5_unit_37 (fun i_133 hi_133 => ?_)
    refine y_c3 (n := 2003) C0 (by decide) dX5_unit_40 (fun v_134 e_135 => ?_)
    refine y_cv h (y_rV (As := [.int v_134]) (rest := []) C0 hZ h (c_X4_add l G Z ad _ h.2 i_133 hi_133 v_134) k_X4_add q_827 q_828 q_826 hi_133 rfl rfl rfl hl.1 rfl rfl (Nat.le_of_ble_eq_true rfl) dX5_unit_43 ⟨Nat.le_of_ble_eq_true rfl, Nat.le_of_ble_eq_true rfl⟩ ⟨Nat.le_of_ble_eq_true rfl, Nat.le_of_ble_eq_true rfl⟩) (fun H locs ws_136 h u_137 p_138 => ?_)
    refine lv_goto (tgt := 165) C0.1 C0.2.1 dX5_unit_46 (by decide) ?_
    rw [hQ]
    exact y_vret C0 h (Fr.tr (Fr.tr (Fr.tr (Fr.tr (Fr.tr (Fr.mono u_2 (by decide)) (Fr.mono u_111 (by decide))) (Fr.mono u_118 (by decide))) u_125) (Fr.mono u_131 (by decide))) (Fr.mono u_137 (by decide))) trivial dX5_unit_165
set_option maxHeartbeats 4000000 in
set_option maxRecDepth 100000 in
theorem c_X5_both_5 (l : Launch) (G : GG) (Z : RZ) (ad : Nat → Nat) (ws0 : va_W) (hT : Ty G (SC tt) ad ws0) (a1 : Int32) (l1 : 5 ≤ a1.toInt) (u1 : a1.toInt ≤ 5) : Mq l yX5_both cX5_both 3 none 13 G Z [.ref (ad 77), .int a1] ws0 (PV G (SC tt) ad [2, 3, 16] ws0 (fun u => True)) := by
  refine Mq.start (by decide) (Nat.le_of_ble_eq_true rfl) ?_
  intro p e s m below meth c A ls C0 hZ h hl
  have hl : lv_has ls 3 [(0, .ref (ad 77)), (1, .int a1)] := hl
  have h : Wt G (SC tt) ad A s s.heap [] ws0 := ⟨h, hT⟩
  obtain ⟨args, hargs⟩ : ∃ z, z = ([.ref (ad 77), .int a1] : List Value).toArray := ⟨_, rfl⟩
  rw [← hargs] at C0 ⊢
  have C0 : Cx p s m args meth c RX5 cX5_both 3 none := C0
  obtain ⟨Q, hQ⟩ : ∃ z, z = MQ below ((PV G (SC tt) ad [2, 3, 16] ws0 (fun u => True)) A) args s 0 0 A := ⟨_, rfl⟩
  rw [← hQ]
  refine lv_aload_n C0.1 C0.2.1 dX5_both_0 rfl (lv_at hl 0 rfl) ?_
  refine lv_iload_n C0.1 C0.2.1 dX5_both_1 rfl (lv_at hl 1 rfl) ?_
  refine y_cv h (y_rV (As := [.int a1]) (rest := []) C0 hZ h (c_X5_unit_5 l G Z ad _ h.2 a1 (o24_32 l1 u1) (o24_33 l1 u1)) k_X5_unit q_851 q_21 q_849 kSC_77 rfl rfl rfl hl.1 rfl rfl (Nat.le_of_ble_eq_true rfl) dX5_both_2 ⟨Nat.le_of_ble_eq_true rfl, Nat.le_of_ble_eq_true rfl⟩ ⟨Nat.le_of_ble_eq_true rfl, Nat.le_of_ble_eq_true rfl⟩) (fun H locs ws_1 h u_2 p_3 => ?_)
  refine y_c1 (n := 0) C0 (by decide) dX5_both_5 (fun v_4 e_5 => ?_)
  refine lv_istore_n (lv' := [(2, .int v_4), (0, .ref (ad 77)), (1, .int a1)]) C0.1 C0.2.1 dX5_both_6 rfl hl (by decide) rfl (fun ls hl => ?_)
  have lp_9 : ∀ (n_11 : Nat) (x2_6 : Int32) (H : Heap) (locs : List Loc) (ls : Array Slot) (ws_7 : va_W), 900 - x2_6.toInt < (n_11 : Int) → 0 ≤ x2_6.toInt → x2_6.toInt ≤ 900 → Wt G (SC tt) ad A s H locs ws_7 → Fr (SC tt) [2, 3, 16] ws_1 ws_7 → lv_has ls 3 [(2, .int x2_6), (0, .ref (ad 77)), (1, .int a1)] → W p l e (rmd 13 0 0) s m args below meth c H locs 0 0 Q (F0 m 7 ls []) := by
    intro n_11
    induction n_11 with
    | zero => intro x2_6 H locs ls ws_7 hn_12 b_13 b_14 h hF_8 hl; exact ((o24_15 b_13 b_14 hn_12)).elim
    | succ n_11 ih_10 =>
      intro x2_6 H locs ls ws_7 hn_12 b_13 b_14 h hF_8 hl
      refine lv_iload_n C0.1 C0.2.1 dX5_both_7 rfl (lv_at hl 0 rfl) ?_
      refine y_c3 (n := 900) C0 (by decide) dX5_both_8 (fun v_15 e_16 => ?_)
      refine y_icmp_ge (tgt := 48) C0 dX5_both_11 (by decide) (fun c_17 => ?_) (fun c_17 => ?_)
      · -- 11
        rw [hQ]
        exact y_vret C0 h (Fr.tr u_2 hF_8) trivial dX5_both_48
      · -- 11
        refine lv_aload_n C0.1 C0.2.1 dX5_both_14 rfl (lv_at hl 1 rfl) ?_
        refine va_ldcS C0.1 C0.2.1 C0.2.2.2.1 (sr_20 hZ) dX5_both_15 ?_
        refine y_ci h (y_rV (As := [.ref (Z.2.1 20)]) (rest := []) C0 hZ h (c_X5_isWord l G Z ad _ h.2 20 (by decide)) k_X5_isWord q_724 q_5 q_722 kSC_77 rfl rfl rfl hl.1 rfl rfl (Nat.le_of_ble_eq_true rfl) dX5_both_17 ⟨Nat.le_of_ble_eq_true rfl, Nat.le_of_ble_eq_true rfl⟩ ⟨Nat.le_of_ble_eq_true rfl, Nat.le_of_ble_eq_true rfl⟩) (fun r_21 H locs ws_18 h u_19 p_20 => ?_)
        obtain ⟨e_22, e_23⟩ := p_20
        refine y_if_eq (tgt := 48) C0 dX5_both_20 (by decide) (fun c_24 => ?_) (fun c_24 => ?_)
        · -- 20
          rw [hQ]
          exact y_vret C0 h (Fr.tr (Fr.tr u_2 hF_8) (Fr.mono u_19 (by decide))) trivial dX5_both_48
        · -- 20
          refine lv_aload_n C0.1 C0.2.1 dX5_both_23 rfl (lv_at hl 1 rfl) ?_
          refine y_cv h (y_rV (As := []) (rest := []) C0 hZ h (c_X5_advance l G Z ad _ h.2) k_X5_advance q_616 q_0 q_614 kSC_77 rfl rfl rfl hl.1 rfl rfl (Nat.le_of_ble_eq_true rfl) dX5_both_24 ⟨Nat.le_of_ble_eq_true rfl, Nat.le_of_ble_eq_true rfl⟩ ⟨Nat.le_of_ble_eq_true rfl, Nat.le_of_ble_eq_true rfl⟩) (fun H locs ws_25 h u_26 p_27 => ?_)
          refine lv_aload_n C0.1 C0.2.1 dX5_both_27 rfl (lv_at hl 1 rfl) ?_
          refine lv_iload_n C0.1 C0.2.1 dX5_both_28 rfl (lv_at hl 2 rfl) ?_
          refine y_cv h (y_rV (As := [.int a1]) (rest := []) C0 hZ h (c_X5_unit_5 l G Z ad _ h.2 a1 (o24_32 l1 u1) (o24_33 l1 u1)) k_X5_unit q_851 q_21 q_849 kSC_77 rfl rfl rfl hl.1 rfl rfl (Nat.le_of_ble_eq_true rfl) dX5_both_29 ⟨Nat.le_of_ble_eq_true rfl, Nat.le_of_ble_eq_true rfl⟩ ⟨Nat.le_of_ble_eq_true rfl, Nat.le_of_ble_eq_true rfl⟩) (fun H locs ws_28 h u_29 p_30 => ?_)
          refine lv_aload_n C0.1 C0.2.1 dX5_both_32 rfl (lv_at hl 1 rfl) ?_
          refine tg_X5_law C0 h kSC_77 q_380 dX5_both_33 (fun i_31 hi_31 => ?_)
          refine y_c3 (n := 2006) C0 (by decide) dX5_both_36 (fun v_32 e_33 => ?_)
          refine y_cv h (y_rV (As := [.int v_32]) (rest := []) C0 hZ h (c_X4_add l G Z ad _ h.2 i_31 hi_31 v_32) k_X4_add q_827 q_828 q_826 hi_31 rfl rfl rfl hl.1 rfl rfl (Nat.le_of_ble_eq_true rfl) dX5_both_39 ⟨Nat.le_of_ble_eq_true rfl, Nat.le_of_ble_eq_true rfl⟩ ⟨Nat.le_of_ble_eq_true rfl, Nat.le_of_ble_eq_true rfl⟩) (fun H locs ws_34 h u_35 p_36 => ?_)
          refine y_inc (kp := 0) (n := 1) (fun v_37 => [(2, .int v_37), (0, .ref (ad 77)), (1, .int a1)]) C0 hl rfl (by decide) (by decide) (fun _ => rfl) (o24_16 b_13 b_14 hn_12 e_16 c_17 (le_min x2_6) (le_max x2_6) (le_min v_15) (le_max v_15)) (o24_17 b_13 b_14 hn_12 e_16 c_17 (le_min x2_6) (le_max x2_6) (le_min v_15) (le_max v_15)) dX5_both_42 (fun v_37 ls e_38 hl => ?_)
          refine lv_goto (tgt := 7) C0.1 C0.2.1 dX5_both_45 (by decide) ?_
          exact ih_10 v_37 _ _ _ _ (o24_18 b_13 b_14 hn_12 e_16 c_17 e_38) (o24_19 b_13 b_14 hn_12 e_16 c_17 e_38) (o24_20 b_13 b_14 hn_12 e_16 c_17 e_38) h (Fr.tr (Fr.tr (Fr.tr (Fr.tr hF_8 (Fr.mono u_19 (by decide))) (Fr.mono u_26 (by decide))) u_29) (Fr.mono u_35 (by decide))) (lv_sub hl [0, 1, 2] rfl)
  exact lp_9 ((900 - v_4.toInt + 1).toNat) v_4 _ _ _ _ (o24_21 e_5) (o24_22 e_5) (o24_23 e_5) h Fr.rf (lv_sub hl [0, 1, 2] rfl)
set_option maxHeartbeats 4000000 in
set_option maxRecDepth 100000 in
theorem c_X5_truth_5 (l : Launch) (G : GG) (Z : RZ) (ad : Nat → Nat) (ws0 : va_W) (hT : Ty G (SC tt) ad ws0) (a1 : Int32) (l1 : 5 ≤ a1.toInt) (u1 : a1.toInt ≤ 5) : Mq l yX5_truth cX5_truth 3 none 14 G Z [.ref (ad 77), .int a1] ws0 (PV G (SC tt) ad [2, 3, 16] ws0 (fun u => True)) := by
  refine Mq.start (by decide) (Nat.le_of_ble_eq_true rfl) ?_
  intro p e s m below meth c A ls C0 hZ h hl
  have hl : lv_has ls 3 [(0, .ref (ad 77)), (1, .int a1)] := hl
  have h : Wt G (SC tt) ad A s s.heap [] ws0 := ⟨h, hT⟩
  obtain ⟨args, hargs⟩ : ∃ z, z = ([.ref (ad 77), .int a1] : List Value).toArray := ⟨_, rfl⟩
  rw [← hargs] at C0 ⊢
  have C0 : Cx p s m args meth c RX5 cX5_truth 3 none := C0
  obtain ⟨Q, hQ⟩ : ∃ z, z = MQ below ((PV G (SC tt) ad [2, 3, 16] ws0 (fun u => True)) A) args s 0 0 A := ⟨_, rfl⟩
  rw [← hQ]
  refine lv_aload_n C0.1 C0.2.1 dX5_truth_0 rfl (lv_at hl 0 rfl) ?_
  refine lv_iload_n C0.1 C0.2.1 dX5_truth_1 rfl (lv_at hl 1 rfl) ?_
  refine y_cv h (y_rV (As := [.int a1]) (rest := []) C0 hZ h (c_X5_both_5 l G Z ad _ h.2 a1 (o24_32 l1 u1) (o24_33 l1 u1)) k_X5_both q_847 q_20 q_845 kSC_77 rfl rfl rfl hl.1 rfl rfl (Nat.le_of_ble_eq_true rfl) dX5_truth_2 ⟨Nat.le_of_ble_eq_true rfl, Nat.le_of_ble_eq_true rfl⟩ ⟨Nat.le_of_ble_eq_true rfl, Nat.le_of_ble_eq_true rfl⟩) (fun H locs ws_1 h u_2 p_3 => ?_)
  refine y_c1 (n := 0) C0 (by decide) dX5_truth_5 (fun v_4 e_5 => ?_)
  refine lv_istore_n (lv' := [(2, .int v_4), (0, .ref (ad 77)), (1, .int a1)]) C0.1 C0.2.1 dX5_truth_6 rfl hl (by decide) rfl (fun ls hl => ?_)
  have lp_9 : ∀ (n_11 : Nat) (x2_6 : Int32) (H : Heap) (locs : List Loc) (ls : Array Slot) (ws_7 : va_W), 900 - x2_6.toInt < (n_11 : Int) → 0 ≤ x2_6.toInt → x2_6.toInt ≤ 900 → Wt G (SC tt) ad A s H locs ws_7 → Fr (SC tt) [2, 3, 16] ws_1 ws_7 → lv_has ls 3 [(2, .int x2_6), (0, .ref (ad 77)), (1, .int a1)] → W p l e (rmd 14 0 0) s m args below meth c H locs 0 0 Q (F0 m 7 ls []) := by
    intro n_11
    induction n_11 with
    | zero => intro x2_6 H locs ls ws_7 hn_12 b_13 b_14 h hF_8 hl; exact ((o24_15 b_13 b_14 hn_12)).elim
    | succ n_11 ih_10 =>
      intro x2_6 H locs ls ws_7 hn_12 b_13 b_14 h hF_8 hl
      refine lv_iload_n C0.1 C0.2.1 dX5_truth_7 rfl (lv_at hl 0 rfl) ?_
      refine y_c3 (n := 900) C0 (by decide) dX5_truth_8 (fun v_15 e_16 => ?_)
      refine y_icmp_ge (tgt := 48) C0 dX5_truth_11 (by decide) (fun c_17 => ?_) (fun c_17 => ?_)
      · -- 11
        rw [hQ]
        exact y_vret C0 h (Fr.tr u_2 hF_8) trivial dX5_truth_48
      · -- 11
        refine lv_aload_n C0.1 C0.2.1 dX5_truth_14 rfl (lv_at hl 1 rfl) ?_
        refine va_ldcS C0.1 C0.2.1 C0.2.2.2.1 (sr_21 hZ) dX5_truth_15 ?_
        refine y_ci h (y_rV (As := [.ref (Z.2.1 21)]) (rest := []) C0 hZ h (c_X5_isWord l G Z ad _ h.2 21 (by decide)) k_X5_isWord q_724 q_5 q_722 kSC_77 rfl rfl rfl hl.1 rfl rfl (Nat.le_of_ble_eq_true rfl) dX5_truth_17 ⟨Nat.le_of_ble_eq_true rfl, Nat.le_of_ble_eq_true rfl⟩ ⟨Nat.le_of_ble_eq_true rfl, Nat.le_of_ble_eq_true rfl⟩) (fun r_21 H locs ws_18 h u_19 p_20 => ?_)
        obtain ⟨e_22, e_23⟩ := p_20
        refine y_if_eq (tgt := 48) C0 dX5_truth_20 (by decide) (fun c_24 => ?_) (fun c_24 => ?_)
        · -- 20
          rw [hQ]
          exact y_vret C0 h (Fr.tr (Fr.tr u_2 hF_8) (Fr.mono u_19 (by decide))) trivial dX5_truth_48
        · -- 20
          refine lv_aload_n C0.1 C0.2.1 dX5_truth_23 rfl (lv_at hl 1 rfl) ?_
          refine y_cv h (y_rV (As := []) (rest := []) C0 hZ h (c_X5_advance l G Z ad _ h.2) k_X5_advance q_616 q_0 q_614 kSC_77 rfl rfl rfl hl.1 rfl rfl (Nat.le_of_ble_eq_true rfl) dX5_truth_24 ⟨Nat.le_of_ble_eq_true rfl, Nat.le_of_ble_eq_true rfl⟩ ⟨Nat.le_of_ble_eq_true rfl, Nat.le_of_ble_eq_true rfl⟩) (fun H locs ws_25 h u_26 p_27 => ?_)
          refine lv_aload_n C0.1 C0.2.1 dX5_truth_27 rfl (lv_at hl 1 rfl) ?_
          refine lv_iload_n C0.1 C0.2.1 dX5_truth_28 rfl (lv_at hl 2 rfl) ?_
          refine y_cv h (y_rV (As := [.int a1]) (rest := []) C0 hZ h (c_X5_both_5 l G Z ad _ h.2 a1 (o24_32 l1 u1) (o24_33 l1 u1)) k_X5_both q_847 q_20 q_845 kSC_77 rfl rfl rfl hl.1 rfl rfl (Nat.le_of_ble_eq_true rfl) dX5_truth_29 ⟨Nat.le_of_ble_eq_true rfl, Nat.le_of_ble_eq_true rfl⟩ ⟨Nat.le_of_ble_eq_true rfl, Nat.le_of_ble_eq_true rfl⟩) (fun H locs ws_28 h u_29 p_30 => ?_)
          refine lv_aload_n C0.1 C0.2.1 dX5_truth_32 rfl (lv_at hl 1 rfl) ?_
          refine tg_X5_law C0 h kSC_77 q_380 dX5_truth_33 (fun i_31 hi_31 => ?_)
          refine y_c3 (n := 2007) C0 (by decide) dX5_truth_36 (fun v_32 e_33 => ?_)
          refine y_cv h (y_rV (As := [.int v_32]) (rest := []) C0 hZ h (c_X4_add l G Z ad _ h.2 i_31 hi_31 v_32) k_X4_add q_827 q_828 q_826 hi_31 rfl rfl rfl hl.1 rfl rfl (Nat.le_of_ble_eq_true rfl) dX5_truth_39 ⟨Nat.le_of_ble_eq_true rfl, Nat.le_of_ble_eq_true rfl⟩ ⟨Nat.le_of_ble_eq_true rfl, Nat.le_of_ble_eq_true rfl⟩) (fun H locs ws_34 h u_35 p_36 => ?_)
          refine y_inc (kp := 0) (n := 1) (fun v_37 => [(2, .int v_37), (0, .ref (ad 77)), (1, .int a1)]) C0 hl rfl (by decide) (by decide) (fun _ => rfl) (o24_16 b_13 b_14 hn_12 e_16 c_17 (le_min x2_6) (le_max x2_6) (le_min v_15) (le_max v_15)) (o24_17 b_13 b_14 hn_12 e_16 c_17 (le_min x2_6) (le_max x2_6) (le_min v_15) (le_max v_15)) dX5_truth_42 (fun v_37 ls e_38 hl => ?_)
          refine lv_goto (tgt := 7) C0.1 C0.2.1 dX5_truth_45 (by decide) ?_
          exact ih_10 v_37 _ _ _ _ (o24_18 b_13 b_14 hn_12 e_16 c_17 e_38) (o24_19 b_13 b_14 hn_12 e_16 c_17 e_38) (o24_20 b_13 b_14 hn_12 e_16 c_17 e_38) h (Fr.tr (Fr.tr (Fr.tr (Fr.tr hF_8 (Fr.mono u_19 (by decide))) (Fr.mono u_26 (by decide))) u_29) (Fr.mono u_35 (by decide))) (lv_sub hl [0, 1, 2] rfl)
  exact lp_9 ((900 - v_4.toInt + 1).toNat) v_4 _ _ _ _ (o24_21 e_5) (o24_22 e_5) (o24_23 e_5) h Fr.rf (lv_sub hl [0, 1, 2] rfl)
set_option maxHeartbeats 4000000 in
set_option maxRecDepth 100000 in
theorem c_X5_tooDeep_4 (l : Launch) (G : GG) (Z : RZ) (ad : Nat → Nat) (ws0 : va_W) (hT : Ty G (SC tt) ad ws0) (a1 : Int32) (l1 : 4 ≤ a1.toInt) (u1 : a1.toInt ≤ 4) : Mq l yX5_tooDeep cX5_tooDeep 2 (some .boolean) 1 G Z [.ref (ad 77), .int a1] ws0 (PI G (SC tt) ad [] ws0 (fun r u => (0 ≤ r.toInt) ∧ (r.toInt ≤ 0))) := by
  refine Mq.start (by decide) (Nat.le_of_ble_eq_true rfl) ?_
  intro p e s m below meth c A ls C0 hZ h hl
  have hl : lv_has ls 2 [(0, .ref (ad 77)), (1, .int a1)] := hl
  have h : Wt G (SC tt) ad A s s.heap [] ws0 := ⟨h, hT⟩
  obtain ⟨args, hargs⟩ : ∃ z, z = ([.ref (ad 77), .int a1] : List Value).toArray := ⟨_, rfl⟩
  rw [← hargs] at C0 ⊢
  have C0 : Cx p s m args meth c RX5 cX5_tooDeep 2 (some .boolean) := C0
  obtain ⟨Q, hQ⟩ : ∃ z, z = MQ below ((PI G (SC tt) ad [] ws0 (fun r u => (0 ≤ r.toInt) ∧ (r.toInt ≤ 0))) A) args s 0 0 A := ⟨_, rfl⟩
  rw [← hQ]
  refine lv_iload_n C0.1 C0.2.1 dX5_tooDeep_0 rfl (lv_at hl 1 rfl) ?_
  refine y_c2 (n := 6) C0 (by decide) dX5_tooDeep_1 (fun v_1 e_2 => ?_)
  refine y_icmp_lt (tgt := 13) C0 dX5_tooDeep_3 (by decide) (fun c_3 => ?_) (fun c_3 => ((o24_43 l1 u1 e_2 c_3)).elim)
  refine y_c1 (n := 0) C0 (by decide) dX5_tooDeep_13 (fun v_4 e_5 => ?_)
  rw [hQ]
  exact y_zret C0 h (o24_22 e_5) (o24_31 e_5) Fr.rf ⟨(o24_22 e_5), (o24_30 e_5)⟩ dX5_tooDeep_14
set_option maxHeartbeats 4000000 in
set_option maxRecDepth 100000 in
theorem c_X5_atom_4 (l : Launch) (G : GG) (Z : RZ) (ad : Nat → Nat) (ws0 : va_W) (hT : Ty G (SC tt) ad ws0) (a1 : Int32) (l1 : 4 ≤ a1.toInt) (u1 : a1.toInt ≤ 4) : Mq l yX5_atom cX5_atom 3 none 12 G Z [.ref (ad 77), .int a1] ws0 (PV G (SC tt) ad [2, 3, 16] ws0 (fun u => True)) := by
  refine Mq.start (by decide) (Nat.le_of_ble_eq_true rfl) ?_
  intro p e s m below meth c A ls C0 hZ h hl
  have hl : lv_has ls 3 [(0, .ref (ad 77)), (1, .int a1)] := hl
  have h : Wt G (SC tt) ad A s s.heap [] ws0 := ⟨h, hT⟩
  obtain ⟨args, hargs⟩ : ∃ z, z = ([.ref (ad 77), .int a1] : List Value).toArray := ⟨_, rfl⟩
  rw [← hargs] at C0 ⊢
  have C0 : Cx p s m args meth c RX5 cX5_atom 3 none := C0
  obtain ⟨Q, hQ⟩ : ∃ z, z = MQ below ((PV G (SC tt) ad [2, 3, 16] ws0 (fun u => True)) A) args s 0 0 A := ⟨_, rfl⟩
  rw [← hQ]
  refine lv_aload_n C0.1 C0.2.1 dX5_atom_0 rfl (lv_at hl 0 rfl) ?_
  refine tg_X5_kind C0 h kSC_77 q_374 dX5_atom_1 (fun v_1 e_2 e_3 e_4 => ?_)
  refine y_c1 (n := 2) C0 (by decide) dX5_atom_4 (fun v_5 e_6 => ?_)
  refine y_icmp_ne (tgt := 26) C0 dX5_atom_5 (by decide) (fun c_7 => ?_) (fun c_7 => ?_)
  · -- 5
    refine lv_aload_n C0.1 C0.2.1 dX5_atom_26 rfl (lv_at hl 0 rfl) ?_
    refine tg_X5_kind C0 h kSC_77 q_374 dX5_atom_27 (fun v_8 e_9 e_10 e_11 => ?_)
    have q_12 : v_8.toInt = v_1.toInt := congrArg Int32.toInt (e_9.symm.trans (Eq.trans rfl e_2))
    refine y_c2 (n := 40) C0 (by decide) dX5_atom_30 (fun v_13 e_14 => ?_)
    refine y_icmp_ne (tgt := 63) C0 dX5_atom_32 (by decide) (fun c_15 => ?_) (fun c_15 => ?_)
    · -- 32
      refine lv_aload_n C0.1 C0.2.1 dX5_atom_63 rfl (lv_at hl 0 rfl) ?_
      refine va_ldcS C0.1 C0.2.1 C0.2.2.2.1 (sr_12 hZ) dX5_atom_64 ?_
      refine y_ci h (y_rV (As := [.ref (Z.2.1 12)]) (rest := []) C0 hZ h (c_X5_isWord l G Z ad _ h.2 12 (by decide)) k_X5_isWord q_724 q_5 q_722 kSC_77 rfl rfl rfl hl.1 rfl rfl (Nat.le_of_ble_eq_true rfl) dX5_atom_66 ⟨Nat.le_of_ble_eq_true rfl, Nat.le_of_ble_eq_true rfl⟩ ⟨Nat.le_of_ble_eq_true rfl, Nat.le_of_ble_eq_true rfl⟩) (fun r_19 H locs ws_16 h u_17 p_18 => ?_)
      obtain ⟨e_20, e_21⟩ := p_18
      refine y_if_eq (tgt := 78) C0 dX5_atom_69 (by decide) (fun c_22 => ?_) (fun c_22 => ?_)
      · -- 69
        refine lv_aload_n C0.1 C0.2.1 dX5_atom_78 rfl (lv_at hl 0 rfl) ?_
        refine va_ldcS C0.1 C0.2.1 C0.2.2.2.1 (sr_13 hZ) dX5_atom_79 ?_
        refine y_ci h (y_rV (As := [.ref (Z.2.1 13)]) (rest := []) C0 hZ h (c_X5_isWord l G Z ad _ h.2 13 (by decide)) k_X5_isWord q_724 q_5 q_722 kSC_77 rfl rfl rfl hl.1 rfl rfl (Nat.le_of_ble_eq_true rfl) dX5_atom_81 ⟨Nat.le_of_ble_eq_true rfl, Nat.le_of_ble_eq_true rfl⟩ ⟨Nat.le_of_ble_eq_true rfl, Nat.le_of_ble_eq_true rfl⟩) (fun r_26 H locs ws_23 h u_24 p_25 => ?_)
        obtain ⟨e_27, e_28⟩ := p_25
        refine y_if_eq (tgt := 93) C0 dX5_atom_84 (by decide) (fun c_29 => ?_) (fun c_29 => ?_)
        · -- 84
          refine lv_aload_n C0.1 C0.2.1 dX5_atom_93 rfl (lv_at hl 0 rfl) ?_
          refine va_ldcS C0.1 C0.2.1 C0.2.2.2.1 (sr_14 hZ) dX5_atom_94 ?_
          refine y_ci h (y_rV (As := [.ref (Z.2.1 14)]) (rest := []) C0 hZ h (c_X5_isWord l G Z ad _ h.2 14 (by decide)) k_X5_isWord q_724 q_5 q_722 kSC_77 rfl rfl rfl hl.1 rfl rfl (Nat.le_of_ble_eq_true rfl) dX5_atom_96 ⟨Nat.le_of_ble_eq_true rfl, Nat.le_of_ble_eq_true rfl⟩ ⟨Nat.le_of_ble_eq_true rfl, Nat.le_of_ble_eq_true rfl⟩) (fun r_33 H locs ws_30 h u_31 p_32 => ?_)
          obtain ⟨e_34, e_35⟩ := p_32
          refine y_if_eq (tgt := 108) C0 dX5_atom_99 (by decide) (fun c_36 => ?_) (fun c_36 => ?_)
          · -- 99
            refine lv_aload_n C0.1 C0.2.1 dX5_atom_108 rfl (lv_at hl 0 rfl) ?_
            refine va_ldcS C0.1 C0.2.1 C0.2.2.2.1 (sr_15 hZ) dX5_atom_109 ?_
            refine y_ci h (y_rV (As := [.ref (Z.2.1 15)]) (rest := []) C0 hZ h (c_X5_isWord l G Z ad _ h.2 15 (by decide)) k_X5_isWord q_724 q_5 q_722 kSC_77 rfl rfl rfl hl.1 rfl rfl (Nat.le_of_ble_eq_true rfl) dX5_atom_111 ⟨Nat.le_of_ble_eq_true rfl, Nat.le_of_ble_eq_true rfl⟩ ⟨Nat.le_of_ble_eq_true rfl, Nat.le_of_ble_eq_true rfl⟩) (fun r_40 H locs ws_37 h u_38 p_39 => ?_)
            obtain ⟨e_41, e_42⟩ := p_39
            refine y_if_eq (tgt := 123) C0 dX5_atom_114 (by decide) (fun c_43 => ?_) (fun c_43 => ?_)
            · -- 114
              refine lv_aload_n C0.1 C0.2.1 dX5_atom_123 rfl (lv_at hl 0 rfl) ?_
              refine va_ldcS C0.1 C0.2.1 C0.2.2.2.1 (sr_16 hZ) dX5_atom_124 ?_
              refine y_ci h (y_rV (As := [.ref (Z.2.1 16)]) (rest := []) C0 hZ h (c_X5_isWord l G Z ad _ h.2 16 (by decide)) k_X5_isWord q_724 q_5 q_722 kSC_77 rfl rfl rfl hl.1 rfl rfl (Nat.le_of_ble_eq_true rfl) dX5_atom_126 ⟨Nat.le_of_ble_eq_true rfl, Nat.le_of_ble_eq_true rfl⟩ ⟨Nat.le_of_ble_eq_true rfl, Nat.le_of_ble_eq_true rfl⟩) (fun r_47 H locs ws_44 h u_45 p_46 => ?_)
              obtain ⟨e_48, e_49⟩ := p_46
              refine y_if_eq (tgt := 138) C0 dX5_atom_129 (by decide) (fun c_50 => ?_) (fun c_50 => ?_)
              · -- 129
                refine lv_aload_n C0.1 C0.2.1 dX5_atom_138 rfl (lv_at hl 0 rfl) ?_
                refine va_ldcS C0.1 C0.2.1 C0.2.2.2.1 (sr_17 hZ) dX5_atom_139 ?_
                refine y_ci h (y_rV (As := [.ref (Z.2.1 17)]) (rest := []) C0 hZ h (c_X5_isWord l G Z ad _ h.2 17 (by decide)) k_X5_isWord q_724 q_5 q_722 kSC_77 rfl rfl rfl hl.1 rfl rfl (Nat.le_of_ble_eq_true rfl) dX5_atom_141 ⟨Nat.le_of_ble_eq_true rfl, Nat.le_of_ble_eq_true rfl⟩ ⟨Nat.le_of_ble_eq_true rfl, Nat.le_of_ble_eq_true rfl⟩) (fun r_54 H locs ws_51 h u_52 p_53 => ?_)
                obtain ⟨e_55, e_56⟩ := p_53
                refine y_if_eq (tgt := 153) C0 dX5_atom_144 (by decide) (fun c_57 => ?_) (fun c_57 => ?_)
                · -- 144
                  refine y_c1 (n := (-1)) C0 (by decide) dX5_atom_153 (fun v_58 e_59 => ?_)
                  refine lv_istore_n (lv' := [(2, .int v_58), (0, .ref (ad 77)), (1, .int a1)]) C0.1 C0.2.1 dX5_atom_154 rfl hl (by decide) rfl (fun ls hl => ?_)
                  refine lv_iload_n C0.1 C0.2.1 dX5_atom_155 rfl (lv_at hl 0 rfl) ?_
                  refine y_if_ge (tgt := 165) C0 dX5_atom_156 (by decide) (fun c_60 => ((o24_5 e_59 c_60)).elim) (fun c_60 => ?_)
                  refine lv_aload_n C0.1 C0.2.1 dX5_atom_159 rfl (lv_at hl 1 rfl) ?_
                  refine y_c1 (n := 2) C0 (by decide) dX5_atom_160 (fun v_61 e_62 => ?_)
                  refine y_cv h (y_rV (As := [.int v_61]) (rest := []) C0 hZ h (c_X5_fail l G Z ad _ h.2 v_61) k_X5_fail q_628 q_3 q_626 kSC_77 rfl rfl rfl hl.1 rfl rfl (Nat.le_of_ble_eq_true rfl) dX5_atom_161 ⟨Nat.le_of_ble_eq_true rfl, Nat.le_of_ble_eq_true rfl⟩ ⟨Nat.le_of_ble_eq_true rfl, Nat.le_of_ble_eq_true rfl⟩) (fun H locs ws_63 h u_64 p_65 => ?_)
                  rw [hQ]
                  exact y_vret C0 h (Fr.tr (Fr.tr (Fr.tr (Fr.tr (Fr.tr (Fr.tr (Fr.mono u_17 (by decide)) (Fr.mono u_24 (by decide))) (Fr.mono u_31 (by decide))) (Fr.mono u_38 (by decide))) (Fr.mono u_45 (by decide))) (Fr.mono u_52 (by decide))) (Fr.mono u_64 (by decide))) trivial dX5_atom_164
                · -- 144
                  refine y_c3 (n := 1005) C0 (by decide) dX5_atom_147 (fun v_66 e_67 => ?_)
                  refine lv_goto (tgt := 154) C0.1 C0.2.1 dX5_atom_150 (by decide) ?_
                  refine lv_istore_n (lv' := [(2, .int v_66), (0, .ref (ad 77)), (1, .int a1)]) C0.1 C0.2.1 dX5_atom_154 rfl hl (by decide) rfl (fun ls hl => ?_)
                  refine lv_iload_n C0.1 C0.2.1 dX5_atom_155 rfl (lv_at hl 0 rfl) ?_
                  refine y_if_ge (tgt := 165) C0 dX5_atom_156 (by decide) (fun c_68 => ?_) (fun c_68 => ((o24_6 e_67 c_68)).elim)
                  refine lv_aload_n C0.1 C0.2.1 dX5_atom_165 rfl (lv_at hl 1 rfl) ?_
                  refine tg_X5_law C0 h kSC_77 q_380 dX5_atom_166 (fun i_69 hi_69 => ?_)
                  refine lv_iload_n C0.1 C0.2.1 dX5_atom_169 rfl (lv_at hl 0 rfl) ?_
                  refine y_cv h (y_rV (As := [.int v_66]) (rest := []) C0 hZ h (c_X4_add l G Z ad _ h.2 i_69 hi_69 v_66) k_X4_add q_827 q_828 q_826 hi_69 rfl rfl rfl hl.1 rfl rfl (Nat.le_of_ble_eq_true rfl) dX5_atom_170 ⟨Nat.le_of_ble_eq_true rfl, Nat.le_of_ble_eq_true rfl⟩ ⟨Nat.le_of_ble_eq_true rfl, Nat.le_of_ble_eq_true rfl⟩) (fun H locs ws_70 h u_71 p_72 => ?_)
                  refine lv_aload_n C0.1 C0.2.1 dX5_atom_173 rfl (lv_at hl 1 rfl) ?_
                  refine y_cv h (y_rV (As := []) (rest := []) C0 hZ h (c_X5_advance l G Z ad _ h.2) k_X5_advance q_616 q_0 q_614 kSC_77 rfl rfl rfl hl.1 rfl rfl (Nat.le_of_ble_eq_true rfl) dX5_atom_174 ⟨Nat.le_of_ble_eq_true rfl, Nat.le_of_ble_eq_true rfl⟩ ⟨Nat.le_of_ble_eq_true rfl, Nat.le_of_ble_eq_true rfl⟩) (fun H locs ws_73 h u_74 p_75 => ?_)
                  rw [hQ]
                  exact y_vret C0 h (Fr.tr (Fr.tr (Fr.tr (Fr.tr (Fr.tr (Fr.tr (Fr.tr (Fr.mono u_17 (by decide)) (Fr.mono u_24 (by decide))) (Fr.mono u_31 (by decide))) (Fr.mono u_38 (by decide))) (Fr.mono u_45 (by decide))) (Fr.mono u_52 (by decide))) (Fr.mono u_71 (by decide))) (Fr.mono u_74 (by decide))) trivial dX5_atom_177
              · -- 129
                refine y_c3 (n := 1004) C0 (by decide) dX5_atom_132 (fun v_76 e_77 => ?_)
                refine lv_goto (tgt := 154) C0.1 C0.2.1 dX5_atom_135 (by decide) ?_
                refine lv_istore_n (lv' := [(2, .int v_76), (0, .ref (ad 77)), (1, .int a1)]) C0.1 C0.2.1 dX5_atom_154 rfl hl (by decide) rfl (fun ls hl => ?_)
                refine lv_iload_n C0.1 C0.2.1 dX5_atom_155 rfl (lv_at hl 0 rfl) ?_
                refine y_if_ge (tgt := 165) C0 dX5_atom_156 (by decide) (fun c_78 => ?_) (fun c_78 => ((o24_7 e_77 c_78)).elim)
                refine lv_aload_n C0.1 C0.2.1 dX5_atom_165 rfl (lv_at hl 1 rfl) ?_
                refine tg_X5_law C0 h kSC_77 q_380 dX5_atom_166 (fun i_79 hi_79 => ?_)
                refine lv_iload_n C0.1 C0.2.1 dX5_atom_169 rfl (lv_at hl 0 rfl) ?_
                refine y_cv h (y_rV (As := [.int v_76]) (rest := []) C0 hZ h (c_X4_add l G Z ad _ h.2 i_79 hi_79 v_76) k_X4_add q_827 q_828 q_826 hi_79 rfl rfl rfl hl.1 rfl rfl (Nat.le_of_ble_eq_true rfl) dX5_atom_170 ⟨Nat.le_of_ble_eq_true rfl, Nat.le_of_ble_eq_true rfl⟩ ⟨Nat.le_of_ble_eq_true rfl, Nat.le_of_ble_eq_true rfl⟩) (fun H locs ws_80 h u_81 p_82 => ?_)
                refine lv_aload_n C0.1 C0.2.1 dX5_atom_173 rfl (lv_at hl 1 rfl) ?_
                refine y_cv h (y_rV (As := []) (rest := []) C0 hZ h (c_X5_advance l G Z ad _ h.2) k_X5_advance q_616 q_0 q_614 kSC_77 rfl rfl rfl hl.1 rfl rfl (Nat.le_of_ble_eq_true rfl) dX5_atom_174 ⟨Nat.le_of_ble_eq_true rfl, Nat.le_of_ble_eq_true rfl⟩ ⟨Nat.le_of_ble_eq_true rfl, Nat.le_of_ble_eq_true rfl⟩) (fun H locs ws_83 h u_84 p_85 => ?_)
                rw [hQ]
                exact y_vret C0 h (Fr.tr (Fr.tr (Fr.tr (Fr.tr (Fr.tr (Fr.tr (Fr.mono u_17 (by decide)) (Fr.mono u_24 (by decide))) (Fr.mono u_31 (by decide))) (Fr.mono u_38 (by decide))) (Fr.mono u_45 (by decide))) (Fr.mono u_81 (by decide))) (Fr.mono u_84 (by decide))) trivial dX5_atom_177
            · -- 114
              refine y_c3 (n := 1003) C0 (by decide) dX5_atom_117 (fun v_86 e_87 => ?_)
              refine lv_goto (tgt := 154) C0.1 C0.2.1 dX5_atom_120 (by decide) ?_
              refine lv_istore_n (lv' := [(2, .int v_86), (0, .ref (ad 77)), (1, .int a1)]) C0.1 C0.2.1 dX5_atom_154 rfl hl (by decide) rfl (fun ls hl => ?_)
              refine lv_iload_n C0.1 C0.2.1 dX5_atom_155 rfl (lv_at hl 0 rfl) ?_
              refine y_if_ge (tgt := 165) C0 dX5_atom_156 (by decide) (fun c_88 => ?_) (fun c_88 => ((o24_8 e_87 c_88)).elim)
              refine lv_aload_n C0.1 C0.2.1 dX5_atom_165 rfl (lv_at hl 1 rfl) ?_
              refine tg_X5_law C0 h kSC_77 q_380 dX5_atom_166 (fun i_89 hi_89 => ?_)
              refine lv_iload_n C0.1 C0.2.1 dX5_atom_169 rfl (lv_at hl 0 rfl) ?_
              refine y_cv h (y_rV (As := [.int v_86]) (rest := []) C0 hZ h (c_X4_add l G Z ad _ h.2 i_89 hi_89 v_86) k_X4_add q_827 q_828 q_826 hi_89 rfl rfl rfl hl.1 rfl rfl (Nat.le_of_ble_eq_true rfl) dX5_atom_170 ⟨Nat.le_of_ble_eq_true rfl, Nat.le_of_ble_eq_true rfl⟩ ⟨Nat.le_of_ble_eq_true rfl, Nat.le_of_ble_eq_true rfl⟩) (fun H locs ws_90 h u_91 p_92 => ?_)
              refine lv_aload_n C0.1 C0.2.1 dX5_atom_173 rfl (lv_at hl 1 rfl) ?_
              refine y_cv h (y_rV (As := []) (rest := []) C0 hZ h (c_X5_advance l G Z ad _ h.2) k_X5_advance q_616 q_0 q_614 kSC_77 rfl rfl rfl hl.1 rfl rfl (Nat.le_of_ble_eq_true rfl) dX5_atom_174 ⟨Nat.le_of_ble_eq_true rfl, Nat.le_of_ble_eq_true rfl⟩ ⟨Nat.le_of_ble_eq_true rfl, Nat.le_of_ble_eq_true rfl⟩) (fun H locs ws_93 h u_94 p_95 => ?_)
              rw [hQ]
              exact y_vret C0 h (Fr.tr (Fr.tr (Fr.tr (Fr.tr (Fr.tr (Fr.mono u_17 (by decide)) (Fr.mono u_24 (by decide))) (Fr.mono u_31 (by decide))) (Fr.mono u_38 (by decide))) (Fr.mono u_91 (by decide))) (Fr.mono u_94 (by decide))) trivial dX5_atom_177
          · -- 99
            refine y_c3 (n := 1002) C0 (by decide) dX5_atom_102 (fun v_96 e_97 => ?_)
            refine lv_goto (tgt := 154) C0.1 C0.2.1 dX5_atom_105 (by decide) ?_
            refine lv_istore_n (lv' := [(2, .int v_96), (0, .ref (ad 77)), (1, .int a1)]) C0.1 C0.2.1 dX5_atom_154 rfl hl (by decide) rfl (fun ls hl => ?_)
            refine lv_iload_n C0.1 C0.2.1 dX5_atom_155 rfl (lv_at hl 0 rfl) ?_
            refine y_if_ge (tgt := 165) C0 dX5_atom_156 (by decide) (fun c_98 => ?_) (fun c_98 => ((o24_9 e_97 c_98)).elim)
            refine lv_aload_n C0.1 C0.2.1 dX5_atom_165 rfl (lv_at hl 1 rfl) ?_
            refine tg_X5_law C0 h kSC_77 q_380 dX5_atom_166 (fun i_99 hi_99 => ?_)
            refine lv_iload_n C0.1 C0.2.1 dX5_atom_169 rfl (lv_at hl 0 rfl) ?_
            refine y_cv h (y_rV (As := [.int v_96]) (rest := []) C0 hZ h (c_X4_add l G Z ad _ h.2 i_99 hi_99 v_96) k_X4_add q_827 q_828 q_826 hi_99 rfl rfl rfl hl.1 rfl rfl (Nat.le_of_ble_eq_true rfl) dX5_atom_170 ⟨Nat.le_of_ble_eq_true rfl, Nat.le_of_ble_eq_true rfl⟩ ⟨Nat.le_of_ble_eq_true rfl, Nat.le_of_ble_eq_true rfl⟩) (fun H locs ws_100 h u_101 p_102 => ?_)
            refine lv_aload_n C0.1 C0.2.1 dX5_atom_173 rfl (lv_at hl 1 rfl) ?_
            refine y_cv h (y_rV (As := []) (rest := []) C0 hZ h (c_X5_advance l G Z ad _ h.2) k_X5_advance q_616 q_0 q_614 kSC_77 rfl rfl rfl hl.1 rfl rfl (Nat.le_of_ble_eq_true rfl) dX5_atom_174 ⟨Nat.le_of_ble_eq_true rfl, Nat.le_of_ble_eq_true rfl⟩ ⟨Nat.le_of_ble_eq_true rfl, Nat.le_of_ble_eq_true rfl⟩) (fun H locs ws_103 h u_104 p_105 => ?_)
            rw [hQ]
            exact y_vret C0 h (Fr.tr (Fr.tr (Fr.tr (Fr.tr (Fr.mono u_17 (by decide)) (Fr.mono u_24 (by decide))) (Fr.mono u_31 (by decide))) (Fr.mono u_101 (by decide))) (Fr.mono u_104 (by decide))) trivial dX5_atom_177
        · -- 84
          refine y_c3 (n := 1001) C0 (by decide) dX5_atom_87 (fun v_106 e_107 => ?_)
          refine lv_goto (tgt := 154) C0.1 C0.2.1 dX5_atom_90 (by decide) ?_
          refine lv_istore_n (lv' := [(2, .int v_106), (0, .ref (ad 77)), (1, .int a1)]) C0.1 C0.2.1 dX5_atom_154 rfl hl (by decide) rfl (fun ls hl => ?_)
          refine lv_iload_n C0.1 C0.2.1 dX5_atom_155 rfl (lv_at hl 0 rfl) ?_
          refine y_if_ge (tgt := 165) C0 dX5_atom_156 (by decide) (fun c_108 => ?_) (fun c_108 => ((o24_10 e_107 c_108)).elim)
          refine lv_aload_n C0.1 C0.2.1 dX5_atom_165 rfl (lv_at hl 1 rfl) ?_
          refine tg_X5_law C0 h kSC_77 q_380 dX5_atom_166 (fun i_109 hi_109 => ?_)
          refine lv_iload_n C0.1 C0.2.1 dX5_atom_169 rfl (lv_at hl 0 rfl) ?_
          refine y_cv h (y_rV (As := [.int v_106]) (rest := []) C0 hZ h (c_X4_add l G Z ad _ h.2 i_109 hi_109 v_106) k_X4_add q_827 q_828 q_826 hi_109 rfl rfl rfl hl.1 rfl rfl (Nat.le_of_ble_eq_true rfl) dX5_atom_170 ⟨Nat.le_of_ble_eq_true rfl, Nat.le_of_ble_eq_true rfl⟩ ⟨Nat.le_of_ble_eq_true rfl, Nat.le_of_ble_eq_true rfl⟩) (fun H locs ws_110 h u_111 p_112 => ?_)
          refine lv_aload_n C0.1 C0.2.1 dX5_atom_173 rfl (lv_at hl 1 rfl) ?_
          refine y_cv h (y_rV (As := []) (rest := []) C0 hZ h (c_X5_advance l G Z ad _ h.2) k_X5_advance q_616 q_0 q_614 kSC_77 rfl rfl rfl hl.1 rfl rfl (Nat.le_of_ble_eq_true rfl) dX5_atom_174 ⟨Nat.le_of_ble_eq_true rfl, Nat.le_of_ble_eq_true rfl⟩ ⟨Nat.le_of_ble_eq_true rfl, Nat.le_of_ble_eq_true rfl⟩) (fun H locs ws_113 h u_114 p_115 => ?_)
          rw [hQ]
          exact y_vret C0 h (Fr.tr (Fr.tr (Fr.tr (Fr.mono u_17 (by decide)) (Fr.mono u_24 (by decide))) (Fr.mono u_111 (by decide))) (Fr.mono u_114 (by decide))) trivial dX5_atom_177
      · -- 69
        refine y_c3 (n := 1000) C0 (by decide) dX5_atom_72 (fun v_116 e_117 => ?_)
        refine lv_goto (tgt := 154) C0.1 C0.2.1 dX5_atom_75 (by decide) ?_
        refine lv_istore_n (lv' := [(2, .int v_116), (0, .ref (ad 77)), (1, .int a1)]) C0.1 C0.2.1 dX5_atom_154 rfl hl (by decide) rfl (fun ls hl => ?_)
        refine lv_iload_n C0.1 C0.2.1 dX5_atom_155 rfl (lv_at hl 0 rfl) ?_
        refine y_if_ge (tgt := 165) C0 dX5_atom_156 (by decide) (fun c_118 => ?_) (fun c_118 => ((o24_11 e_117 c_118)).elim)
        refine lv_aload_n C0.1 C0.2.1 dX5_atom_165 rfl (lv_at hl 1 rfl) ?_
        refine tg_X5_law C0 h kSC_77 q_380 dX5_atom_166 (fun i_119 hi_119 => ?_)
        refine lv_iload_n C0.1 C0.2.1 dX5_atom_169 rfl (lv_at hl 0 rfl) ?_
        refine y_cv h (y_rV (As := [.int v_116]) (rest := []) C0 hZ h (c_X4_add l G Z ad _ h.2 i_119 hi_119 v_116) k_X4_add q_827 q_828 q_826 hi_119 rfl rfl rfl hl.1 rfl rfl (Nat.le_of_ble_eq_true rfl) dX5_atom_170 ⟨Nat.le_of_ble_eq_true rfl, Nat.le_of_ble_eq_true rfl⟩ ⟨Nat.le_of_ble_eq_true rfl, Nat.le_of_ble_eq_true rfl⟩) (fun H locs ws_120 h u_121 p_122 => ?_)
        refine lv_aload_n C0.1 C0.2.1 dX5_atom_173 rfl (lv_at hl 1 rfl) ?_
        refine y_cv h (y_rV (As := []) (rest := []) C0 hZ h (c_X5_advance l G Z ad _ h.2) k_X5_advance q_616 q_0 q_614 kSC_77 rfl rfl rfl hl.1 rfl rfl (Nat.le_of_ble_eq_true rfl) dX5_atom_174 ⟨Nat.le_of_ble_eq_true rfl, Nat.le_of_ble_eq_true rfl⟩ ⟨Nat.le_of_ble_eq_true rfl, Nat.le_of_ble_eq_true rfl⟩) (fun H locs ws_123 h u_124 p_125 => ?_)
        rw [hQ]
        exact y_vret C0 h (Fr.tr (Fr.tr (Fr.mono u_17 (by decide)) (Fr.mono u_121 (by decide))) (Fr.mono u_124 (by decide))) trivial dX5_atom_177
    · -- 32
      refine lv_aload_n C0.1 C0.2.1 dX5_atom_35 rfl (lv_at hl 0 rfl) ?_
      refine lv_iload_n C0.1 C0.2.1 dX5_atom_36 rfl (lv_at hl 1 rfl) ?_
      refine y_ci h (y_rV (As := [.int a1]) (rest := []) C0 hZ h (c_X5_tooDeep_4 l G Z ad _ h.2 a1 (o24_44 l1 u1) (o24_45 l1 u1)) k_X5_tooDeep q_832 q_18 q_830 kSC_77 rfl rfl rfl hl.1 rfl rfl (Nat.le_of_ble_eq_true rfl) dX5_atom_37 ⟨Nat.le_of_ble_eq_true rfl, Nat.le_of_ble_eq_true rfl⟩ ⟨Nat.le_of_ble_eq_true rfl, Nat.le_of_ble_eq_true rfl⟩) (fun r_129 H locs ws_126 h u_127 p_128 => ?_)
      obtain ⟨e_130, e_131⟩ := p_128
      refine y_if_ne (tgt := 177) C0 dX5_atom_40 (by decide) (fun c_132 => ((o24_34 e_130 e_131 c_132)).elim) (fun c_132 => ?_)
      refine lv_aload_n C0.1 C0.2.1 dX5_atom_43 rfl (lv_at hl 0 rfl) ?_
      refine y_cv h (y_rV (As := []) (rest := []) C0 hZ h (c_X5_advance l G Z ad _ h.2) k_X5_advance q_616 q_0 q_614 kSC_77 rfl rfl rfl hl.1 rfl rfl (Nat.le_of_ble_eq_true rfl) dX5_atom_44 ⟨Nat.le_of_ble_eq_true rfl, Nat.le_of_ble_eq_true rfl⟩ ⟨Nat.le_of_ble_eq_true rfl, Nat.le_of_ble_eq_true rfl⟩) (fun H locs ws_133 h u_134 p_135 => ?_)
      refine lv_aload_n C0.1 C0.2.1 dX5_atom_47 rfl (lv_at hl 0 rfl) ?_
      refine lv_iload_n C0.1 C0.2.1 dX5_atom_48 rfl (lv_at hl 1 rfl) ?_
      refine y_c1 (n := 1) C0 (by decide) dX5_atom_49 (fun v_136 e_137 => ?_)
      refine y_add C0 (o24_46 l1 u1 e_137 (le_min a1) (le_max a1) (le_min v_136) (le_max v_136)) (o24_47 l1 u1 e_137 (le_min a1) (le_max a1) (le_min v_136) (le_max v_136)) dX5_atom_50 (fun v_138 e_139 => ?_)
      refine y_cv h (y_rV (As := [.int v_138]) (rest := []) C0 hZ h (c_X5_sum_5 l G Z ad _ h.2 v_138 (o24_48 l1 u1 e_137 e_139) (o24_49 l1 u1 e_137 e_139)) k_X5_sum q_816 q_15 q_814 kSC_77 rfl rfl rfl hl.1 rfl rfl (Nat.le_of_ble_eq_true rfl) dX5_atom_51 ⟨Nat.le_of_ble_eq_true rfl, Nat.le_of_ble_eq_true rfl⟩ ⟨Nat.le_of_ble_eq_true rfl, Nat.le_of_ble_eq_true rfl⟩) (fun H locs ws_140 h u_141 p_142 => ?_)
      refine lv_aload_n C0.1 C0.2.1 dX5_atom_54 rfl (lv_at hl 0 rfl) ?_
      refine y_c2 (n := 41) C0 (by decide) dX5_atom_55 (fun v_143 e_144 => ?_)
      refine y_cv h (y_rV (As := [.int v_143]) (rest := []) C0 hZ h (c_X5_sign l G Z ad _ h.2 v_143 (o24_39 e_144) (o24_40 e_144)) k_X5_sign q_812 q_14 q_810 kSC_77 rfl rfl rfl hl.1 rfl rfl (Nat.le_of_ble_eq_true rfl) dX5_atom_57 ⟨Nat.le_of_ble_eq_true rfl, Nat.le_of_ble_eq_true rfl⟩ ⟨Nat.le_of_ble_eq_true rfl, Nat.le_of_ble_eq_true rfl⟩) (fun H locs ws_145 h u_146 p_147 => ?_)
      refine lv_goto (tgt := 177) C0.1 C0.2.1 dX5_atom_60 (by decide) ?_
      rw [hQ]
      exact y_vret C0 h (Fr.tr (Fr.tr (Fr.tr (Fr.mono u_127 (by decide)) (Fr.mono u_134 (by decide))) u_141) (Fr.mono u_146 (by decide))) trivial dX5_atom_177
  · -- 5
    refine lv_aload_n C0.1 C0.2.1 dX5_atom_8 rfl (lv_at hl 0 rfl) ?_
    refine tg_X5_law C0 h kSC_77 q_380 dX5_atom_9 (fun i_148 hi_148 => ?_)
    refine lv_aload_n C0.1 C0.2.1 dX5_atom_12 rfl (lv_at hl 0 rfl) ?_
    refine tg_X5_number C0 h kSC_77 q_377 dX5_atom_13 (fun v_149 e_150 e_151 e_152 => ?_)
    refine y_cv h (y_rV (As := [.int v_149]) (rest := []) C0 hZ h (c_X4_add l G Z ad _ h.2 i_148 hi_148 v_149) k_X4_add q_827 q_828 q_826 hi_148 rfl rfl rfl hl.1 rfl rfl (Nat.le_of_ble_eq_true rfl) dX5_atom_16 ⟨Nat.le_of_ble_eq_true rfl, Nat.le_of_ble_eq_true rfl⟩ ⟨Nat.le_of_ble_eq_true rfl, Nat.le_of_ble_eq_true rfl⟩) (fun H locs ws_153 h u_154 p_155 => ?_)
    refine lv_aload_n C0.1 C0.2.1 dX5_atom_19 rfl (lv_at hl 0 rfl) ?_
    refine y_cv h (y_rV (As := []) (rest := []) C0 hZ h (c_X5_advance l G Z ad _ h.2) k_X5_advance q_616 q_0 q_614 kSC_77 rfl rfl rfl hl.1 rfl rfl (Nat.le_of_ble_eq_true rfl) dX5_atom_20 ⟨Nat.le_of_ble_eq_true rfl, Nat.le_of_ble_eq_true rfl⟩ ⟨Nat.le_of_ble_eq_true rfl, Nat.le_of_ble_eq_true rfl⟩) (fun H locs ws_156 h u_157 p_158 => ?_)
    refine lv_goto (tgt := 177) C0.1 C0.2.1 dX5_atom_23 (by decide) ?_
    rw [hQ]
    exact y_vret C0 h (Fr.tr (Fr.mono u_154 (by decide)) (Fr.mono u_157 (by decide))) trivial dX5_atom_177
set_option maxHeartbeats 4000000 in
set_option maxRecDepth 100000 in
theorem c_X5_term_4 (l : Launch) (G : GG) (Z : RZ) (ad : Nat → Nat) (ws0 : va_W) (hT : Ty G (SC tt) ad ws0) (a1 : Int32) (l1 : 4 ≤ a1.toInt) (u1 : a1.toInt ≤ 4) : Mq l yX5_term cX5_term 3 none 13 G Z [.ref (ad 77), .int a1] ws0 (PV G (SC tt) ad [2, 3, 16] ws0 (fun u => True)) := by
  refine Mq.start (by decide) (Nat.le_of_ble_eq_true rfl) ?_
  intro p e s m below meth c A ls C0 hZ h hl
  have hl : lv_has ls 3 [(0, .ref (ad 77)), (1, .int a1)] := hl
  have h : Wt G (SC tt) ad A s s.heap [] ws0 := ⟨h, hT⟩
  obtain ⟨args, hargs⟩ : ∃ z, z = ([.ref (ad 77), .int a1] : List Value).toArray := ⟨_, rfl⟩
  rw [← hargs] at C0 ⊢
  have C0 : Cx p s m args meth c RX5 cX5_term 3 none := C0
  obtain ⟨Q, hQ⟩ : ∃ z, z = MQ below ((PV G (SC tt) ad [2, 3, 16] ws0 (fun u => True)) A) args s 0 0 A := ⟨_, rfl⟩
  rw [← hQ]
  refine lv_aload_n C0.1 C0.2.1 dX5_term_0 rfl (lv_at hl 0 rfl) ?_
  refine lv_iload_n C0.1 C0.2.1 dX5_term_1 rfl (lv_at hl 1 rfl) ?_
  refine y_cv h (y_rV (As := [.int a1]) (rest := []) C0 hZ h (c_X5_atom_4 l G Z ad _ h.2 a1 (o24_44 l1 u1) (o24_45 l1 u1)) k_X5_atom q_824 q_17 q_822 kSC_77 rfl rfl rfl hl.1 rfl rfl (Nat.le_of_ble_eq_true rfl) dX5_term_2 ⟨Nat.le_of_ble_eq_true rfl, Nat.le_of_ble_eq_true rfl⟩ ⟨Nat.le_of_ble_eq_true rfl, Nat.le_of_ble_eq_true rfl⟩) (fun H locs ws_1 h u_2 p_3 => ?_)
  refine y_c1 (n := 0) C0 (by decide) dX5_term_5 (fun v_4 e_5 => ?_)
  refine lv_istore_n (lv' := [(2, .int v_4), (0, .ref (ad 77)), (1, .int a1)]) C0.1 C0.2.1 dX5_term_6 rfl hl (by decide) rfl (fun ls hl => ?_)
  have lp_9 : ∀ (n_11 : Nat) (x2_6 : Int32) (H : Heap) (locs : List Loc) (ls : Array Slot) (ws_7 : va_W), 900 - x2_6.toInt < (n_11 : Int) → 0 ≤ x2_6.toInt → x2_6.toInt ≤ 900 → Wt G (SC tt) ad A s H locs ws_7 → Fr (SC tt) [2, 3, 16] ws_1 ws_7 → lv_has ls 3 [(2, .int x2_6), (0, .ref (ad 77)), (1, .int a1)] → W p l e (rmd 13 0 0) s m args below meth c H locs 0 0 Q (F0 m 7 ls []) := by
    intro n_11
    induction n_11 with
    | zero => intro x2_6 H locs ls ws_7 hn_12 b_13 b_14 h hF_8 hl; exact ((o24_15 b_13 b_14 hn_12)).elim
    | succ n_11 ih_10 =>
      intro x2_6 H locs ls ws_7 hn_12 b_13 b_14 h hF_8 hl
      refine lv_iload_n C0.1 C0.2.1 dX5_term_7 rfl (lv_at hl 0 rfl) ?_
      refine y_c3 (n := 900) C0 (by decide) dX5_term_8 (fun v_15 e_16 => ?_)
      refine y_icmp_ge (tgt := 48) C0 dX5_term_11 (by decide) (fun c_17 => ?_) (fun c_17 => ?_)
      · -- 11
        rw [hQ]
        exact y_vret C0 h (Fr.tr u_2 hF_8) trivial dX5_term_48
      · -- 11
        refine lv_aload_n C0.1 C0.2.1 dX5_term_14 rfl (lv_at hl 1 rfl) ?_
        refine tg_X5_kind C0 h kSC_77 q_374 dX5_term_15 (fun v_18 e_19 e_20 e_21 => ?_)
        refine y_c2 (n := 42) C0 (by decide) dX5_term_18 (fun v_22 e_23 => ?_)
        refine y_icmp_ne (tgt := 48) C0 dX5_term_20 (by decide) (fun c_24 => ?_) (fun c_24 => ?_)
        · -- 20
          rw [hQ]
          exact y_vret C0 h (Fr.tr u_2 hF_8) trivial dX5_term_48
        · -- 20
          refine lv_aload_n C0.1 C0.2.1 dX5_term_23 rfl (lv_at hl 1 rfl) ?_
          refine y_cv h (y_rV (As := []) (rest := []) C0 hZ h (c_X5_advance l G Z ad _ h.2) k_X5_advance q_616 q_0 q_614 kSC_77 rfl rfl rfl hl.1 rfl rfl (Nat.le_of_ble_eq_true rfl) dX5_term_24 ⟨Nat.le_of_ble_eq_true rfl, Nat.le_of_ble_eq_true rfl⟩ ⟨Nat.le_of_ble_eq_true rfl, Nat.le_of_ble_eq_true rfl⟩) (fun H locs ws_25 h u_26 p_27 => ?_)
          refine lv_aload_n C0.1 C0.2.1 dX5_term_27 rfl (lv_at hl 1 rfl) ?_
          refine lv_iload_n C0.1 C0.2.1 dX5_term_28 rfl (lv_at hl 2 rfl) ?_
          refine y_cv h (y_rV (As := [.int a1]) (rest := []) C0 hZ h (c_X5_atom_4 l G Z ad _ h.2 a1 (o24_44 l1 u1) (o24_45 l1 u1)) k_X5_atom q_824 q_17 q_822 kSC_77 rfl rfl rfl hl.1 rfl rfl (Nat.le_of_ble_eq_true rfl) dX5_term_29 ⟨Nat.le_of_ble_eq_true rfl, Nat.le_of_ble_eq_true rfl⟩ ⟨Nat.le_of_ble_eq_true rfl, Nat.le_of_ble_eq_true rfl⟩) (fun H locs ws_28 h u_29 p_30 => ?_)
          refine lv_aload_n C0.1 C0.2.1 dX5_term_32 rfl (lv_at hl 1 rfl) ?_
          refine tg_X5_law C0 h kSC_77 q_380 dX5_term_33 (fun i_31 hi_31 => ?_)
          refine y_c3 (n := 2002) C0 (by decide) dX5_term_36 (fun v_32 e_33 => ?_)
          refine y_cv h (y_rV (As := [.int v_32]) (rest := []) C0 hZ h (c_X4_add l G Z ad _ h.2 i_31 hi_31 v_32) k_X4_add q_827 q_828 q_826 hi_31 rfl rfl rfl hl.1 rfl rfl (Nat.le_of_ble_eq_true rfl) dX5_term_39 ⟨Nat.le_of_ble_eq_true rfl, Nat.le_of_ble_eq_true rfl⟩ ⟨Nat.le_of_ble_eq_true rfl, Nat.le_of_ble_eq_true rfl⟩) (fun H locs ws_34 h u_35 p_36 => ?_)
          refine y_inc (kp := 0) (n := 1) (fun v_37 => [(2, .int v_37), (0, .ref (ad 77)), (1, .int a1)]) C0 hl rfl (by decide) (by decide) (fun _ => rfl) (o24_16 b_13 b_14 hn_12 e_16 c_17 (le_min x2_6) (le_max x2_6) (le_min v_15) (le_max v_15)) (o24_17 b_13 b_14 hn_12 e_16 c_17 (le_min x2_6) (le_max x2_6) (le_min v_15) (le_max v_15)) dX5_term_42 (fun v_37 ls e_38 hl => ?_)
          refine lv_goto (tgt := 7) C0.1 C0.2.1 dX5_term_45 (by decide) ?_
          exact ih_10 v_37 _ _ _ _ (o24_18 b_13 b_14 hn_12 e_16 c_17 e_38) (o24_19 b_13 b_14 hn_12 e_16 c_17 e_38) (o24_20 b_13 b_14 hn_12 e_16 c_17 e_38) h (Fr.tr (Fr.tr (Fr.tr hF_8 (Fr.mono u_26 (by decide))) u_29) (Fr.mono u_35 (by decide))) (lv_sub hl [0, 1, 2] rfl)
  exact lp_9 ((900 - v_4.toInt + 1).toNat) v_4 _ _ _ _ (o24_21 e_5) (o24_22 e_5) (o24_23 e_5) h Fr.rf (lv_sub hl [0, 1, 2] rfl)
set_option maxHeartbeats 4000000 in
set_option maxRecDepth 100000 in
theorem c_X5_sum_4 (l : Launch) (G : GG) (Z : RZ) (ad : Nat → Nat) (ws0 : va_W) (hT : Ty G (SC tt) ad ws0) (a1 : Int32) (l1 : 4 ≤ a1.toInt) (u1 : a1.toInt ≤ 4) : Mq l yX5_sum cX5_sum 4 none 14 G Z [.ref (ad 77), .int a1] ws0 (PV G (SC tt) ad [2, 3, 16] ws0 (fun u => True)) := by
  refine Mq.start (by decide) (Nat.le_of_ble_eq_true rfl) ?_
  intro p e s m below meth c A ls C0 hZ h hl
  have hl : lv_has ls 4 [(0, .ref (ad 77)), (1, .int a1)] := hl
  have h : Wt G (SC tt) ad A s s.heap [] ws0 := ⟨h, hT⟩
  obtain ⟨args, hargs⟩ : ∃ z, z = ([.ref (ad 77), .int a1] : List Value).toArray := ⟨_, rfl⟩
  rw [← hargs] at C0 ⊢
  have C0 : Cx p s m args meth c RX5 cX5_sum 4 none := C0
  obtain ⟨Q, hQ⟩ : ∃ z, z = MQ below ((PV G (SC tt) ad [2, 3, 16] ws0 (fun u => True)) A) args s 0 0 A := ⟨_, rfl⟩
  rw [← hQ]
  refine lv_aload_n C0.1 C0.2.1 dX5_sum_0 rfl (lv_at hl 0 rfl) ?_
  refine lv_iload_n C0.1 C0.2.1 dX5_sum_1 rfl (lv_at hl 1 rfl) ?_
  refine y_cv h (y_rV (As := [.int a1]) (rest := []) C0 hZ h (c_X5_term_4 l G Z ad _ h.2 a1 (o24_44 l1 u1) (o24_45 l1 u1)) k_X5_term q_820 q_16 q_818 kSC_77 rfl rfl rfl hl.1 rfl rfl (Nat.le_of_ble_eq_true rfl) dX5_sum_2 ⟨Nat.le_of_ble_eq_true rfl, Nat.le_of_ble_eq_true rfl⟩ ⟨Nat.le_of_ble_eq_true rfl, Nat.le_of_ble_eq_true rfl⟩) (fun H locs ws_1 h u_2 p_3 => ?_)
  refine y_c1 (n := 0) C0 (by decide) dX5_sum_5 (fun v_4 e_5 => ?_)
  refine lv_istore_n (lv' := [(2, .int v_4), (0, .ref (ad 77)), (1, .int a1)]) C0.1 C0.2.1 dX5_sum_6 rfl hl (by decide) rfl (fun ls hl => ?_)
  have lp_9 : ∀ (n_11 : Nat) (x2_6 : Int32) (H : Heap) (locs : List Loc) (ls : Array Slot) (ws_7 : va_W), 900 - x2_6.toInt < (n_11 : Int) → 0 ≤ x2_6.toInt → x2_6.toInt ≤ 900 → Wt G (SC tt) ad A s H locs ws_7 → Fr (SC tt) [2, 3, 16] ws_1 ws_7 → lv_has ls 4 [(2, .int x2_6), (0, .ref (ad 77)), (1, .int a1)] → W p l e (rmd 14 0 0) s m args below meth c H locs 0 0 Q (F0 m 7 ls []) := by
    intro n_11
    induction n_11 with
    | zero => intro x2_6 H locs ls ws_7 hn_12 b_13 b_14 h hF_8 hl; exact ((o24_15 b_13 b_14 hn_12)).elim
    | succ n_11 ih_10 =>
      intro x2_6 H locs ls ws_7 hn_12 b_13 b_14 h hF_8 hl
      refine lv_iload_n C0.1 C0.2.1 dX5_sum_7 rfl (lv_at hl 0 rfl) ?_
      refine y_c3 (n := 900) C0 (by decide) dX5_sum_8 (fun v_15 e_16 => ?_)
      refine y_icmp_ge (tgt := 74) C0 dX5_sum_11 (by decide) (fun c_17 => ?_) (fun c_17 => ?_)
      · -- 11
        rw [hQ]
        exact y_vret C0 h (Fr.tr u_2 hF_8) trivial dX5_sum_74
      · -- 11
        refine lv_aload_n C0.1 C0.2.1 dX5_sum_14 rfl (lv_at hl 1 rfl) ?_
        refine tg_X5_kind C0 h kSC_77 q_374 dX5_sum_15 (fun v_18 e_19 e_20 e_21 => ?_)
        refine y_c2 (n := 43) C0 (by decide) dX5_sum_18 (fun v_22 e_23 => ?_)
        refine y_icmp_eq (tgt := 32) C0 dX5_sum_20 (by decide) (fun c_24 => ?_) (fun c_24 => ?_)
        · -- 20
          refine lv_aload_n C0.1 C0.2.1 dX5_sum_32 rfl (lv_at hl 1 rfl) ?_
          refine tg_X5_kind C0 h kSC_77 q_374 dX5_sum_33 (fun v_25 e_26 e_27 e_28 => ?_)
          have q_29 : v_25.toInt = v_18.toInt := congrArg Int32.toInt (e_26.symm.trans (Eq.trans rfl e_19))
          refine y_c2 (n := 43) C0 (by decide) dX5_sum_36 (fun v_30 e_31 => ?_)
          refine y_icmp_ne (tgt := 47) C0 dX5_sum_38 (by decide) (fun c_32 => ((o24_24 e_23 c_24 q_29 e_31 c_32)).elim) (fun c_32 => ?_)
          refine y_c3 (n := 2000) C0 (by decide) dX5_sum_41 (fun v_33 e_34 => ?_)
          refine lv_goto (tgt := 50) C0.1 C0.2.1 dX5_sum_44 (by decide) ?_
          refine lv_istore_n (lv' := [(3, .int v_33), (2, .int x2_6), (0, .ref (ad 77)), (1, .int a1)]) C0.1 C0.2.1 dX5_sum_50 rfl hl (by decide) rfl (fun ls hl => ?_)
          refine lv_aload_n C0.1 C0.2.1 dX5_sum_51 rfl (lv_at hl 2 rfl) ?_
          refine y_cv h (y_rV (As := []) (rest := []) C0 hZ h (c_X5_advance l G Z ad _ h.2) k_X5_advance q_616 q_0 q_614 kSC_77 rfl rfl rfl hl.1 rfl rfl (Nat.le_of_ble_eq_true rfl) dX5_sum_52 ⟨Nat.le_of_ble_eq_true rfl, Nat.le_of_ble_eq_true rfl⟩ ⟨Nat.le_of_ble_eq_true rfl, Nat.le_of_ble_eq_true rfl⟩) (fun H locs ws_35 h u_36 p_37 => ?_)
          refine lv_aload_n C0.1 C0.2.1 dX5_sum_55 rfl (lv_at hl 2 rfl) ?_
          refine lv_iload_n C0.1 C0.2.1 dX5_sum_56 rfl (lv_at hl 3 rfl) ?_
          refine y_cv h (y_rV (As := [.int a1]) (rest := []) C0 hZ h (c_X5_term_4 l G Z ad _ h.2 a1 (o24_44 l1 u1) (o24_45 l1 u1)) k_X5_term q_820 q_16 q_818 kSC_77 rfl rfl rfl hl.1 rfl rfl (Nat.le_of_ble_eq_true rfl) dX5_sum_57 ⟨Nat.le_of_ble_eq_true rfl, Nat.le_of_ble_eq_true rfl⟩ ⟨Nat.le_of_ble_eq_true rfl, Nat.le_of_ble_eq_true rfl⟩) (fun H locs ws_38 h u_39 p_40 => ?_)
          refine lv_aload_n C0.1 C0.2.1 dX5_sum_60 rfl (lv_at hl 2 rfl) ?_
          refine tg_X5_law C0 h kSC_77 q_380 dX5_sum_61 (fun i_41 hi_41 => ?_)
          refine lv_iload_n C0.1 C0.2.1 dX5_sum_64 rfl (lv_at hl 0 rfl) ?_
          refine y_cv h (y_rV (As := [.int v_33]) (rest := []) C0 hZ h (c_X4_add l G Z ad _ h.2 i_41 hi_41 v_33) k_X4_add q_827 q_828 q_826 hi_41 rfl rfl rfl hl.1 rfl rfl (Nat.le_of_ble_eq_true rfl) dX5_sum_65 ⟨Nat.le_of_ble_eq_true rfl, Nat.le_of_ble_eq_true rfl⟩ ⟨Nat.le_of_ble_eq_true rfl, Nat.le_of_ble_eq_true rfl⟩) (fun H locs ws_42 h u_43 p_44 => ?_)
          refine y_inc (kp := 1) (n := 1) (fun v_45 => [(2, .int v_45), (3, .int v_33), (0, .ref (ad 77)), (1, .int a1)]) C0 hl rfl (by decide) (by decide) (fun _ => rfl) (o24_16 b_13 b_14 hn_12 e_16 c_17 (le_min x2_6) (le_max x2_6) (le_min v_15) (le_max v_15)) (o24_17 b_13 b_14 hn_12 e_16 c_17 (le_min x2_6) (le_max x2_6) (le_min v_15) (le_max v_15)) dX5_sum_68 (fun v_45 ls e_46 hl => ?_)
          refine lv_goto (tgt := 7) C0.1 C0.2.1 dX5_sum_71 (by decide) ?_
          exact ih_10 v_45 _ _ _ _ (o24_18 b_13 b_14 hn_12 e_16 c_17 e_46) (o24_19 b_13 b_14 hn_12 e_16 c_17 e_46) (o24_20 b_13 b_14 hn_12 e_16 c_17 e_46) h (Fr.tr (Fr.tr (Fr.tr hF_8 (Fr.mono u_36 (by decide))) u_39) (Fr.mono u_43 (by decide))) (lv_sub hl [0, 2, 3] rfl)
        · -- 20
          refine lv_aload_n C0.1 C0.2.1 dX5_sum_23 rfl (lv_at hl 1 rfl) ?_
          refine tg_X5_kind C0 h kSC_77 q_374 dX5_sum_24 (fun v_47 e_48 e_49 e_50 => ?_)
          have q_51 : v_47.toInt = v_18.toInt := congrArg Int32.toInt (e_48.symm.trans (Eq.trans rfl e_19))
          refine y_c2 (n := 45) C0 (by decide) dX5_sum_27 (fun v_52 e_53 => ?_)
          refine y_icmp_ne (tgt := 74) C0 dX5_sum_29 (by decide) (fun c_54 => ?_) (fun c_54 => ?_)
          · -- 29
            rw [hQ]
            exact y_vret C0 h (Fr.tr u_2 hF_8) trivial dX5_sum_74
          · -- 29
            refine lv_aload_n C0.1 C0.2.1 dX5_sum_32 rfl (lv_at hl 1 rfl) ?_
            refine tg_X5_kind C0 h kSC_77 q_374 dX5_sum_33 (fun v_55 e_56 e_57 e_58 => ?_)
            have q_59 : v_55.toInt = v_18.toInt := congrArg Int32.toInt (e_56.symm.trans (Eq.trans rfl e_19))
            refine y_c2 (n := 43) C0 (by decide) dX5_sum_36 (fun v_60 e_61 => ?_)
            refine y_icmp_ne (tgt := 47) C0 dX5_sum_38 (by decide) (fun c_62 => ?_) (fun c_62 => ((o24_25 e_23 c_24 q_51 e_53 c_54 q_59 e_61 c_62)).elim)
            refine y_c3 (n := 2001) C0 (by decide) dX5_sum_47 (fun v_63 e_64 => ?_)
            refine lv_istore_n (lv' := [(3, .int v_63), (2, .int x2_6), (0, .ref (ad 77)), (1, .int a1)]) C0.1 C0.2.1 dX5_sum_50 rfl hl (by decide) rfl (fun ls hl => ?_)
            refine lv_aload_n C0.1 C0.2.1 dX5_sum_51 rfl (lv_at hl 2 rfl) ?_
            refine y_cv h (y_rV (As := []) (rest := []) C0 hZ h (c_X5_advance l G Z ad _ h.2) k_X5_advance q_616 q_0 q_614 kSC_77 rfl rfl rfl hl.1 rfl rfl (Nat.le_of_ble_eq_true rfl) dX5_sum_52 ⟨Nat.le_of_ble_eq_true rfl, Nat.le_of_ble_eq_true rfl⟩ ⟨Nat.le_of_ble_eq_true rfl, Nat.le_of_ble_eq_true rfl⟩) (fun H locs ws_65 h u_66 p_67 => ?_)
            refine lv_aload_n C0.1 C0.2.1 dX5_sum_55 rfl (lv_at hl 2 rfl) ?_
            refine lv_iload_n C0.1 C0.2.1 dX5_sum_56 rfl (lv_at hl 3 rfl) ?_
            refine y_cv h (y_rV (As := [.int a1]) (rest := []) C0 hZ h (c_X5_term_4 l G Z ad _ h.2 a1 (o24_44 l1 u1) (o24_45 l1 u1)) k_X5_term q_820 q_16 q_818 kSC_77 rfl rfl rfl hl.1 rfl rfl (Nat.le_of_ble_eq_true rfl) dX5_sum_57 ⟨Nat.le_of_ble_eq_true rfl, Nat.le_of_ble_eq_true rfl⟩ ⟨Nat.le_of_ble_eq_true rfl, Nat.le_of_ble_eq_true rfl⟩) (fun H locs ws_68 h u_69 p_70 => ?_)
            refine lv_aload_n C0.1 C0.2.1 dX5_sum_60 rfl (lv_at hl 2 rfl) ?_
            refine tg_X5_law C0 h kSC_77 q_380 dX5_sum_61 (fun i_71 hi_71 => ?_)
            refine lv_iload_n C0.1 C0.2.1 dX5_sum_64 rfl (lv_at hl 0 rfl) ?_
            refine y_cv h (y_rV (As := [.int v_63]) (rest := []) C0 hZ h (c_X4_add l G Z ad _ h.2 i_71 hi_71 v_63) k_X4_add q_827 q_828 q_826 hi_71 rfl rfl rfl hl.1 rfl rfl (Nat.le_of_ble_eq_true rfl) dX5_sum_65 ⟨Nat.le_of_ble_eq_true rfl, Nat.le_of_ble_eq_true rfl⟩ ⟨Nat.le_of_ble_eq_true rfl, Nat.le_of_ble_eq_true rfl⟩) (fun H locs ws_72 h u_73 p_74 => ?_)
            refine y_inc (kp := 1) (n := 1) (fun v_75 => [(2, .int v_75), (3, .int v_63), (0, .ref (ad 77)), (1, .int a1)]) C0 hl rfl (by decide) (by decide) (fun _ => rfl) (o24_16 b_13 b_14 hn_12 e_16 c_17 (le_min x2_6) (le_max x2_6) (le_min v_15) (le_max v_15)) (o24_17 b_13 b_14 hn_12 e_16 c_17 (le_min x2_6) (le_max x2_6) (le_min v_15) (le_max v_15)) dX5_sum_68 (fun v_75 ls e_76 hl => ?_)
            refine lv_goto (tgt := 7) C0.1 C0.2.1 dX5_sum_71 (by decide) ?_
            exact ih_10 v_75 _ _ _ _ (o24_18 b_13 b_14 hn_12 e_16 c_17 e_76) (o24_19 b_13 b_14 hn_12 e_16 c_17 e_76) (o24_20 b_13 b_14 hn_12 e_16 c_17 e_76) h (Fr.tr (Fr.tr (Fr.tr hF_8 (Fr.mono u_66 (by decide))) u_69) (Fr.mono u_73 (by decide))) (lv_sub hl [0, 2, 3] rfl)
  exact lp_9 ((900 - v_4.toInt + 1).toNat) v_4 _ _ _ _ (o24_21 e_5) (o24_22 e_5) (o24_23 e_5) h Fr.rf (lv_sub hl [0, 1, 2] rfl)
set_option maxHeartbeats 4000000 in
set_option maxRecDepth 100000 in
theorem c_X5_unit_4 (l : Launch) (G : GG) (Z : RZ) (ad : Nat → Nat) (ws0 : va_W) (hT : Ty G (SC tt) ad ws0) (a1 : Int32) (l1 : 4 ≤ a1.toInt) (u1 : a1.toInt ≤ 4) : Mq l yX5_unit cX5_unit 3 none 15 G Z [.ref (ad 77), .int a1] ws0 (PV G (SC tt) ad [2, 3, 16] ws0 (fun u => True)) := by
  refine Mq.start (by decide) (Nat.le_of_ble_eq_true rfl) ?_
  intro p e s m below meth c A ls C0 hZ h hl
  have hl : lv_has ls 3 [(0, .ref (ad 77)), (1, .int a1)] := hl
  have h : Wt G (SC tt) ad A s s.heap [] ws0 := ⟨h, hT⟩
  obtain ⟨args, hargs⟩ : ∃ z, z = ([.ref (ad 77), .int a1] : List Value).toArray := ⟨_, rfl⟩
  rw [← hargs] at C0 ⊢
  have C0 : Cx p s m args meth c RX5 cX5_unit 3 none := C0
  obtain ⟨Q, hQ⟩ : ∃ z, z = MQ below ((PV G (SC tt) ad [2, 3, 16] ws0 (fun u => True)) A) args s 0 0 A := ⟨_, rfl⟩
  rw [← hQ]
  refine lv_aload_n C0.1 C0.2.1 dX5_unit_0 rfl (lv_at hl 0 rfl) ?_
  refine va_ldcS C0.1 C0.2.1 C0.2.2.2.1 (sr_19 hZ) dX5_unit_1 ?_
  refine y_ci h (y_rV (As := [.ref (Z.2.1 19)]) (rest := []) C0 hZ h (c_X5_isWord l G Z ad _ h.2 19 (by decide)) k_X5_isWord q_724 q_5 q_722 kSC_77 rfl rfl rfl hl.1 rfl rfl (Nat.le_of_ble_eq_true rfl) dX5_unit_3 ⟨Nat.le_of_ble_eq_true rfl, Nat.le_of_ble_eq_true rfl⟩ ⟨Nat.le_of_ble_eq_true rfl, Nat.le_of_ble_eq_true rfl⟩) (fun r_4 H locs ws_1 h u_2 p_3 => ?_)
  obtain ⟨e_5, e_6⟩ := p_3
  refine y_if_eq (tgt := 49) C0 dX5_unit_6 (by decide) (fun c_7 => ?_) (fun c_7 => ?_)
  · -- 6
    refine lv_aload_n C0.1 C0.2.1 dX5_unit_49 rfl (lv_at hl 0 rfl) ?_
    refine tg_X5_kind C0 h kSC_77 q_374 dX5_unit_50 (fun v_8 e_9 e_10 e_11 => ?_)
    refine y_c2 (n := 91) C0 (by decide) dX5_unit_53 (fun v_12 e_13 => ?_)
    refine y_icmp_ne (tgt := 86) C0 dX5_unit_55 (by decide) (fun c_14 => ?_) (fun c_14 => ?_)
    · -- 55
      refine lv_aload_n C0.1 C0.2.1 dX5_unit_86 rfl (lv_at hl 0 rfl) ?_
      refine lv_iload_n C0.1 C0.2.1 dX5_unit_87 rfl (lv_at hl 1 rfl) ?_
      refine y_cv h (y_rV (As := [.int a1]) (rest := []) C0 hZ h (c_X5_sum_4 l G Z ad _ h.2 a1 (o24_44 l1 u1) (o24_45 l1 u1)) k_X5_sum q_816 q_15 q_814 kSC_77 rfl rfl rfl hl.1 rfl rfl (Nat.le_of_ble_eq_true rfl) dX5_unit_88 ⟨Nat.le_of_ble_eq_true rfl, Nat.le_of_ble_eq_true rfl⟩ ⟨Nat.le_of_ble_eq_true rfl, Nat.le_of_ble_eq_true rfl⟩) (fun H locs ws_15 h u_16 p_17 => ?_)
      refine lv_aload_n C0.1 C0.2.1 dX5_unit_91 rfl (lv_at hl 0 rfl) ?_
      refine tg_X5_kind C0 h kSC_77 q_374 dX5_unit_92 (fun v_18 e_19 e_20 e_21 => ?_)
      refine y_c2 (n := 61) C0 (by decide) dX5_unit_95 (fun v_22 e_23 => ?_)
      refine y_icmp_ne (tgt := 106) C0 dX5_unit_97 (by decide) (fun c_24 => ?_) (fun c_24 => ?_)
      · -- 97
        refine lv_aload_n C0.1 C0.2.1 dX5_unit_106 rfl (lv_at hl 0 rfl) ?_
        refine tg_X5_kind C0 h kSC_77 q_374 dX5_unit_107 (fun v_25 e_26 e_27 e_28 => ?_)
        have q_29 : v_25.toInt = v_18.toInt := congrArg Int32.toInt (e_26.symm.trans (Eq.trans rfl e_19))
        refine y_c2 (n := 60) C0 (by decide) dX5_unit_110 (fun v_30 e_31 => ?_)
        refine y_icmp_ne (tgt := 121) C0 dX5_unit_112 (by decide) (fun c_32 => ?_) (fun c_32 => ?_)
        · -- 112
          refine lv_aload_n C0.1 C0.2.1 dX5_unit_121 rfl (lv_at hl 0 rfl) ?_
          refine tg_X5_kind C0 h kSC_77 q_374 dX5_unit_122 (fun v_33 e_34 e_35 e_36 => ?_)
          have q_37 : v_33.toInt = v_18.toInt := congrArg Int32.toInt (e_34.symm.trans (Eq.trans rfl e_19))
          refine y_c2 (n := 62) C0 (by decide) dX5_unit_125 (fun v_38 e_39 => ?_)
          refine y_icmp_ne (tgt := 136) C0 dX5_unit_127 (by decide) (fun c_40 => ?_) (fun c_40 => ?_)
          · -- 127
            refine y_c1 (n := (-1)) C0 (by decide) dX5_unit_136 (fun v_41 e_42 => ?_)
            refine lv_istore_n (lv' := [(2, .int v_41), (0, .ref (ad 77)), (1, .int a1)]) C0.1 C0.2.1 dX5_unit_137 rfl hl (by decide) rfl (fun ls hl => ?_)
            refine lv_iload_n C0.1 C0.2.1 dX5_unit_138 rfl (lv_at hl 0 rfl) ?_
            refine y_if_ge (tgt := 148) C0 dX5_unit_139 (by decide) (fun c_43 => ((o24_5 e_42 c_43)).elim) (fun c_43 => ?_)
            refine lv_aload_n C0.1 C0.2.1 dX5_unit_142 rfl (lv_at hl 1 rfl) ?_
            refine y_c1 (n := 2) C0 (by decide) dX5_unit_143 (fun v_44 e_45 => ?_)
            refine y_cv h (y_rV (As := [.int v_44]) (rest := []) C0 hZ h (c_X5_fail l G Z ad _ h.2 v_44) k_X5_fail q_628 q_3 q_626 kSC_77 rfl rfl rfl hl.1 rfl rfl (Nat.le_of_ble_eq_true rfl) dX5_unit_144 ⟨Nat.le_of_ble_eq_true rfl, Nat.le_of_ble_eq_true rfl⟩ ⟨Nat.le_of_ble_eq_true rfl, Nat.le_of_ble_eq_true rfl⟩) (fun H locs ws_46 h u_47 p_48 => ?_)
            rw [hQ]
            exact y_vret C0 h (Fr.tr (Fr.tr (Fr.mono u_2 (by decide)) u_16) (Fr.mono u_47 (by decide))) trivial dX5_unit_147
          · -- 127
            refine y_c3 (n := 2005) C0 (by decide) dX5_unit_130 (fun v_49 e_50 => ?_)
            refine lv_goto (tgt := 137) C0.1 C0.2.1 dX5_unit_133 (by decide) ?_
            refine lv_istore_n (lv' := [(2, .int v_49), (0, .ref (ad 77)), (1, .int a1)]) C0.1 C0.2.1 dX5_unit_137 rfl hl (by decide) rfl (fun ls hl => ?_)
            refine lv_iload_n C0.1 C0.2.1 dX5_unit_138 rfl (lv_at hl 0 rfl) ?_
            refine y_if_ge (tgt := 148) C0 dX5_unit_139 (by decide) (fun c_51 => ?_) (fun c_51 => ((o24_26 e_50 c_51)).elim)
            refine lv_aload_n C0.1 C0.2.1 dX5_unit_148 rfl (lv_at hl 1 rfl) ?_
            refine y_cv h (y_rV (As := []) (rest := []) C0 hZ h (c_X5_advance l G Z ad _ h.2) k_X5_advance q_616 q_0 q_614 kSC_77 rfl rfl rfl hl.1 rfl rfl (Nat.le_of_ble_eq_true rfl) dX5_unit_149 ⟨Nat.le_of_ble_eq_true rfl, Nat.le_of_ble_eq_true rfl⟩ ⟨Nat.le_of_ble_eq_true rfl, Nat.le_of_ble_eq_true rfl⟩) (fun H locs ws_52 h u_53 p_54 => ?_)
            refine lv_aload_n C0.1 C0.2.1 dX5_unit_152 rfl (lv_at hl 1 rfl) ?_
            refine lv_iload_n C0.1 C0.2.1 dX5_unit_153 rfl (lv_at hl 2 rfl) ?_
            refine y_cv h (y_rV (As := [.int a1]) (rest := []) C0 hZ h (c_X5_sum_4 l G Z ad _ h.2 a1 (o24_44 l1 u1) (o24_45 l1 u1)) k_X5_sum q_816 q_15 q_814 kSC_77 rfl rfl rfl hl.1 rfl rfl (Nat.le_of_ble_eq_true rfl) dX5_unit_154 ⟨Nat.le_of_ble_eq_true rfl, Nat.le_of_ble_eq_true rfl⟩ ⟨Nat.le_of_ble_eq_true rfl, Nat.le_of_ble_eq_true rfl⟩) (fun H locs ws_55 h u_56 p_57 => ?_)
            refine lv_aload_n C0.1 C0.2.1 dX5_unit_157 rfl (lv_at hl 1 rfl) ?_
            refine tg_X5_law C0 h kSC_77 q_380 dX5_unit_158 (fun i_58 hi_58 => ?_)
            refine lv_iload_n C0.1 C0.2.1 dX5_unit_161 rfl (lv_at hl 0 rfl) ?_
            refine y_cv h (y_rV (As := [.int v_49]) (rest := []) C0 hZ h (c_X4_add l G Z ad _ h.2 i_58 hi_58 v_49) k_X4_add q_827 q_828 q_826 hi_58 rfl rfl rfl hl.1 rfl rfl (Nat.le_of_ble_eq_true rfl) dX5_unit_162 ⟨Nat.le_of_ble_eq_true rfl, Nat.le_of_ble_eq_true rfl⟩ ⟨Nat.le_of_ble_eq_true rfl, Nat.le_of_ble_eq_true rfl⟩) (fun H locs ws_59 h u_60 p_61 => ?_)
            rw [hQ]
            exact y_vret C0 h (Fr.tr (Fr.tr (Fr.tr (Fr.tr (Fr.mono u_2 (by decide)) u_16) (Fr.mono u_53 (by decide))) u_56) (Fr.mono u_60 (by decide))) trivial dX5_unit_165
        · -- 112
          refine y_c3 (n := 2004) C0 (by decide) dX5_unit_115 (fun v_62 e_63 => ?_)
          refine lv_goto (tgt := 137) C0.1 C0.2.1 dX5_unit_118 (by decide) ?_
          refine lv_istore_n (lv' := [(2, .int v_62), (0, .ref (ad 77)), (1, .int a1)]) C0.1 C0.2.1 dX5_unit_137 rfl hl (by decide) rfl (fun ls hl => ?_)
          refine lv_iload_n C0.1 C0.2.1 dX5_unit_138 rfl (lv_at hl 0 rfl) ?_
          refine y_if_ge (tgt := 148) C0 dX5_unit_139 (by decide) (fun c_64 => ?_) (fun c_64 => ((o24_27 e_63 c_64)).elim)
          refine lv_aload_n C0.1 C0.2.1 dX5_unit_148 rfl (lv_at hl 1 rfl) ?_
          refine y_cv h (y_rV (As := []) (rest := []) C0 hZ h (c_X5_advance l G Z ad _ h.2) k_X5_advance q_616 q_0 q_614 kSC_77 rfl rfl rfl hl.1 rfl rfl (Nat.le_of_ble_eq_true rfl) dX5_unit_149 ⟨Nat.le_of_ble_eq_true rfl, Nat.le_of_ble_eq_true rfl⟩ ⟨Nat.le_of_ble_eq_true rfl, Nat.le_of_ble_eq_true rfl⟩) (fun H locs ws_65 h u_66 p_67 => ?_)
          refine lv_aload_n C0.1 C0.2.1 dX5_unit_152 rfl (lv_at hl 1 rfl) ?_
          refine lv_iload_n C0.1 C0.2.1 dX5_unit_153 rfl (lv_at hl 2 rfl) ?_
          refine y_cv h (y_rV (As := [.int a1]) (rest := []) C0 hZ h (c_X5_sum_4 l G Z ad _ h.2 a1 (o24_44 l1 u1) (o24_45 l1 u1)) k_X5_sum q_816 q_15 q_814 kSC_77 rfl rfl rfl hl.1 rfl rfl (Nat.le_of_ble_eq_true rfl) dX5_unit_154 ⟨Nat.le_of_ble_eq_true rfl, Nat.le_of_ble_eq_true rfl⟩ ⟨Nat.le_of_ble_eq_true rfl, Nat.le_of_ble_eq_true rfl⟩) (fun H locs ws_68 h u_69 p_70 => ?_)
          refine lv_aload_n C0.1 C0.2.1 dX5_unit_157 rfl (lv_at hl 1 rfl) ?_
          refine tg_X5_law C0 h kSC_77 q_380 dX5_unit_158 (fun i_71 hi_71 => ?_)
          refine lv_iload_n C0.1 C0.2.1 dX5_unit_161 rfl (lv_at hl 0 rfl) ?_
          refine y_cv h (y_rV (As := [.int v_62]) (rest := []) C0 hZ h (c_X4_add l G Z ad _ h.2 i_71 hi_71 v_62) k_X4_add q_827 q_828 q_826 hi_71 rfl rfl rfl hl.1 rfl rfl (Nat.le_of_ble_eq_true rfl) dX5_unit_162 ⟨Nat.le_of_ble_eq_true rfl, Nat.le_of_ble_eq_true rfl⟩ ⟨Nat.le_of_ble_eq_true rfl, Nat.le_of_ble_eq_true rfl⟩) (fun H locs ws_72 h u_73 p_74 => ?_)
          rw [hQ]
          exact y_vret C0 h (Fr.tr (Fr.tr (Fr.tr (Fr.tr (Fr.mono u_2 (by decide)) u_16) (Fr.mono u_66 (by decide))) u_69) (Fr.mono u_73 (by decide))) trivial dX5_unit_165
      · -- 97
        refine y_c3 (n := 2003) C0 (by decide) dX5_unit_100 (fun v_75 e_76 => ?_)
        refine lv_goto (tgt := 137) C0.1 C0.2.1 dX5_unit_103 (by decide) ?_
        refine lv_istore_n (lv' := [(2, .int v_75), (0, .ref (ad 77)), (1, .int a1)]) C0.1 C0.2.1 dX5_unit_137 rfl hl (by decide) rfl (fun ls hl => ?_)
        refine lv_iload_n C0.1 C0.2.1 dX5_unit_138 rfl (lv_at hl 0 rfl) ?_
        refine y_if_ge (tgt := 148) C0 dX5_unit_139 (by decide) (fun c_77 => ?_) (fun c_77 => ((o24_28 e_76 c_77)).elim)
        refine lv_aload_n C0.1 C0.2.1 dX5_unit_148 rfl (lv_at hl 1 rfl) ?_
        refine y_cv h (y_rV (As := []) (rest := []) C0 hZ h (c_X5_advance l G Z ad _ h.2) k_X5_advance q_616 q_0 q_614 kSC_77 rfl rfl rfl hl.1 rfl rfl (Nat.le_of_ble_eq_true rfl) dX5_unit_149 ⟨Nat.le_of_ble_eq_true rfl, Nat.le_of_ble_eq_true rfl⟩ ⟨Nat.le_of_ble_eq_true rfl, Nat.le_of_ble_eq_true rfl⟩) (fun H locs ws_78 h u_79 p_80 => ?_)
        refine lv_aload_n C0.1 C0.2.1 dX5_unit_152 rfl (lv_at hl 1 rfl) ?_
        refine lv_iload_n C0.1 C0.2.1 dX5_unit_153 rfl (lv_at hl 2 rfl) ?_
        refine y_cv h (y_rV (As := [.int a1]) (rest := []) C0 hZ h (c_X5_sum_4 l G Z ad _ h.2 a1 (o24_44 l1 u1) (o24_45 l1 u1)) k_X5_sum q_816 q_15 q_814 kSC_77 rfl rfl rfl hl.1 rfl rfl (Nat.le_of_ble_eq_true rfl) dX5_unit_154 ⟨Nat.le_of_ble_eq_true rfl, Nat.le_of_ble_eq_true rfl⟩ ⟨Nat.le_of_ble_eq_true rfl, Nat.le_of_ble_eq_true rfl⟩) (fun H locs ws_81 h u_82 p_83 => ?_)
        refine lv_aload_n C0.1 C0.2.1 dX5_unit_157 rfl (lv_at hl 1 rfl) ?_
        refine tg_X5_law C0 h kSC_77 q_380 dX5_unit_158 (fun i_84 hi_84 => ?_)
        refine lv_iload_n C0.1 C0.2.1 dX5_unit_161 rfl (lv_at hl 0 rfl) ?_
        refine y_cv h (y_rV (As := [.int v_75]) (rest := []) C0 hZ h (c_X4_add l G Z ad _ h.2 i_84 hi_84 v_75) k_X4_add q_827 q_828 q_826 hi_84 rfl rfl rfl hl.1 rfl rfl (Nat.le_of_ble_eq_true rfl) dX5_unit_162 ⟨Nat.le_of_ble_eq_true rfl, Nat.le_of_ble_eq_true rfl⟩ ⟨Nat.le_of_ble_eq_true rfl, Nat.le_of_ble_eq_true rfl⟩) (fun H locs ws_85 h u_86 p_87 => ?_)
        rw [hQ]
        exact y_vret C0 h (Fr.tr (Fr.tr (Fr.tr (Fr.tr (Fr.mono u_2 (by decide)) u_16) (Fr.mono u_79 (by decide))) u_82) (Fr.mono u_86 (by decide))) trivial dX5_unit_165
    · -- 55
      refine lv_aload_n C0.1 C0.2.1 dX5_unit_58 rfl (lv_at hl 0 rfl) ?_
      refine lv_iload_n C0.1 C0.2.1 dX5_unit_59 rfl (lv_at hl 1 rfl) ?_
      refine y_ci h (y_rV (As := [.int a1]) (rest := []) C0 hZ h (c_X5_tooDeep_4 l G Z ad _ h.2 a1 (o24_44 l1 u1) (o24_45 l1 u1)) k_X5_tooDeep q_832 q_18 q_830 kSC_77 rfl rfl rfl hl.1 rfl rfl (Nat.le_of_ble_eq_true rfl) dX5_unit_60 ⟨Nat.le_of_ble_eq_true rfl, Nat.le_of_ble_eq_true rfl⟩ ⟨Nat.le_of_ble_eq_true rfl, Nat.le_of_ble_eq_true rfl⟩) (fun r_91 H locs ws_88 h u_89 p_90 => ?_)
      obtain ⟨e_92, e_93⟩ := p_90
      refine y_if_ne (tgt := 165) C0 dX5_unit_63 (by decide) (fun c_94 => ((o24_34 e_92 e_93 c_94)).elim) (fun c_94 => ?_)
      refine lv_aload_n C0.1 C0.2.1 dX5_unit_66 rfl (lv_at hl 0 rfl) ?_
      refine y_cv h (y_rV (As := []) (rest := []) C0 hZ h (c_X5_advance l G Z ad _ h.2) k_X5_advance q_616 q_0 q_614 kSC_77 rfl rfl rfl hl.1 rfl rfl (Nat.le_of_ble_eq_true rfl) dX5_unit_67 ⟨Nat.le_of_ble_eq_true rfl, Nat.le_of_ble_eq_true rfl⟩ ⟨Nat.le_of_ble_eq_true rfl, Nat.le_of_ble_eq_true rfl⟩) (fun H locs ws_95 h u_96 p_97 => ?_)
      refine lv_aload_n C0.1 C0.2.1 dX5_unit_70 rfl (lv_at hl 0 rfl) ?_
      refine lv_iload_n C0.1 C0.2.1 dX5_unit_71 rfl (lv_at hl 1 rfl) ?_
      refine y_c1 (n := 1) C0 (by decide) dX5_unit_72 (fun v_98 e_99 => ?_)
      refine y_add C0 (o24_46 l1 u1 e_99 (le_min a1) (le_max a1) (le_min v_98) (le_max v_98)) (o24_47 l1 u1 e_99 (le_min a1) (le_max a1) (le_min v_98) (le_max v_98)) dX5_unit_73 (fun v_100 e_101 => ?_)
      refine y_cv h (y_rV (As := [.int v_100]) (rest := []) C0 hZ h (c_X5_truth_5 l G Z ad _ h.2 v_100 (o24_48 l1 u1 e_99 e_101) (o24_49 l1 u1 e_99 e_101)) k_X5_truth q_843 q_19 q_841 kSC_77 rfl rfl rfl hl.1 rfl rfl (Nat.le_of_ble_eq_true rfl) dX5_unit_74 ⟨Nat.le_of_ble_eq_true rfl, Nat.le_of_ble_eq_true rfl⟩ ⟨Nat.le_of_ble_eq_true rfl, Nat.le_of_ble_eq_true rfl⟩) (fun H locs ws_102 h u_103 p_104 => ?_)
      refine lv_aload_n C0.1 C0.2.1 dX5_unit_77 rfl (lv_at hl 0 rfl) ?_
      refine y_c2 (n := 93) C0 (by decide) dX5_unit_78 (fun v_105 e_106 => ?_)
      refine y_cv h (y_rV (As := [.int v_105]) (rest := []) C0 hZ h (c_X5_sign l G Z ad _ h.2 v_105 (o24_41 e_106) (o24_42 e_106)) k_X5_sign q_812 q_14 q_810 kSC_77 rfl rfl rfl hl.1 rfl rfl (Nat.le_of_ble_eq_true rfl) dX5_unit_80 ⟨Nat.le_of_ble_eq_true rfl, Nat.le_of_ble_eq_true rfl⟩ ⟨Nat.le_of_ble_eq_true rfl, Nat.le_of_ble_eq_true rfl⟩) (fun H locs ws_107 h u_108 p_109 => ?_)
      refine lv_goto (tgt := 165) C0.1 C0.2.1 dX5_unit_83 (by decide) ?_
      rw [hQ]
      exact y_vret C0 h (Fr.tr (Fr.tr (Fr.tr (Fr.tr (Fr.mono u_2 (by decide)) (Fr.mono u_89 (by decide))) (Fr.mono u_96 (by decide))) u_103) (Fr.mono u_108 (by decide))) trivial dX5_unit_165
  · -- 6
    refine lv_aload_n C0.1 C0.2.1 dX5_unit_9 rfl (lv_at hl 0 rfl) ?_
    refine lv_iload_n C0.1 C0.2.1 dX5_unit_10 rfl (lv_at hl 1 rfl) ?_
    refine y_ci h (y_rV (As := [.int a1]) (rest := []) C0 hZ h (c_X5_tooDeep_4 l G Z ad _ h.2 a1 (o24_44 l1 u1) (o24_45 l1 u1)) k_X5_tooDeep q_832 q_18 q_830 kSC_77 rfl rfl rfl hl.1 rfl rfl (Nat.le_of_ble_eq_true rfl) dX5_unit_11 ⟨Nat.le_of_ble_eq_true rfl, Nat.le_of_ble_eq_true rfl⟩ ⟨Nat.le_of_ble_eq_true rfl, Nat.le_of_ble_eq_true rfl⟩) (fun r_113 H locs ws_110 h u_111 p_112 => ?_)
    obtain ⟨e_114, e_115⟩ := p_112
    refine y_if_ne (tgt := 165) C0 dX5_unit_14 (by decide) (fun c_116 => ((o24_34 e_114 e_115 c_116)).elim) (fun c_116 => ?_)
    refine lv_aload_n C0.1 C0.2.1 dX5_unit_17 rfl (lv_at hl 0 rfl) ?_
    refine y_cv h (y_rV (As := []) (rest := []) C0 hZ h (c_X5_advance l G Z ad _ h.2) k_X5_advance q_616 q_0 q_614 kSC_77 rfl rfl rfl hl.1 rfl rfl (Nat.le_of_ble_eq_true rfl) dX5_unit_18 ⟨Nat.le_of_ble_eq_true rfl, Nat.le_of_ble_eq_true rfl⟩ ⟨Nat.le_of_ble_eq_true rfl, Nat.le_of_ble_eq_true rfl⟩) (fun H locs ws_117 h u_118 p_119 => ?_)
    refine lv_aload_n C0.1 C0.2.1 dX5_unit_21 rfl (lv_at hl 0 rfl) ?_
    refine lv_iload_n C0.1 C0.2.1 dX5_unit_22 rfl (lv_at hl 1 rfl) ?_
    refine y_c1 (n := 1) C0 (by decide) dX5_unit_23 (fun v_120 e_121 => ?_)
    refine y_add C0 (o24_46 l1 u1 e_121 (le_min a1) (le_max a1) (le_min v_120) (le_max v_120)) (o24_47 l1 u1 e_121 (le_min a1) (le_max a1) (le_min v_120) (le_max v_120)) dX5_unit_24 (fun v_122 e_123 => ?_)
    refine y_cv h (y_rV (As := [.int v_122]) (rest := []) C0 hZ h (c_X5_unit_5 l G Z ad _ h.2 v_122 (o24_48 l1 u1 e_121 e_123) (o24_49 l1 u1 e_121 e_123)) k_X5_unit q_851 q_21 q_849 kSC_77 rfl rfl rfl hl.1 rfl rfl (Nat.le_of_ble_eq_true rfl) dX5_unit_25 ⟨Nat.le_of_ble_eq_true rfl, Nat.le_of_ble_eq_true rfl⟩ ⟨Nat.le_of_ble_eq_true rfl, Nat.le_of_ble_eq_true rfl⟩) (fun H locs ws_124 h u_125 p_126 => ?_)
    refine lv_aload_n C0.1 C0.2.1 dX5_unit_28 rfl (lv_at hl 0 rfl) ?_
    refine tg_X5_law C0 h kSC_77 q_380 dX5_unit_29 (fun i_127 hi_127 => ?_)
    refine y_c1 (n := 0) C0 (by decide) dX5_unit_32 (fun v_128 e_129 => ?_)
    refine y_cv h (y_rV (As := [.int v_128]) (rest := []) C0 hZ h (c_X4_add l G Z ad _ h.2 i_127 hi_127 v_128) k_X4_add q_827 q_828 q_826 hi_127 rfl rfl rfl hl.1 rfl rfl (Nat.le_of_ble_eq_true rfl) dX5_unit_33 ⟨Nat.le_of_ble_eq_true rfl, Nat.le_of_ble_eq_true rfl⟩ ⟨Nat.le_of_ble_eq_true rfl, Nat.le_of_ble_eq_true rfl⟩) (fun H locs ws_130 h u_131 p_132 => ?_)
    refine lv_aload_n C0.1 C0.2.1 dX5_unit_36 rfl (lv_at hl 0 rfl) ?_
    refine tg_X5_law C0 h kSC_77 q_380 dX5_unit_37 (fun i_133 hi_133 => ?_)
    refine y_c3 (n := 2003) C0 (by decide) dX5_unit_40 (fun v_134 e_135 => ?_)
    refine y_cv h (y_rV (As := [.int v_134]) (rest := []) C0 hZ h (c_X4_add l G Z ad _ h.2 i_133 hi_133 v_134) k_X4_add q_827 q_828 q_826 hi_133 rfl rfl rfl hl.1 rfl rfl (Nat.le_of_ble_eq_true rfl) dX5_unit_43 ⟨Nat.le_of_ble_eq_true rfl, Nat.le_of_ble_eq_true rfl⟩ ⟨Nat.le_of_ble_eq_true rfl, Nat.le_of_ble_eq_true rfl⟩) (fun H locs ws_136 h u_137 p_138 => ?_)
    refine lv_goto (tgt := 165) C0.1 C0.2.1 dX5_unit_46 (by decide) ?_
    rw [hQ]
    exact y_vret C0 h (Fr.tr (Fr.tr (Fr.tr (Fr.tr (Fr.tr (Fr.mono u_2 (by decide)) (Fr.mono u_111 (by decide))) (Fr.mono u_118 (by decide))) u_125) (Fr.mono u_131 (by decide))) (Fr.mono u_137 (by decide))) trivial dX5_unit_165
set_option maxHeartbeats 4000000 in
set_option maxRecDepth 100000 in
theorem c_X5_both_4 (l : Launch) (G : GG) (Z : RZ) (ad : Nat → Nat) (ws0 : va_W) (hT : Ty G (SC tt) ad ws0) (a1 : Int32) (l1 : 4 ≤ a1.toInt) (u1 : a1.toInt ≤ 4) : Mq l yX5_both cX5_both 3 none 16 G Z [.ref (ad 77), .int a1] ws0 (PV G (SC tt) ad [2, 3, 16] ws0 (fun u => True)) := by
  refine Mq.start (by decide) (Nat.le_of_ble_eq_true rfl) ?_
  intro p e s m below meth c A ls C0 hZ h hl
  have hl : lv_has ls 3 [(0, .ref (ad 77)), (1, .int a1)] := hl
  have h : Wt G (SC tt) ad A s s.heap [] ws0 := ⟨h, hT⟩
  obtain ⟨args, hargs⟩ : ∃ z, z = ([.ref (ad 77), .int a1] : List Value).toArray := ⟨_, rfl⟩
  rw [← hargs] at C0 ⊢
  have C0 : Cx p s m args meth c RX5 cX5_both 3 none := C0
  obtain ⟨Q, hQ⟩ : ∃ z, z = MQ below ((PV G (SC tt) ad [2, 3, 16] ws0 (fun u => True)) A) args s 0 0 A := ⟨_, rfl⟩
  rw [← hQ]
  refine lv_aload_n C0.1 C0.2.1 dX5_both_0 rfl (lv_at hl 0 rfl) ?_
  refine lv_iload_n C0.1 C0.2.1 dX5_both_1 rfl (lv_at hl 1 rfl) ?_
  refine y_cv h (y_rV (As := [.int a1]) (rest := []) C0 hZ h (c_X5_unit_4 l G Z ad _ h.2 a1 (o24_44 l1 u1) (o24_45 l1 u1)) k_X5_unit q_851 q_21 q_849 kSC_77 rfl rfl rfl hl.1 rfl rfl (Nat.le_of_ble_eq_true rfl) dX5_both_2 ⟨Nat.le_of_ble_eq_true rfl, Nat.le_of_ble_eq_true rfl⟩ ⟨Nat.le_of_ble_eq_true rfl, Nat.le_of_ble_eq_true rfl⟩) (fun H locs ws_1 h u_2 p_3 => ?_)
  refine y_c1 (n := 0) C0 (by decide) dX5_both_5 (fun v_4 e_5 => ?_)
  refine lv_istore_n (lv' := [(2, .int v_4), (0, .ref (ad 77)), (1, .int a1)]) C0.1 C0.2.1 dX5_both_6 rfl hl (by decide) rfl (fun ls hl => ?_)
  have lp_9 : ∀ (n_11 : Nat) (x2_6 : Int32) (H : Heap) (locs : List Loc) (ls : Array Slot) (ws_7 : va_W), 900 - x2_6.toInt < (n_11 : Int) → 0 ≤ x2_6.toInt → x2_6.toInt ≤ 900 → Wt G (SC tt) ad A s H locs ws_7 → Fr (SC tt) [2, 3, 16] ws_1 ws_7 → lv_has ls 3 [(2, .int x2_6), (0, .ref (ad 77)), (1, .int a1)] → W p l e (rmd 16 0 0) s m args below meth c H locs 0 0 Q (F0 m 7 ls []) := by
    intro n_11
    induction n_11 with
    | zero => intro x2_6 H locs ls ws_7 hn_12 b_13 b_14 h hF_8 hl; exact ((o24_15 b_13 b_14 hn_12)).elim
    | succ n_11 ih_10 =>
      intro x2_6 H locs ls ws_7 hn_12 b_13 b_14 h hF_8 hl
      refine lv_iload_n C0.1 C0.2.1 dX5_both_7 rfl (lv_at hl 0 rfl) ?_
      refine y_c3 (n := 900) C0 (by decide) dX5_both_8 (fun v_15 e_16 => ?_)
      refine y_icmp_ge (tgt := 48) C0 dX5_both_11 (by decide) (fun c_17 => ?_) (fun c_17 => ?_)
      · -- 11
        rw [hQ]
        exact y_vret C0 h (Fr.tr u_2 hF_8) trivial dX5_both_48
      · -- 11
        refine lv_aload_n C0.1 C0.2.1 dX5_both_14 rfl (lv_at hl 1 rfl) ?_
        refine va_ldcS C0.1 C0.2.1 C0.2.2.2.1 (sr_20 hZ) dX5_both_15 ?_
        refine y_ci h (y_rV (As := [.ref (Z.2.1 20)]) (rest := []) C0 hZ h (c_X5_isWord l G Z ad _ h.2 20 (by decide)) k_X5_isWord q_724 q_5 q_722 kSC_77 rfl rfl rfl hl.1 rfl rfl (Nat.le_of_ble_eq_true rfl) dX5_both_17 ⟨Nat.le_of_ble_eq_true rfl, Nat.le_of_ble_eq_true rfl⟩ ⟨Nat.le_of_ble_eq_true rfl, Nat.le_of_ble_eq_true rfl⟩) (fun r_21 H locs ws_18 h u_19 p_20 => ?_)
        obtain ⟨e_22, e_23⟩ := p_20
        refine y_if_eq (tgt := 48) C0 dX5_both_20 (by decide) (fun c_24 => ?_) (fun c_24 => ?_)
        · -- 20
          rw [hQ]
          exact y_vret C0 h (Fr.tr (Fr.tr u_2 hF_8) (Fr.mono u_19 (by decide))) trivial dX5_both_48
        · -- 20
          refine lv_aload_n C0.1 C0.2.1 dX5_both_23 rfl (lv_at hl 1 rfl) ?_
          refine y_cv h (y_rV (As := []) (rest := []) C0 hZ h (c_X5_advance l G Z ad _ h.2) k_X5_advance q_616 q_0 q_614 kSC_77 rfl rfl rfl hl.1 rfl rfl (Nat.le_of_ble_eq_true rfl) dX5_both_24 ⟨Nat.le_of_ble_eq_true rfl, Nat.le_of_ble_eq_true rfl⟩ ⟨Nat.le_of_ble_eq_true rfl, Nat.le_of_ble_eq_true rfl⟩) (fun H locs ws_25 h u_26 p_27 => ?_)
          refine lv_aload_n C0.1 C0.2.1 dX5_both_27 rfl (lv_at hl 1 rfl) ?_
          refine lv_iload_n C0.1 C0.2.1 dX5_both_28 rfl (lv_at hl 2 rfl) ?_
          refine y_cv h (y_rV (As := [.int a1]) (rest := []) C0 hZ h (c_X5_unit_4 l G Z ad _ h.2 a1 (o24_44 l1 u1) (o24_45 l1 u1)) k_X5_unit q_851 q_21 q_849 kSC_77 rfl rfl rfl hl.1 rfl rfl (Nat.le_of_ble_eq_true rfl) dX5_both_29 ⟨Nat.le_of_ble_eq_true rfl, Nat.le_of_ble_eq_true rfl⟩ ⟨Nat.le_of_ble_eq_true rfl, Nat.le_of_ble_eq_true rfl⟩) (fun H locs ws_28 h u_29 p_30 => ?_)
          refine lv_aload_n C0.1 C0.2.1 dX5_both_32 rfl (lv_at hl 1 rfl) ?_
          refine tg_X5_law C0 h kSC_77 q_380 dX5_both_33 (fun i_31 hi_31 => ?_)
          refine y_c3 (n := 2006) C0 (by decide) dX5_both_36 (fun v_32 e_33 => ?_)
          refine y_cv h (y_rV (As := [.int v_32]) (rest := []) C0 hZ h (c_X4_add l G Z ad _ h.2 i_31 hi_31 v_32) k_X4_add q_827 q_828 q_826 hi_31 rfl rfl rfl hl.1 rfl rfl (Nat.le_of_ble_eq_true rfl) dX5_both_39 ⟨Nat.le_of_ble_eq_true rfl, Nat.le_of_ble_eq_true rfl⟩ ⟨Nat.le_of_ble_eq_true rfl, Nat.le_of_ble_eq_true rfl⟩) (fun H locs ws_34 h u_35 p_36 => ?_)
          refine y_inc (kp := 0) (n := 1) (fun v_37 => [(2, .int v_37), (0, .ref (ad 77)), (1, .int a1)]) C0 hl rfl (by decide) (by decide) (fun _ => rfl) (o24_16 b_13 b_14 hn_12 e_16 c_17 (le_min x2_6) (le_max x2_6) (le_min v_15) (le_max v_15)) (o24_17 b_13 b_14 hn_12 e_16 c_17 (le_min x2_6) (le_max x2_6) (le_min v_15) (le_max v_15)) dX5_both_42 (fun v_37 ls e_38 hl => ?_)
          refine lv_goto (tgt := 7) C0.1 C0.2.1 dX5_both_45 (by decide) ?_
          exact ih_10 v_37 _ _ _ _ (o24_18 b_13 b_14 hn_12 e_16 c_17 e_38) (o24_19 b_13 b_14 hn_12 e_16 c_17 e_38) (o24_20 b_13 b_14 hn_12 e_16 c_17 e_38) h (Fr.tr (Fr.tr (Fr.tr (Fr.tr hF_8 (Fr.mono u_19 (by decide))) (Fr.mono u_26 (by decide))) u_29) (Fr.mono u_35 (by decide))) (lv_sub hl [0, 1, 2] rfl)
  exact lp_9 ((900 - v_4.toInt + 1).toNat) v_4 _ _ _ _ (o24_21 e_5) (o24_22 e_5) (o24_23 e_5) h Fr.rf (lv_sub hl [0, 1, 2] rfl)
set_option maxHeartbeats 4000000 in
set_option maxRecDepth 100000 in
theorem c_X5_truth_4 (l : Launch) (G : GG) (Z : RZ) (ad : Nat → Nat) (ws0 : va_W) (hT : Ty G (SC tt) ad ws0) (a1 : Int32) (l1 : 4 ≤ a1.toInt) (u1 : a1.toInt ≤ 4) : Mq l yX5_truth cX5_truth 3 none 17 G Z [.ref (ad 77), .int a1] ws0 (PV G (SC tt) ad [2, 3, 16] ws0 (fun u => True)) := by
  refine Mq.start (by decide) (Nat.le_of_ble_eq_true rfl) ?_
  intro p e s m below meth c A ls C0 hZ h hl
  have hl : lv_has ls 3 [(0, .ref (ad 77)), (1, .int a1)] := hl
  have h : Wt G (SC tt) ad A s s.heap [] ws0 := ⟨h, hT⟩
  obtain ⟨args, hargs⟩ : ∃ z, z = ([.ref (ad 77), .int a1] : List Value).toArray := ⟨_, rfl⟩
  rw [← hargs] at C0 ⊢
  have C0 : Cx p s m args meth c RX5 cX5_truth 3 none := C0
  obtain ⟨Q, hQ⟩ : ∃ z, z = MQ below ((PV G (SC tt) ad [2, 3, 16] ws0 (fun u => True)) A) args s 0 0 A := ⟨_, rfl⟩
  rw [← hQ]
  refine lv_aload_n C0.1 C0.2.1 dX5_truth_0 rfl (lv_at hl 0 rfl) ?_
  refine lv_iload_n C0.1 C0.2.1 dX5_truth_1 rfl (lv_at hl 1 rfl) ?_
  refine y_cv h (y_rV (As := [.int a1]) (rest := []) C0 hZ h (c_X5_both_4 l G Z ad _ h.2 a1 (o24_44 l1 u1) (o24_45 l1 u1)) k_X5_both q_847 q_20 q_845 kSC_77 rfl rfl rfl hl.1 rfl rfl (Nat.le_of_ble_eq_true rfl) dX5_truth_2 ⟨Nat.le_of_ble_eq_true rfl, Nat.le_of_ble_eq_true rfl⟩ ⟨Nat.le_of_ble_eq_true rfl, Nat.le_of_ble_eq_true rfl⟩) (fun H locs ws_1 h u_2 p_3 => ?_)
  refine y_c1 (n := 0) C0 (by decide) dX5_truth_5 (fun v_4 e_5 => ?_)
  refine lv_istore_n (lv' := [(2, .int v_4), (0, .ref (ad 77)), (1, .int a1)]) C0.1 C0.2.1 dX5_truth_6 rfl hl (by decide) rfl (fun ls hl => ?_)
  have lp_9 : ∀ (n_11 : Nat) (x2_6 : Int32) (H : Heap) (locs : List Loc) (ls : Array Slot) (ws_7 : va_W), 900 - x2_6.toInt < (n_11 : Int) → 0 ≤ x2_6.toInt → x2_6.toInt ≤ 900 → Wt G (SC tt) ad A s H locs ws_7 → Fr (SC tt) [2, 3, 16] ws_1 ws_7 → lv_has ls 3 [(2, .int x2_6), (0, .ref (ad 77)), (1, .int a1)] → W p l e (rmd 17 0 0) s m args below meth c H locs 0 0 Q (F0 m 7 ls []) := by
    intro n_11
    induction n_11 with
    | zero => intro x2_6 H locs ls ws_7 hn_12 b_13 b_14 h hF_8 hl; exact ((o24_15 b_13 b_14 hn_12)).elim
    | succ n_11 ih_10 =>
      intro x2_6 H locs ls ws_7 hn_12 b_13 b_14 h hF_8 hl
      refine lv_iload_n C0.1 C0.2.1 dX5_truth_7 rfl (lv_at hl 0 rfl) ?_
      refine y_c3 (n := 900) C0 (by decide) dX5_truth_8 (fun v_15 e_16 => ?_)
      refine y_icmp_ge (tgt := 48) C0 dX5_truth_11 (by decide) (fun c_17 => ?_) (fun c_17 => ?_)
      · -- 11
        rw [hQ]
        exact y_vret C0 h (Fr.tr u_2 hF_8) trivial dX5_truth_48
      · -- 11
        refine lv_aload_n C0.1 C0.2.1 dX5_truth_14 rfl (lv_at hl 1 rfl) ?_
        refine va_ldcS C0.1 C0.2.1 C0.2.2.2.1 (sr_21 hZ) dX5_truth_15 ?_
        refine y_ci h (y_rV (As := [.ref (Z.2.1 21)]) (rest := []) C0 hZ h (c_X5_isWord l G Z ad _ h.2 21 (by decide)) k_X5_isWord q_724 q_5 q_722 kSC_77 rfl rfl rfl hl.1 rfl rfl (Nat.le_of_ble_eq_true rfl) dX5_truth_17 ⟨Nat.le_of_ble_eq_true rfl, Nat.le_of_ble_eq_true rfl⟩ ⟨Nat.le_of_ble_eq_true rfl, Nat.le_of_ble_eq_true rfl⟩) (fun r_21 H locs ws_18 h u_19 p_20 => ?_)
        obtain ⟨e_22, e_23⟩ := p_20
        refine y_if_eq (tgt := 48) C0 dX5_truth_20 (by decide) (fun c_24 => ?_) (fun c_24 => ?_)
        · -- 20
          rw [hQ]
          exact y_vret C0 h (Fr.tr (Fr.tr u_2 hF_8) (Fr.mono u_19 (by decide))) trivial dX5_truth_48
        · -- 20
          refine lv_aload_n C0.1 C0.2.1 dX5_truth_23 rfl (lv_at hl 1 rfl) ?_
          refine y_cv h (y_rV (As := []) (rest := []) C0 hZ h (c_X5_advance l G Z ad _ h.2) k_X5_advance q_616 q_0 q_614 kSC_77 rfl rfl rfl hl.1 rfl rfl (Nat.le_of_ble_eq_true rfl) dX5_truth_24 ⟨Nat.le_of_ble_eq_true rfl, Nat.le_of_ble_eq_true rfl⟩ ⟨Nat.le_of_ble_eq_true rfl, Nat.le_of_ble_eq_true rfl⟩) (fun H locs ws_25 h u_26 p_27 => ?_)
          refine lv_aload_n C0.1 C0.2.1 dX5_truth_27 rfl (lv_at hl 1 rfl) ?_
          refine lv_iload_n C0.1 C0.2.1 dX5_truth_28 rfl (lv_at hl 2 rfl) ?_
          refine y_cv h (y_rV (As := [.int a1]) (rest := []) C0 hZ h (c_X5_both_4 l G Z ad _ h.2 a1 (o24_44 l1 u1) (o24_45 l1 u1)) k_X5_both q_847 q_20 q_845 kSC_77 rfl rfl rfl hl.1 rfl rfl (Nat.le_of_ble_eq_true rfl) dX5_truth_29 ⟨Nat.le_of_ble_eq_true rfl, Nat.le_of_ble_eq_true rfl⟩ ⟨Nat.le_of_ble_eq_true rfl, Nat.le_of_ble_eq_true rfl⟩) (fun H locs ws_28 h u_29 p_30 => ?_)
          refine lv_aload_n C0.1 C0.2.1 dX5_truth_32 rfl (lv_at hl 1 rfl) ?_
          refine tg_X5_law C0 h kSC_77 q_380 dX5_truth_33 (fun i_31 hi_31 => ?_)
          refine y_c3 (n := 2007) C0 (by decide) dX5_truth_36 (fun v_32 e_33 => ?_)
          refine y_cv h (y_rV (As := [.int v_32]) (rest := []) C0 hZ h (c_X4_add l G Z ad _ h.2 i_31 hi_31 v_32) k_X4_add q_827 q_828 q_826 hi_31 rfl rfl rfl hl.1 rfl rfl (Nat.le_of_ble_eq_true rfl) dX5_truth_39 ⟨Nat.le_of_ble_eq_true rfl, Nat.le_of_ble_eq_true rfl⟩ ⟨Nat.le_of_ble_eq_true rfl, Nat.le_of_ble_eq_true rfl⟩) (fun H locs ws_34 h u_35 p_36 => ?_)
          refine y_inc (kp := 0) (n := 1) (fun v_37 => [(2, .int v_37), (0, .ref (ad 77)), (1, .int a1)]) C0 hl rfl (by decide) (by decide) (fun _ => rfl) (o24_16 b_13 b_14 hn_12 e_16 c_17 (le_min x2_6) (le_max x2_6) (le_min v_15) (le_max v_15)) (o24_17 b_13 b_14 hn_12 e_16 c_17 (le_min x2_6) (le_max x2_6) (le_min v_15) (le_max v_15)) dX5_truth_42 (fun v_37 ls e_38 hl => ?_)
          refine lv_goto (tgt := 7) C0.1 C0.2.1 dX5_truth_45 (by decide) ?_
          exact ih_10 v_37 _ _ _ _ (o24_18 b_13 b_14 hn_12 e_16 c_17 e_38) (o24_19 b_13 b_14 hn_12 e_16 c_17 e_38) (o24_20 b_13 b_14 hn_12 e_16 c_17 e_38) h (Fr.tr (Fr.tr (Fr.tr (Fr.tr hF_8 (Fr.mono u_19 (by decide))) (Fr.mono u_26 (by decide))) u_29) (Fr.mono u_35 (by decide))) (lv_sub hl [0, 1, 2] rfl)
  exact lp_9 ((900 - v_4.toInt + 1).toNat) v_4 _ _ _ _ (o24_21 e_5) (o24_22 e_5) (o24_23 e_5) h Fr.rf (lv_sub hl [0, 1, 2] rfl)
set_option maxHeartbeats 4000000 in
set_option maxRecDepth 100000 in
theorem c_X5_tooDeep_3 (l : Launch) (G : GG) (Z : RZ) (ad : Nat → Nat) (ws0 : va_W) (hT : Ty G (SC tt) ad ws0) (a1 : Int32) (l1 : 3 ≤ a1.toInt) (u1 : a1.toInt ≤ 3) : Mq l yX5_tooDeep cX5_tooDeep 2 (some .boolean) 1 G Z [.ref (ad 77), .int a1] ws0 (PI G (SC tt) ad [] ws0 (fun r u => (0 ≤ r.toInt) ∧ (r.toInt ≤ 0))) := by
  refine Mq.start (by decide) (Nat.le_of_ble_eq_true rfl) ?_
  intro p e s m below meth c A ls C0 hZ h hl
  have hl : lv_has ls 2 [(0, .ref (ad 77)), (1, .int a1)] := hl
  have h : Wt G (SC tt) ad A s s.heap [] ws0 := ⟨h, hT⟩
  obtain ⟨args, hargs⟩ : ∃ z, z = ([.ref (ad 77), .int a1] : List Value).toArray := ⟨_, rfl⟩
  rw [← hargs] at C0 ⊢
  have C0 : Cx p s m args meth c RX5 cX5_tooDeep 2 (some .boolean) := C0
  obtain ⟨Q, hQ⟩ : ∃ z, z = MQ below ((PI G (SC tt) ad [] ws0 (fun r u => (0 ≤ r.toInt) ∧ (r.toInt ≤ 0))) A) args s 0 0 A := ⟨_, rfl⟩
  rw [← hQ]
  refine lv_iload_n C0.1 C0.2.1 dX5_tooDeep_0 rfl (lv_at hl 1 rfl) ?_
  refine y_c2 (n := 6) C0 (by decide) dX5_tooDeep_1 (fun v_1 e_2 => ?_)
  refine y_icmp_lt (tgt := 13) C0 dX5_tooDeep_3 (by decide) (fun c_3 => ?_) (fun c_3 => ((o24_50 l1 u1 e_2 c_3)).elim)
  refine y_c1 (n := 0) C0 (by decide) dX5_tooDeep_13 (fun v_4 e_5 => ?_)
  rw [hQ]
  exact y_zret C0 h (o24_22 e_5) (o24_31 e_5) Fr.rf ⟨(o24_22 e_5), (o24_30 e_5)⟩ dX5_tooDeep_14
set_option maxHeartbeats 4000000 in
set_option maxRecDepth 100000 in
theorem c_X5_atom_3 (l : Launch) (G : GG) (Z : RZ) (ad : Nat → Nat) (ws0 : va_W) (hT : Ty G (SC tt) ad ws0) (a1 : Int32) (l1 : 3 ≤ a1.toInt) (u1 : a1.toInt ≤ 3) : Mq l yX5_atom cX5_atom 3 none 15 G Z [.ref (ad 77), .int a1] ws0 (PV G (SC tt) ad [2, 3, 16] ws0 (fun u => True)) := by
  refine Mq.start (by decide) (Nat.le_of_ble_eq_true rfl) ?_
  intro p e s m below meth c A ls C0 hZ h hl
  have hl : lv_has ls 3 [(0, .ref (ad 77)), (1, .int a1)] := hl
  have h : Wt G (SC tt) ad A s s.heap [] ws0 := ⟨h, hT⟩
  obtain ⟨args, hargs⟩ : ∃ z, z = ([.ref (ad 77), .int a1] : List Value).toArray := ⟨_, rfl⟩
  rw [← hargs] at C0 ⊢
  have C0 : Cx p s m args meth c RX5 cX5_atom 3 none := C0
  obtain ⟨Q, hQ⟩ : ∃ z, z = MQ below ((PV G (SC tt) ad [2, 3, 16] ws0 (fun u => True)) A) args s 0 0 A := ⟨_, rfl⟩
  rw [← hQ]
  refine lv_aload_n C0.1 C0.2.1 dX5_atom_0 rfl (lv_at hl 0 rfl) ?_
  refine tg_X5_kind C0 h kSC_77 q_374 dX5_atom_1 (fun v_1 e_2 e_3 e_4 => ?_)
  refine y_c1 (n := 2) C0 (by decide) dX5_atom_4 (fun v_5 e_6 => ?_)
  refine y_icmp_ne (tgt := 26) C0 dX5_atom_5 (by decide) (fun c_7 => ?_) (fun c_7 => ?_)
  · -- 5
    refine lv_aload_n C0.1 C0.2.1 dX5_atom_26 rfl (lv_at hl 0 rfl) ?_
    refine tg_X5_kind C0 h kSC_77 q_374 dX5_atom_27 (fun v_8 e_9 e_10 e_11 => ?_)
    have q_12 : v_8.toInt = v_1.toInt := congrArg Int32.toInt (e_9.symm.trans (Eq.trans rfl e_2))
    refine y_c2 (n := 40) C0 (by decide) dX5_atom_30 (fun v_13 e_14 => ?_)
    refine y_icmp_ne (tgt := 63) C0 dX5_atom_32 (by decide) (fun c_15 => ?_) (fun c_15 => ?_)
    · -- 32
      refine lv_aload_n C0.1 C0.2.1 dX5_atom_63 rfl (lv_at hl 0 rfl) ?_
      refine va_ldcS C0.1 C0.2.1 C0.2.2.2.1 (sr_12 hZ) dX5_atom_64 ?_
      refine y_ci h (y_rV (As := [.ref (Z.2.1 12)]) (rest := []) C0 hZ h (c_X5_isWord l G Z ad _ h.2 12 (by decide)) k_X5_isWord q_724 q_5 q_722 kSC_77 rfl rfl rfl hl.1 rfl rfl (Nat.le_of_ble_eq_true rfl) dX5_atom_66 ⟨Nat.le_of_ble_eq_true rfl, Nat.le_of_ble_eq_true rfl⟩ ⟨Nat.le_of_ble_eq_true rfl, Nat.le_of_ble_eq_true rfl⟩) (fun r_19 H locs ws_16 h u_17 p_18 => ?_)
      obtain ⟨e_20, e_21⟩ := p_18
      refine y_if_eq (tgt := 78) C0 dX5_atom_69 (by decide) (fun c_22 => ?_) (fun c_22 => ?_)
      · -- 69
        refine lv_aload_n C0.1 C0.2.1 dX5_atom_78 rfl (lv_at hl 0 rfl) ?_
        refine va_ldcS C0.1 C0.2.1 C0.2.2.2.1 (sr_13 hZ) dX5_atom_79 ?_
        refine y_ci h (y_rV (As := [.ref (Z.2.1 13)]) (rest := []) C0 hZ h (c_X5_isWord l G Z ad _ h.2 13 (by decide)) k_X5_isWord q_724 q_5 q_722 kSC_77 rfl rfl rfl hl.1 rfl rfl (Nat.le_of_ble_eq_true rfl) dX5_atom_81 ⟨Nat.le_of_ble_eq_true rfl, Nat.le_of_ble_eq_true rfl⟩ ⟨Nat.le_of_ble_eq_true rfl, Nat.le_of_ble_eq_true rfl⟩) (fun r_26 H locs ws_23 h u_24 p_25 => ?_)
        obtain ⟨e_27, e_28⟩ := p_25
        refine y_if_eq (tgt := 93) C0 dX5_atom_84 (by decide) (fun c_29 => ?_) (fun c_29 => ?_)
        · -- 84
          refine lv_aload_n C0.1 C0.2.1 dX5_atom_93 rfl (lv_at hl 0 rfl) ?_
          refine va_ldcS C0.1 C0.2.1 C0.2.2.2.1 (sr_14 hZ) dX5_atom_94 ?_
          refine y_ci h (y_rV (As := [.ref (Z.2.1 14)]) (rest := []) C0 hZ h (c_X5_isWord l G Z ad _ h.2 14 (by decide)) k_X5_isWord q_724 q_5 q_722 kSC_77 rfl rfl rfl hl.1 rfl rfl (Nat.le_of_ble_eq_true rfl) dX5_atom_96 ⟨Nat.le_of_ble_eq_true rfl, Nat.le_of_ble_eq_true rfl⟩ ⟨Nat.le_of_ble_eq_true rfl, Nat.le_of_ble_eq_true rfl⟩) (fun r_33 H locs ws_30 h u_31 p_32 => ?_)
          obtain ⟨e_34, e_35⟩ := p_32
          refine y_if_eq (tgt := 108) C0 dX5_atom_99 (by decide) (fun c_36 => ?_) (fun c_36 => ?_)
          · -- 99
            refine lv_aload_n C0.1 C0.2.1 dX5_atom_108 rfl (lv_at hl 0 rfl) ?_
            refine va_ldcS C0.1 C0.2.1 C0.2.2.2.1 (sr_15 hZ) dX5_atom_109 ?_
            refine y_ci h (y_rV (As := [.ref (Z.2.1 15)]) (rest := []) C0 hZ h (c_X5_isWord l G Z ad _ h.2 15 (by decide)) k_X5_isWord q_724 q_5 q_722 kSC_77 rfl rfl rfl hl.1 rfl rfl (Nat.le_of_ble_eq_true rfl) dX5_atom_111 ⟨Nat.le_of_ble_eq_true rfl, Nat.le_of_ble_eq_true rfl⟩ ⟨Nat.le_of_ble_eq_true rfl, Nat.le_of_ble_eq_true rfl⟩) (fun r_40 H locs ws_37 h u_38 p_39 => ?_)
            obtain ⟨e_41, e_42⟩ := p_39
            refine y_if_eq (tgt := 123) C0 dX5_atom_114 (by decide) (fun c_43 => ?_) (fun c_43 => ?_)
            · -- 114
              refine lv_aload_n C0.1 C0.2.1 dX5_atom_123 rfl (lv_at hl 0 rfl) ?_
              refine va_ldcS C0.1 C0.2.1 C0.2.2.2.1 (sr_16 hZ) dX5_atom_124 ?_
              refine y_ci h (y_rV (As := [.ref (Z.2.1 16)]) (rest := []) C0 hZ h (c_X5_isWord l G Z ad _ h.2 16 (by decide)) k_X5_isWord q_724 q_5 q_722 kSC_77 rfl rfl rfl hl.1 rfl rfl (Nat.le_of_ble_eq_true rfl) dX5_atom_126 ⟨Nat.le_of_ble_eq_true rfl, Nat.le_of_ble_eq_true rfl⟩ ⟨Nat.le_of_ble_eq_true rfl, Nat.le_of_ble_eq_true rfl⟩) (fun r_47 H locs ws_44 h u_45 p_46 => ?_)
              obtain ⟨e_48, e_49⟩ := p_46
              refine y_if_eq (tgt := 138) C0 dX5_atom_129 (by decide) (fun c_50 => ?_) (fun c_50 => ?_)
              · -- 129
                refine lv_aload_n C0.1 C0.2.1 dX5_atom_138 rfl (lv_at hl 0 rfl) ?_
                refine va_ldcS C0.1 C0.2.1 C0.2.2.2.1 (sr_17 hZ) dX5_atom_139 ?_
                refine y_ci h (y_rV (As := [.ref (Z.2.1 17)]) (rest := []) C0 hZ h (c_X5_isWord l G Z ad _ h.2 17 (by decide)) k_X5_isWord q_724 q_5 q_722 kSC_77 rfl rfl rfl hl.1 rfl rfl (Nat.le_of_ble_eq_true rfl) dX5_atom_141 ⟨Nat.le_of_ble_eq_true rfl, Nat.le_of_ble_eq_true rfl⟩ ⟨Nat.le_of_ble_eq_true rfl, Nat.le_of_ble_eq_true rfl⟩) (fun r_54 H locs ws_51 h u_52 p_53 => ?_)
                obtain ⟨e_55, e_56⟩ := p_53
                refine y_if_eq (tgt := 153) C0 dX5_atom_144 (by decide) (fun c_57 => ?_) (fun c_57 => ?_)
                · -- 144
                  refine y_c1 (n := (-1)) C0 (by decide) dX5_atom_153 (fun v_58 e_59 => ?_)
                  refine lv_istore_n (lv' := [(2, .int v_58), (0, .ref (ad 77)), (1, .int a1)]) C0.1 C0.2.1 dX5_atom_154 rfl hl (by decide) rfl (fun ls hl => ?_)
                  refine lv_iload_n C0.1 C0.2.1 dX5_atom_155 rfl (lv_at hl 0 rfl) ?_
                  refine y_if_ge (tgt := 165) C0 dX5_atom_156 (by decide) (fun c_60 => ((o24_5 e_59 c_60)).elim) (fun c_60 => ?_)
                  refine lv_aload_n C0.1 C0.2.1 dX5_atom_159 rfl (lv_at hl 1 rfl) ?_
                  refine y_c1 (n := 2) C0 (by decide) dX5_atom_160 (fun v_61 e_62 => ?_)
                  refine y_cv h (y_rV (As := [.int v_61]) (rest := []) C0 hZ h (c_X5_fail l G Z ad _ h.2 v_61) k_X5_fail q_628 q_3 q_626 kSC_77 rfl rfl rfl hl.1 rfl rfl (Nat.le_of_ble_eq_true rfl) dX5_atom_161 ⟨Nat.le_of_ble_eq_true rfl, Nat.le_of_ble_eq_true rfl⟩ ⟨Nat.le_of_ble_eq_true rfl, Nat.le_of_ble_eq_true rfl⟩) (fun H locs ws_63 h u_64 p_65 => ?_)
                  rw [hQ]
                  exact y_vret C0 h (Fr.tr (Fr.tr (Fr.tr (Fr.tr (Fr.tr (Fr.tr (Fr.mono u_17 (by decide)) (Fr.mono u_24 (by decide))) (Fr.mono u_31 (by decide))) (Fr.mono u_38 (by decide))) (Fr.mono u_45 (by decide))) (Fr.mono u_52 (by decide))) (Fr.mono u_64 (by decide))) trivial dX5_atom_164
                · -- 144
                  refine y_c3 (n := 1005) C0 (by decide) dX5_atom_147 (fun v_66 e_67 => ?_)
                  refine lv_goto (tgt := 154) C0.1 C0.2.1 dX5_atom_150 (by decide) ?_
                  refine lv_istore_n (lv' := [(2, .int v_66), (0, .ref (ad 77)), (1, .int a1)]) C0.1 C0.2.1 dX5_atom_154 rfl hl (by decide) rfl (fun ls hl => ?_)
                  refine lv_iload_n C0.1 C0.2.1 dX5_atom_155 rfl (lv_at hl 0 rfl) ?_
                  refine y_if_ge (tgt := 165) C0 dX5_atom_156 (by decide) (fun c_68 => ?_) (fun c_68 => ((o24_6 e_67 c_68)).elim)
                  refine lv_aload_n C0.1 C0.2.1 dX5_atom_165 rfl (lv_at hl 1 rfl) ?_
                  refine tg_X5_law C0 h kSC_77 q_380 dX5_atom_166 (fun i_69 hi_69 => ?_)
                  refine lv_iload_n C0.1 C0.2.1 dX5_atom_169 rfl (lv_at hl 0 rfl) ?_
                  refine y_cv h (y_rV (As := [.int v_66]) (rest := []) C0 hZ h (c_X4_add l G Z ad _ h.2 i_69 hi_69 v_66) k_X4_add q_827 q_828 q_826 hi_69 rfl rfl rfl hl.1 rfl rfl (Nat.le_of_ble_eq_true rfl) dX5_atom_170 ⟨Nat.le_of_ble_eq_true rfl, Nat.le_of_ble_eq_true rfl⟩ ⟨Nat.le_of_ble_eq_true rfl, Nat.le_of_ble_eq_true rfl⟩) (fun H locs ws_70 h u_71 p_72 => ?_)
                  refine lv_aload_n C0.1 C0.2.1 dX5_atom_173 rfl (lv_at hl 1 rfl) ?_
                  refine y_cv h (y_rV (As := []) (rest := []) C0 hZ h (c_X5_advance l G Z ad _ h.2) k_X5_advance q_616 q_0 q_614 kSC_77 rfl rfl rfl hl.1 rfl rfl (Nat.le_of_ble_eq_true rfl) dX5_atom_174 ⟨Nat.le_of_ble_eq_true rfl, Nat.le_of_ble_eq_true rfl⟩ ⟨Nat.le_of_ble_eq_true rfl, Nat.le_of_ble_eq_true rfl⟩) (fun H locs ws_73 h u_74 p_75 => ?_)
                  rw [hQ]
                  exact y_vret C0 h (Fr.tr (Fr.tr (Fr.tr (Fr.tr (Fr.tr (Fr.tr (Fr.tr (Fr.mono u_17 (by decide)) (Fr.mono u_24 (by decide))) (Fr.mono u_31 (by decide))) (Fr.mono u_38 (by decide))) (Fr.mono u_45 (by decide))) (Fr.mono u_52 (by decide))) (Fr.mono u_71 (by decide))) (Fr.mono u_74 (by decide))) trivial dX5_atom_177
              · -- 129
                refine y_c3 (n := 1004) C0 (by decide) dX5_atom_132 (fun v_76 e_77 => ?_)
                refine lv_goto (tgt := 154) C0.1 C0.2.1 dX5_atom_135 (by decide) ?_
                refine lv_istore_n (lv' := [(2, .int v_76), (0, .ref (ad 77)), (1, .int a1)]) C0.1 C0.2.1 dX5_atom_154 rfl hl (by decide) rfl (fun ls hl => ?_)
                refine lv_iload_n C0.1 C0.2.1 dX5_atom_155 rfl (lv_at hl 0 rfl) ?_
                refine y_if_ge (tgt := 165) C0 dX5_atom_156 (by decide) (fun c_78 => ?_) (fun c_78 => ((o24_7 e_77 c_78)).elim)
                refine lv_aload_n C0.1 C0.2.1 dX5_atom_165 rfl (lv_at hl 1 rfl) ?_
                refine tg_X5_law C0 h kSC_77 q_380 dX5_atom_166 (fun i_79 hi_79 => ?_)
                refine lv_iload_n C0.1 C0.2.1 dX5_atom_169 rfl (lv_at hl 0 rfl) ?_
                refine y_cv h (y_rV (As := [.int v_76]) (rest := []) C0 hZ h (c_X4_add l G Z ad _ h.2 i_79 hi_79 v_76) k_X4_add q_827 q_828 q_826 hi_79 rfl rfl rfl hl.1 rfl rfl (Nat.le_of_ble_eq_true rfl) dX5_atom_170 ⟨Nat.le_of_ble_eq_true rfl, Nat.le_of_ble_eq_true rfl⟩ ⟨Nat.le_of_ble_eq_true rfl, Nat.le_of_ble_eq_true rfl⟩) (fun H locs ws_80 h u_81 p_82 => ?_)
                refine lv_aload_n C0.1 C0.2.1 dX5_atom_173 rfl (lv_at hl 1 rfl) ?_
                refine y_cv h (y_rV (As := []) (rest := []) C0 hZ h (c_X5_advance l G Z ad _ h.2) k_X5_advance q_616 q_0 q_614 kSC_77 rfl rfl rfl hl.1 rfl rfl (Nat.le_of_ble_eq_true rfl) dX5_atom_174 ⟨Nat.le_of_ble_eq_true rfl, Nat.le_of_ble_eq_true rfl⟩ ⟨Nat.le_of_ble_eq_true rfl, Nat.le_of_ble_eq_true rfl⟩) (fun H locs ws_83 h u_84 p_85 => ?_)
                rw [hQ]
                exact y_vret C0 h (Fr.tr (Fr.tr (Fr.tr (Fr.tr (Fr.tr (Fr.tr (Fr.mono u_17 (by decide)) (Fr.mono u_24 (by decide))) (Fr.mono u_31 (by decide))) (Fr.mono u_38 (by decide))) (Fr.mono u_45 (by decide))) (Fr.mono u_81 (by decide))) (Fr.mono u_84 (by decide))) trivial dX5_atom_177
            · -- 114
              refine y_c3 (n := 1003) C0 (by decide) dX5_atom_117 (fun v_86 e_87 => ?_)
              refine lv_goto (tgt := 154) C0.1 C0.2.1 dX5_atom_120 (by decide) ?_
              refine lv_istore_n (lv' := [(2, .int v_86), (0, .ref (ad 77)), (1, .int a1)]) C0.1 C0.2.1 dX5_atom_154 rfl hl (by decide) rfl (fun ls hl => ?_)
              refine lv_iload_n C0.1 C0.2.1 dX5_atom_155 rfl (lv_at hl 0 rfl) ?_
              refine y_if_ge (tgt := 165) C0 dX5_atom_156 (by decide) (fun c_88 => ?_) (fun c_88 => ((o24_8 e_87 c_88)).elim)
              refine lv_aload_n C0.1 C0.2.1 dX5_atom_165 rfl (lv_at hl 1 rfl) ?_
              refine tg_X5_law C0 h kSC_77 q_380 dX5_atom_166 (fun i_89 hi_89 => ?_)
              refine lv_iload_n C0.1 C0.2.1 dX5_atom_169 rfl (lv_at hl 0 rfl) ?_
              refine y_cv h (y_rV (As := [.int v_86]) (rest := []) C0 hZ h (c_X4_add l G Z ad _ h.2 i_89 hi_89 v_86) k_X4_add q_827 q_828 q_826 hi_89 rfl rfl rfl hl.1 rfl rfl (Nat.le_of_ble_eq_true rfl) dX5_atom_170 ⟨Nat.le_of_ble_eq_true rfl, Nat.le_of_ble_eq_true rfl⟩ ⟨Nat.le_of_ble_eq_true rfl, Nat.le_of_ble_eq_true rfl⟩) (fun H locs ws_90 h u_91 p_92 => ?_)
              refine lv_aload_n C0.1 C0.2.1 dX5_atom_173 rfl (lv_at hl 1 rfl) ?_
              refine y_cv h (y_rV (As := []) (rest := []) C0 hZ h (c_X5_advance l G Z ad _ h.2) k_X5_advance q_616 q_0 q_614 kSC_77 rfl rfl rfl hl.1 rfl rfl (Nat.le_of_ble_eq_true rfl) dX5_atom_174 ⟨Nat.le_of_ble_eq_true rfl, Nat.le_of_ble_eq_true rfl⟩ ⟨Nat.le_of_ble_eq_true rfl, Nat.le_of_ble_eq_true rfl⟩) (fun H locs ws_93 h u_94 p_95 => ?_)
              rw [hQ]
              exact y_vret C0 h (Fr.tr (Fr.tr (Fr.tr (Fr.tr (Fr.tr (Fr.mono u_17 (by decide)) (Fr.mono u_24 (by decide))) (Fr.mono u_31 (by decide))) (Fr.mono u_38 (by decide))) (Fr.mono u_91 (by decide))) (Fr.mono u_94 (by decide))) trivial dX5_atom_177
          · -- 99
            refine y_c3 (n := 1002) C0 (by decide) dX5_atom_102 (fun v_96 e_97 => ?_)
            refine lv_goto (tgt := 154) C0.1 C0.2.1 dX5_atom_105 (by decide) ?_
            refine lv_istore_n (lv' := [(2, .int v_96), (0, .ref (ad 77)), (1, .int a1)]) C0.1 C0.2.1 dX5_atom_154 rfl hl (by decide) rfl (fun ls hl => ?_)
            refine lv_iload_n C0.1 C0.2.1 dX5_atom_155 rfl (lv_at hl 0 rfl) ?_
            refine y_if_ge (tgt := 165) C0 dX5_atom_156 (by decide) (fun c_98 => ?_) (fun c_98 => ((o24_9 e_97 c_98)).elim)
            refine lv_aload_n C0.1 C0.2.1 dX5_atom_165 rfl (lv_at hl 1 rfl) ?_
            refine tg_X5_law C0 h kSC_77 q_380 dX5_atom_166 (fun i_99 hi_99 => ?_)
            refine lv_iload_n C0.1 C0.2.1 dX5_atom_169 rfl (lv_at hl 0 rfl) ?_
            refine y_cv h (y_rV (As := [.int v_96]) (rest := []) C0 hZ h (c_X4_add l G Z ad _ h.2 i_99 hi_99 v_96) k_X4_add q_827 q_828 q_826 hi_99 rfl rfl rfl hl.1 rfl rfl (Nat.le_of_ble_eq_true rfl) dX5_atom_170 ⟨Nat.le_of_ble_eq_true rfl, Nat.le_of_ble_eq_true rfl⟩ ⟨Nat.le_of_ble_eq_true rfl, Nat.le_of_ble_eq_true rfl⟩) (fun H locs ws_100 h u_101 p_102 => ?_)
            refine lv_aload_n C0.1 C0.2.1 dX5_atom_173 rfl (lv_at hl 1 rfl) ?_
            refine y_cv h (y_rV (As := []) (rest := []) C0 hZ h (c_X5_advance l G Z ad _ h.2) k_X5_advance q_616 q_0 q_614 kSC_77 rfl rfl rfl hl.1 rfl rfl (Nat.le_of_ble_eq_true rfl) dX5_atom_174 ⟨Nat.le_of_ble_eq_true rfl, Nat.le_of_ble_eq_true rfl⟩ ⟨Nat.le_of_ble_eq_true rfl, Nat.le_of_ble_eq_true rfl⟩) (fun H locs ws_103 h u_104 p_105 => ?_)
            rw [hQ]
            exact y_vret C0 h (Fr.tr (Fr.tr (Fr.tr (Fr.tr (Fr.mono u_17 (by decide)) (Fr.mono u_24 (by decide))) (Fr.mono u_31 (by decide))) (Fr.mono u_101 (by decide))) (Fr.mono u_104 (by decide))) trivial dX5_atom_177
        · -- 84
          refine y_c3 (n := 1001) C0 (by decide) dX5_atom_87 (fun v_106 e_107 => ?_)
          refine lv_goto (tgt := 154) C0.1 C0.2.1 dX5_atom_90 (by decide) ?_
          refine lv_istore_n (lv' := [(2, .int v_106), (0, .ref (ad 77)), (1, .int a1)]) C0.1 C0.2.1 dX5_atom_154 rfl hl (by decide) rfl (fun ls hl => ?_)
          refine lv_iload_n C0.1 C0.2.1 dX5_atom_155 rfl (lv_at hl 0 rfl) ?_
          refine y_if_ge (tgt := 165) C0 dX5_atom_156 (by decide) (fun c_108 => ?_) (fun c_108 => ((o24_10 e_107 c_108)).elim)
          refine lv_aload_n C0.1 C0.2.1 dX5_atom_165 rfl (lv_at hl 1 rfl) ?_
          refine tg_X5_law C0 h kSC_77 q_380 dX5_atom_166 (fun i_109 hi_109 => ?_)
          refine lv_iload_n C0.1 C0.2.1 dX5_atom_169 rfl (lv_at hl 0 rfl) ?_
          refine y_cv h (y_rV (As := [.int v_106]) (rest := []) C0 hZ h (c_X4_add l G Z ad _ h.2 i_109 hi_109 v_106) k_X4_add q_827 q_828 q_826 hi_109 rfl rfl rfl hl.1 rfl rfl (Nat.le_of_ble_eq_true rfl) dX5_atom_170 ⟨Nat.le_of_ble_eq_true rfl, Nat.le_of_ble_eq_true rfl⟩ ⟨Nat.le_of_ble_eq_true rfl, Nat.le_of_ble_eq_true rfl⟩) (fun H locs ws_110 h u_111 p_112 => ?_)
          refine lv_aload_n C0.1 C0.2.1 dX5_atom_173 rfl (lv_at hl 1 rfl) ?_
          refine y_cv h (y_rV (As := []) (rest := []) C0 hZ h (c_X5_advance l G Z ad _ h.2) k_X5_advance q_616 q_0 q_614 kSC_77 rfl rfl rfl hl.1 rfl rfl (Nat.le_of_ble_eq_true rfl) dX5_atom_174 ⟨Nat.le_of_ble_eq_true rfl, Nat.le_of_ble_eq_true rfl⟩ ⟨Nat.le_of_ble_eq_true rfl, Nat.le_of_ble_eq_true rfl⟩) (fun H locs ws_113 h u_114 p_115 => ?_)
          rw [hQ]
          exact y_vret C0 h (Fr.tr (Fr.tr (Fr.tr (Fr.mono u_17 (by decide)) (Fr.mono u_24 (by decide))) (Fr.mono u_111 (by decide))) (Fr.mono u_114 (by decide))) trivial dX5_atom_177
      · -- 69
        refine y_c3 (n := 1000) C0 (by decide) dX5_atom_72 (fun v_116 e_117 => ?_)
        refine lv_goto (tgt := 154) C0.1 C0.2.1 dX5_atom_75 (by decide) ?_
        refine lv_istore_n (lv' := [(2, .int v_116), (0, .ref (ad 77)), (1, .int a1)]) C0.1 C0.2.1 dX5_atom_154 rfl hl (by decide) rfl (fun ls hl => ?_)
        refine lv_iload_n C0.1 C0.2.1 dX5_atom_155 rfl (lv_at hl 0 rfl) ?_
        refine y_if_ge (tgt := 165) C0 dX5_atom_156 (by decide) (fun c_118 => ?_) (fun c_118 => ((o24_11 e_117 c_118)).elim)
        refine lv_aload_n C0.1 C0.2.1 dX5_atom_165 rfl (lv_at hl 1 rfl) ?_
        refine tg_X5_law C0 h kSC_77 q_380 dX5_atom_166 (fun i_119 hi_119 => ?_)
        refine lv_iload_n C0.1 C0.2.1 dX5_atom_169 rfl (lv_at hl 0 rfl) ?_
        refine y_cv h (y_rV (As := [.int v_116]) (rest := []) C0 hZ h (c_X4_add l G Z ad _ h.2 i_119 hi_119 v_116) k_X4_add q_827 q_828 q_826 hi_119 rfl rfl rfl hl.1 rfl rfl (Nat.le_of_ble_eq_true rfl) dX5_atom_170 ⟨Nat.le_of_ble_eq_true rfl, Nat.le_of_ble_eq_true rfl⟩ ⟨Nat.le_of_ble_eq_true rfl, Nat.le_of_ble_eq_true rfl⟩) (fun H locs ws_120 h u_121 p_122 => ?_)
        refine lv_aload_n C0.1 C0.2.1 dX5_atom_173 rfl (lv_at hl 1 rfl) ?_
        refine y_cv h (y_rV (As := []) (rest := []) C0 hZ h (c_X5_advance l G Z ad _ h.2) k_X5_advance q_616 q_0 q_614 kSC_77 rfl rfl rfl hl.1 rfl rfl (Nat.le_of_ble_eq_true rfl) dX5_atom_174 ⟨Nat.le_of_ble_eq_true rfl, Nat.le_of_ble_eq_true rfl⟩ ⟨Nat.le_of_ble_eq_true rfl, Nat.le_of_ble_eq_true rfl⟩) (fun H locs ws_123 h u_124 p_125 => ?_)
        rw [hQ]
        exact y_vret C0 h (Fr.tr (Fr.tr (Fr.mono u_17 (by decide)) (Fr.mono u_121 (by decide))) (Fr.mono u_124 (by decide))) trivial dX5_atom_177
    · -- 32
      refine lv_aload_n C0.1 C0.2.1 dX5_atom_35 rfl (lv_at hl 0 rfl) ?_
      refine lv_iload_n C0.1 C0.2.1 dX5_atom_36 rfl (lv_at hl 1 rfl) ?_
      refine y_ci h (y_rV (As := [.int a1]) (rest := []) C0 hZ h (c_X5_tooDeep_3 l G Z ad _ h.2 a1 (o24_51 l1 u1) (o24_52 l1 u1)) k_X5_tooDeep q_832 q_18 q_830 kSC_77 rfl rfl rfl hl.1 rfl rfl (Nat.le_of_ble_eq_true rfl) dX5_atom_37 ⟨Nat.le_of_ble_eq_true rfl, Nat.le_of_ble_eq_true rfl⟩ ⟨Nat.le_of_ble_eq_true rfl, Nat.le_of_ble_eq_true rfl⟩) (fun r_129 H locs ws_126 h u_127 p_128 => ?_)
      obtain ⟨e_130, e_131⟩ := p_128
      refine y_if_ne (tgt := 177) C0 dX5_atom_40 (by decide) (fun c_132 => ((o24_34 e_130 e_131 c_132)).elim) (fun c_132 => ?_)
      refine lv_aload_n C0.1 C0.2.1 dX5_atom_43 rfl (lv_at hl 0 rfl) ?_
      refine y_cv h (y_rV (As := []) (rest := []) C0 hZ h (c_X5_advance l G Z ad _ h.2) k_X5_advance q_616 q_0 q_614 kSC_77 rfl rfl rfl hl.1 rfl rfl (Nat.le_of_ble_eq_true rfl) dX5_atom_44 ⟨Nat.le_of_ble_eq_true rfl, Nat.le_of_ble_eq_true rfl⟩ ⟨Nat.le_of_ble_eq_true rfl, Nat.le_of_ble_eq_true rfl⟩) (fun H locs ws_133 h u_134 p_135 => ?_)
      refine lv_aload_n C0.1 C0.2.1 dX5_atom_47 rfl (lv_at hl 0 rfl) ?_
      refine lv_iload_n C0.1 C0.2.1 dX5_atom_48 rfl (lv_at hl 1 rfl) ?_
      refine y_c1 (n := 1) C0 (by decide) dX5_atom_49 (fun v_136 e_137 => ?_)
      refine y_add C0 (o24_53 l1 u1 e_137 (le_min a1) (le_max a1) (le_min v_136) (le_max v_136)) (o24_54 l1 u1 e_137 (le_min a1) (le_max a1) (le_min v_136) (le_max v_136)) dX5_atom_50 (fun v_138 e_139 => ?_)
      refine y_cv h (y_rV (As := [.int v_138]) (rest := []) C0 hZ h (c_X5_sum_4 l G Z ad _ h.2 v_138 (o24_55 l1 u1 e_137 e_139) (o24_56 l1 u1 e_137 e_139)) k_X5_sum q_816 q_15 q_814 kSC_77 rfl rfl rfl hl.1 rfl rfl (Nat.le_of_ble_eq_true rfl) dX5_atom_51 ⟨Nat.le_of_ble_eq_true rfl, Nat.le_of_ble_eq_true rfl⟩ ⟨Nat.le_of_ble_eq_true rfl, Nat.le_of_ble_eq_true rfl⟩) (fun H locs ws_140 h u_141 p_142 => ?_)
      refine lv_aload_n C0.1 C0.2.1 dX5_atom_54 rfl (lv_at hl 0 rfl) ?_
      refine y_c2 (n := 41) C0 (by decide) dX5_atom_55 (fun v_143 e_144 => ?_)
      refine y_cv h (y_rV (As := [.int v_143]) (rest := []) C0 hZ h (c_X5_sign l G Z ad _ h.2 v_143 (o24_39 e_144) (o24_40 e_144)) k_X5_sign q_812 q_14 q_810 kSC_77 rfl rfl rfl hl.1 rfl rfl (Nat.le_of_ble_eq_true rfl) dX5_atom_57 ⟨Nat.le_of_ble_eq_true rfl, Nat.le_of_ble_eq_true rfl⟩ ⟨Nat.le_of_ble_eq_true rfl, Nat.le_of_ble_eq_true rfl⟩) (fun H locs ws_145 h u_146 p_147 => ?_)
      refine lv_goto (tgt := 177) C0.1 C0.2.1 dX5_atom_60 (by decide) ?_
      rw [hQ]
      exact y_vret C0 h (Fr.tr (Fr.tr (Fr.tr (Fr.mono u_127 (by decide)) (Fr.mono u_134 (by decide))) u_141) (Fr.mono u_146 (by decide))) trivial dX5_atom_177
  · -- 5
    refine lv_aload_n C0.1 C0.2.1 dX5_atom_8 rfl (lv_at hl 0 rfl) ?_
    refine tg_X5_law C0 h kSC_77 q_380 dX5_atom_9 (fun i_148 hi_148 => ?_)
    refine lv_aload_n C0.1 C0.2.1 dX5_atom_12 rfl (lv_at hl 0 rfl) ?_
    refine tg_X5_number C0 h kSC_77 q_377 dX5_atom_13 (fun v_149 e_150 e_151 e_152 => ?_)
    refine y_cv h (y_rV (As := [.int v_149]) (rest := []) C0 hZ h (c_X4_add l G Z ad _ h.2 i_148 hi_148 v_149) k_X4_add q_827 q_828 q_826 hi_148 rfl rfl rfl hl.1 rfl rfl (Nat.le_of_ble_eq_true rfl) dX5_atom_16 ⟨Nat.le_of_ble_eq_true rfl, Nat.le_of_ble_eq_true rfl⟩ ⟨Nat.le_of_ble_eq_true rfl, Nat.le_of_ble_eq_true rfl⟩) (fun H locs ws_153 h u_154 p_155 => ?_)
    refine lv_aload_n C0.1 C0.2.1 dX5_atom_19 rfl (lv_at hl 0 rfl) ?_
    refine y_cv h (y_rV (As := []) (rest := []) C0 hZ h (c_X5_advance l G Z ad _ h.2) k_X5_advance q_616 q_0 q_614 kSC_77 rfl rfl rfl hl.1 rfl rfl (Nat.le_of_ble_eq_true rfl) dX5_atom_20 ⟨Nat.le_of_ble_eq_true rfl, Nat.le_of_ble_eq_true rfl⟩ ⟨Nat.le_of_ble_eq_true rfl, Nat.le_of_ble_eq_true rfl⟩) (fun H locs ws_156 h u_157 p_158 => ?_)
    refine lv_goto (tgt := 177) C0.1 C0.2.1 dX5_atom_23 (by decide) ?_
    rw [hQ]
    exact y_vret C0 h (Fr.tr (Fr.mono u_154 (by decide)) (Fr.mono u_157 (by decide))) trivial dX5_atom_177
set_option maxHeartbeats 4000000 in
set_option maxRecDepth 100000 in
theorem c_X5_term_3 (l : Launch) (G : GG) (Z : RZ) (ad : Nat → Nat) (ws0 : va_W) (hT : Ty G (SC tt) ad ws0) (a1 : Int32) (l1 : 3 ≤ a1.toInt) (u1 : a1.toInt ≤ 3) : Mq l yX5_term cX5_term 3 none 16 G Z [.ref (ad 77), .int a1] ws0 (PV G (SC tt) ad [2, 3, 16] ws0 (fun u => True)) := by
  refine Mq.start (by decide) (Nat.le_of_ble_eq_true rfl) ?_
  intro p e s m below meth c A ls C0 hZ h hl
  have hl : lv_has ls 3 [(0, .ref (ad 77)), (1, .int a1)] := hl
  have h : Wt G (SC tt) ad A s s.heap [] ws0 := ⟨h, hT⟩
  obtain ⟨args, hargs⟩ : ∃ z, z = ([.ref (ad 77), .int a1] : List Value).toArray := ⟨_, rfl⟩
  rw [← hargs] at C0 ⊢
  have C0 : Cx p s m args meth c RX5 cX5_term 3 none := C0
  obtain ⟨Q, hQ⟩ : ∃ z, z = MQ below ((PV G (SC tt) ad [2, 3, 16] ws0 (fun u => True)) A) args s 0 0 A := ⟨_, rfl⟩
  rw [← hQ]
  refine lv_aload_n C0.1 C0.2.1 dX5_term_0 rfl (lv_at hl 0 rfl) ?_
  refine lv_iload_n C0.1 C0.2.1 dX5_term_1 rfl (lv_at hl 1 rfl) ?_
  refine y_cv h (y_rV (As := [.int a1]) (rest := []) C0 hZ h (c_X5_atom_3 l G Z ad _ h.2 a1 (o24_51 l1 u1) (o24_52 l1 u1)) k_X5_atom q_824 q_17 q_822 kSC_77 rfl rfl rfl hl.1 rfl rfl (Nat.le_of_ble_eq_true rfl) dX5_term_2 ⟨Nat.le_of_ble_eq_true rfl, Nat.le_of_ble_eq_true rfl⟩ ⟨Nat.le_of_ble_eq_true rfl, Nat.le_of_ble_eq_true rfl⟩) (fun H locs ws_1 h u_2 p_3 => ?_)
  refine y_c1 (n := 0) C0 (by decide) dX5_term_5 (fun v_4 e_5 => ?_)
  refine lv_istore_n (lv' := [(2, .int v_4), (0, .ref (ad 77)), (1, .int a1)]) C0.1 C0.2.1 dX5_term_6 rfl hl (by decide) rfl (fun ls hl => ?_)
  have lp_9 : ∀ (n_11 : Nat) (x2_6 : Int32) (H : Heap) (locs : List Loc) (ls : Array Slot) (ws_7 : va_W), 900 - x2_6.toInt < (n_11 : Int) → 0 ≤ x2_6.toInt → x2_6.toInt ≤ 900 → Wt G (SC tt) ad A s H locs ws_7 → Fr (SC tt) [2, 3, 16] ws_1 ws_7 → lv_has ls 3 [(2, .int x2_6), (0, .ref (ad 77)), (1, .int a1)] → W p l e (rmd 16 0 0) s m args below meth c H locs 0 0 Q (F0 m 7 ls []) := by
    intro n_11
    induction n_11 with
    | zero => intro x2_6 H locs ls ws_7 hn_12 b_13 b_14 h hF_8 hl; exact ((o24_15 b_13 b_14 hn_12)).elim
    | succ n_11 ih_10 =>
      intro x2_6 H locs ls ws_7 hn_12 b_13 b_14 h hF_8 hl
      refine lv_iload_n C0.1 C0.2.1 dX5_term_7 rfl (lv_at hl 0 rfl) ?_
      refine y_c3 (n := 900) C0 (by decide) dX5_term_8 (fun v_15 e_16 => ?_)
      refine y_icmp_ge (tgt := 48) C0 dX5_term_11 (by decide) (fun c_17 => ?_) (fun c_17 => ?_)
      · -- 11
        rw [hQ]
        exact y_vret C0 h (Fr.tr u_2 hF_8) trivial dX5_term_48
      · -- 11
        refine lv_aload_n C0.1 C0.2.1 dX5_term_14 rfl (lv_at hl 1 rfl) ?_
        refine tg_X5_kind C0 h kSC_77 q_374 dX5_term_15 (fun v_18 e_19 e_20 e_21 => ?_)
        refine y_c2 (n := 42) C0 (by decide) dX5_term_18 (fun v_22 e_23 => ?_)
        refine y_icmp_ne (tgt := 48) C0 dX5_term_20 (by decide) (fun c_24 => ?_) (fun c_24 => ?_)
        · -- 20
          rw [hQ]
          exact y_vret C0 h (Fr.tr u_2 hF_8) trivial dX5_term_48
        · -- 20
          refine lv_aload_n C0.1 C0.2.1 dX5_term_23 rfl (lv_at hl 1 rfl) ?_
          refine y_cv h (y_rV (As := []) (rest := []) C0 hZ h (c_X5_advance l G Z ad _ h.2) k_X5_advance q_616 q_0 q_614 kSC_77 rfl rfl rfl hl.1 rfl rfl (Nat.le_of_ble_eq_true rfl) dX5_term_24 ⟨Nat.le_of_ble_eq_true rfl, Nat.le_of_ble_eq_true rfl⟩ ⟨Nat.le_of_ble_eq_true rfl, Nat.le_of_ble_eq_true rfl⟩) (fun H locs ws_25 h u_26 p_27 => ?_)
          refine lv_aload_n C0.1 C0.2.1 dX5_term_27 rfl (lv_at hl 1 rfl) ?_
          refine lv_iload_n C0.1 C0.2.1 dX5_term_28 rfl (lv_at hl 2 rfl) ?_
          refine y_cv h (y_rV (As := [.int a1]) (rest := []) C0 hZ h (c_X5_atom_3 l G Z ad _ h.2 a1 (o24_51 l1 u1) (o24_52 l1 u1)) k_X5_atom q_824 q_17 q_822 kSC_77 rfl rfl rfl hl.1 rfl rfl (Nat.le_of_ble_eq_true rfl) dX5_term_29 ⟨Nat.le_of_ble_eq_true rfl, Nat.le_of_ble_eq_true rfl⟩ ⟨Nat.le_of_ble_eq_true rfl, Nat.le_of_ble_eq_true rfl⟩) (fun H locs ws_28 h u_29 p_30 => ?_)
          refine lv_aload_n C0.1 C0.2.1 dX5_term_32 rfl (lv_at hl 1 rfl) ?_
          refine tg_X5_law C0 h kSC_77 q_380 dX5_term_33 (fun i_31 hi_31 => ?_)
          refine y_c3 (n := 2002) C0 (by decide) dX5_term_36 (fun v_32 e_33 => ?_)
          refine y_cv h (y_rV (As := [.int v_32]) (rest := []) C0 hZ h (c_X4_add l G Z ad _ h.2 i_31 hi_31 v_32) k_X4_add q_827 q_828 q_826 hi_31 rfl rfl rfl hl.1 rfl rfl (Nat.le_of_ble_eq_true rfl) dX5_term_39 ⟨Nat.le_of_ble_eq_true rfl, Nat.le_of_ble_eq_true rfl⟩ ⟨Nat.le_of_ble_eq_true rfl, Nat.le_of_ble_eq_true rfl⟩) (fun H locs ws_34 h u_35 p_36 => ?_)
          refine y_inc (kp := 0) (n := 1) (fun v_37 => [(2, .int v_37), (0, .ref (ad 77)), (1, .int a1)]) C0 hl rfl (by decide) (by decide) (fun _ => rfl) (o24_16 b_13 b_14 hn_12 e_16 c_17 (le_min x2_6) (le_max x2_6) (le_min v_15) (le_max v_15)) (o24_17 b_13 b_14 hn_12 e_16 c_17 (le_min x2_6) (le_max x2_6) (le_min v_15) (le_max v_15)) dX5_term_42 (fun v_37 ls e_38 hl => ?_)
          refine lv_goto (tgt := 7) C0.1 C0.2.1 dX5_term_45 (by decide) ?_
          exact ih_10 v_37 _ _ _ _ (o24_18 b_13 b_14 hn_12 e_16 c_17 e_38) (o24_19 b_13 b_14 hn_12 e_16 c_17 e_38) (o24_20 b_13 b_14 hn_12 e_16 c_17 e_38) h (Fr.tr (Fr.tr (Fr.tr hF_8 (Fr.mono u_26 (by decide))) u_29) (Fr.mono u_35 (by decide))) (lv_sub hl [0, 1, 2] rfl)
  exact lp_9 ((900 - v_4.toInt + 1).toNat) v_4 _ _ _ _ (o24_21 e_5) (o24_22 e_5) (o24_23 e_5) h Fr.rf (lv_sub hl [0, 1, 2] rfl)
set_option maxHeartbeats 4000000 in
set_option maxRecDepth 100000 in
theorem c_X5_sum_3 (l : Launch) (G : GG) (Z : RZ) (ad : Nat → Nat) (ws0 : va_W) (hT : Ty G (SC tt) ad ws0) (a1 : Int32) (l1 : 3 ≤ a1.toInt) (u1 : a1.toInt ≤ 3) : Mq l yX5_sum cX5_sum 4 none 17 G Z [.ref (ad 77), .int a1] ws0 (PV G (SC tt) ad [2, 3, 16] ws0 (fun u => True)) := by
  refine Mq.start (by decide) (Nat.le_of_ble_eq_true rfl) ?_
  intro p e s m below meth c A ls C0 hZ h hl
  have hl : lv_has ls 4 [(0, .ref (ad 77)), (1, .int a1)] := hl
  have h : Wt G (SC tt) ad A s s.heap [] ws0 := ⟨h, hT⟩
  obtain ⟨args, hargs⟩ : ∃ z, z = ([.ref (ad 77), .int a1] : List Value).toArray := ⟨_, rfl⟩
  rw [← hargs] at C0 ⊢
  have C0 : Cx p s m args meth c RX5 cX5_sum 4 none := C0
  obtain ⟨Q, hQ⟩ : ∃ z, z = MQ below ((PV G (SC tt) ad [2, 3, 16] ws0 (fun u => True)) A) args s 0 0 A := ⟨_, rfl⟩
  rw [← hQ]
  refine lv_aload_n C0.1 C0.2.1 dX5_sum_0 rfl (lv_at hl 0 rfl) ?_
  refine lv_iload_n C0.1 C0.2.1 dX5_sum_1 rfl (lv_at hl 1 rfl) ?_
  refine y_cv h (y_rV (As := [.int a1]) (rest := []) C0 hZ h (c_X5_term_3 l G Z ad _ h.2 a1 (o24_51 l1 u1) (o24_52 l1 u1)) k_X5_term q_820 q_16 q_818 kSC_77 rfl rfl rfl hl.1 rfl rfl (Nat.le_of_ble_eq_true rfl) dX5_sum_2 ⟨Nat.le_of_ble_eq_true rfl, Nat.le_of_ble_eq_true rfl⟩ ⟨Nat.le_of_ble_eq_true rfl, Nat.le_of_ble_eq_true rfl⟩) (fun H locs ws_1 h u_2 p_3 => ?_)
  refine y_c1 (n := 0) C0 (by decide) dX5_sum_5 (fun v_4 e_5 => ?_)
  refine lv_istore_n (lv' := [(2, .int v_4), (0, .ref (ad 77)), (1, .int a1)]) C0.1 C0.2.1 dX5_sum_6 rfl hl (by decide) rfl (fun ls hl => ?_)
  have lp_9 : ∀ (n_11 : Nat) (x2_6 : Int32) (H : Heap) (locs : List Loc) (ls : Array Slot) (ws_7 : va_W), 900 - x2_6.toInt < (n_11 : Int) → 0 ≤ x2_6.toInt → x2_6.toInt ≤ 900 → Wt G (SC tt) ad A s H locs ws_7 → Fr (SC tt) [2, 3, 16] ws_1 ws_7 → lv_has ls 4 [(2, .int x2_6), (0, .ref (ad 77)), (1, .int a1)] → W p l e (rmd 17 0 0) s m args below meth c H locs 0 0 Q (F0 m 7 ls []) := by
    intro n_11
    induction n_11 with
    | zero => intro x2_6 H locs ls ws_7 hn_12 b_13 b_14 h hF_8 hl; exact ((o24_15 b_13 b_14 hn_12)).elim
    | succ n_11 ih_10 =>
      intro x2_6 H locs ls ws_7 hn_12 b_13 b_14 h hF_8 hl
      refine lv_iload_n C0.1 C0.2.1 dX5_sum_7 rfl (lv_at hl 0 rfl) ?_
      refine y_c3 (n := 900) C0 (by decide) dX5_sum_8 (fun v_15 e_16 => ?_)
      refine y_icmp_ge (tgt := 74) C0 dX5_sum_11 (by decide) (fun c_17 => ?_) (fun c_17 => ?_)
      · -- 11
        rw [hQ]
        exact y_vret C0 h (Fr.tr u_2 hF_8) trivial dX5_sum_74
      · -- 11
        refine lv_aload_n C0.1 C0.2.1 dX5_sum_14 rfl (lv_at hl 1 rfl) ?_
        refine tg_X5_kind C0 h kSC_77 q_374 dX5_sum_15 (fun v_18 e_19 e_20 e_21 => ?_)
        refine y_c2 (n := 43) C0 (by decide) dX5_sum_18 (fun v_22 e_23 => ?_)
        refine y_icmp_eq (tgt := 32) C0 dX5_sum_20 (by decide) (fun c_24 => ?_) (fun c_24 => ?_)
        · -- 20
          refine lv_aload_n C0.1 C0.2.1 dX5_sum_32 rfl (lv_at hl 1 rfl) ?_
          refine tg_X5_kind C0 h kSC_77 q_374 dX5_sum_33 (fun v_25 e_26 e_27 e_28 => ?_)
          have q_29 : v_25.toInt = v_18.toInt := congrArg Int32.toInt (e_26.symm.trans (Eq.trans rfl e_19))
          refine y_c2 (n := 43) C0 (by decide) dX5_sum_36 (fun v_30 e_31 => ?_)
          refine y_icmp_ne (tgt := 47) C0 dX5_sum_38 (by decide) (fun c_32 => ((o24_24 e_23 c_24 q_29 e_31 c_32)).elim) (fun c_32 => ?_)
          refine y_c3 (n := 2000) C0 (by decide) dX5_sum_41 (fun v_33 e_34 => ?_)
          refine lv_goto (tgt := 50) C0.1 C0.2.1 dX5_sum_44 (by decide) ?_
          refine lv_istore_n (lv' := [(3, .int v_33), (2, .int x2_6), (0, .ref (ad 77)), (1, .int a1)]) C0.1 C0.2.1 dX5_sum_50 rfl hl (by decide) rfl (fun ls hl => ?_)
          refine lv_aload_n C0.1 C0.2.1 dX5_sum_51 rfl (lv_at hl 2 rfl) ?_
          refine y_cv h (y_rV (As := []) (rest := []) C0 hZ h (c_X5_advance l G Z ad _ h.2) k_X5_advance q_616 q_0 q_614 kSC_77 rfl rfl rfl hl.1 rfl rfl (Nat.le_of_ble_eq_true rfl) dX5_sum_52 ⟨Nat.le_of_ble_eq_true rfl, Nat.le_of_ble_eq_true rfl⟩ ⟨Nat.le_of_ble_eq_true rfl, Nat.le_of_ble_eq_true rfl⟩) (fun H locs ws_35 h u_36 p_37 => ?_)
          refine lv_aload_n C0.1 C0.2.1 dX5_sum_55 rfl (lv_at hl 2 rfl) ?_
          refine lv_iload_n C0.1 C0.2.1 dX5_sum_56 rfl (lv_at hl 3 rfl) ?_
          refine y_cv h (y_rV (As := [.int a1]) (rest := []) C0 hZ h (c_X5_term_3 l G Z ad _ h.2 a1 (o24_51 l1 u1) (o24_52 l1 u1)) k_X5_term q_820 q_16 q_818 kSC_77 rfl rfl rfl hl.1 rfl rfl (Nat.le_of_ble_eq_true rfl) dX5_sum_57 ⟨Nat.le_of_ble_eq_true rfl, Nat.le_of_ble_eq_true rfl⟩ ⟨Nat.le_of_ble_eq_true rfl, Nat.le_of_ble_eq_true rfl⟩) (fun H locs ws_38 h u_39 p_40 => ?_)
          refine lv_aload_n C0.1 C0.2.1 dX5_sum_60 rfl (lv_at hl 2 rfl) ?_
          refine tg_X5_law C0 h kSC_77 q_380 dX5_sum_61 (fun i_41 hi_41 => ?_)
          refine lv_iload_n C0.1 C0.2.1 dX5_sum_64 rfl (lv_at hl 0 rfl) ?_
          refine y_cv h (y_rV (As := [.int v_33]) (rest := []) C0 hZ h (c_X4_add l G Z ad _ h.2 i_41 hi_41 v_33) k_X4_add q_827 q_828 q_826 hi_41 rfl rfl rfl hl.1 rfl rfl (Nat.le_of_ble_eq_true rfl) dX5_sum_65 ⟨Nat.le_of_ble_eq_true rfl, Nat.le_of_ble_eq_true rfl⟩ ⟨Nat.le_of_ble_eq_true rfl, Nat.le_of_ble_eq_true rfl⟩) (fun H locs ws_42 h u_43 p_44 => ?_)
          refine y_inc (kp := 1) (n := 1) (fun v_45 => [(2, .int v_45), (3, .int v_33), (0, .ref (ad 77)), (1, .int a1)]) C0 hl rfl (by decide) (by decide) (fun _ => rfl) (o24_16 b_13 b_14 hn_12 e_16 c_17 (le_min x2_6) (le_max x2_6) (le_min v_15) (le_max v_15)) (o24_17 b_13 b_14 hn_12 e_16 c_17 (le_min x2_6) (le_max x2_6) (le_min v_15) (le_max v_15)) dX5_sum_68 (fun v_45 ls e_46 hl => ?_)
          refine lv_goto (tgt := 7) C0.1 C0.2.1 dX5_sum_71 (by decide) ?_
          exact ih_10 v_45 _ _ _ _ (o24_18 b_13 b_14 hn_12 e_16 c_17 e_46) (o24_19 b_13 b_14 hn_12 e_16 c_17 e_46) (o24_20 b_13 b_14 hn_12 e_16 c_17 e_46) h (Fr.tr (Fr.tr (Fr.tr hF_8 (Fr.mono u_36 (by decide))) u_39) (Fr.mono u_43 (by decide))) (lv_sub hl [0, 2, 3] rfl)
        · -- 20
          refine lv_aload_n C0.1 C0.2.1 dX5_sum_23 rfl (lv_at hl 1 rfl) ?_
          refine tg_X5_kind C0 h kSC_77 q_374 dX5_sum_24 (fun v_47 e_48 e_49 e_50 => ?_)
          have q_51 : v_47.toInt = v_18.toInt := congrArg Int32.toInt (e_48.symm.trans (Eq.trans rfl e_19))
          refine y_c2 (n := 45) C0 (by decide) dX5_sum_27 (fun v_52 e_53 => ?_)
          refine y_icmp_ne (tgt := 74) C0 dX5_sum_29 (by decide) (fun c_54 => ?_) (fun c_54 => ?_)
          · -- 29
            rw [hQ]
            exact y_vret C0 h (Fr.tr u_2 hF_8) trivial dX5_sum_74
          · -- 29
            refine lv_aload_n C0.1 C0.2.1 dX5_sum_32 rfl (lv_at hl 1 rfl) ?_
            refine tg_X5_kind C0 h kSC_77 q_374 dX5_sum_33 (fun v_55 e_56 e_57 e_58 => ?_)
            have q_59 : v_55.toInt = v_18.toInt := congrArg Int32.toInt (e_56.symm.trans (Eq.trans rfl e_19))
            refine y_c2 (n := 43) C0 (by decide) dX5_sum_36 (fun v_60 e_61 => ?_)
            refine y_icmp_ne (tgt := 47) C0 dX5_sum_38 (by decide) (fun c_62 => ?_) (fun c_62 => ((o24_25 e_23 c_24 q_51 e_53 c_54 q_59 e_61 c_62)).elim)
            refine y_c3 (n := 2001) C0 (by decide) dX5_sum_47 (fun v_63 e_64 => ?_)
            refine lv_istore_n (lv' := [(3, .int v_63), (2, .int x2_6), (0, .ref (ad 77)), (1, .int a1)]) C0.1 C0.2.1 dX5_sum_50 rfl hl (by decide) rfl (fun ls hl => ?_)
            refine lv_aload_n C0.1 C0.2.1 dX5_sum_51 rfl (lv_at hl 2 rfl) ?_
            refine y_cv h (y_rV (As := []) (rest := []) C0 hZ h (c_X5_advance l G Z ad _ h.2) k_X5_advance q_616 q_0 q_614 kSC_77 rfl rfl rfl hl.1 rfl rfl (Nat.le_of_ble_eq_true rfl) dX5_sum_52 ⟨Nat.le_of_ble_eq_true rfl, Nat.le_of_ble_eq_true rfl⟩ ⟨Nat.le_of_ble_eq_true rfl, Nat.le_of_ble_eq_true rfl⟩) (fun H locs ws_65 h u_66 p_67 => ?_)
            refine lv_aload_n C0.1 C0.2.1 dX5_sum_55 rfl (lv_at hl 2 rfl) ?_
            refine lv_iload_n C0.1 C0.2.1 dX5_sum_56 rfl (lv_at hl 3 rfl) ?_
            refine y_cv h (y_rV (As := [.int a1]) (rest := []) C0 hZ h (c_X5_term_3 l G Z ad _ h.2 a1 (o24_51 l1 u1) (o24_52 l1 u1)) k_X5_term q_820 q_16 q_818 kSC_77 rfl rfl rfl hl.1 rfl rfl (Nat.le_of_ble_eq_true rfl) dX5_sum_57 ⟨Nat.le_of_ble_eq_true rfl, Nat.le_of_ble_eq_true rfl⟩ ⟨Nat.le_of_ble_eq_true rfl, Nat.le_of_ble_eq_true rfl⟩) (fun H locs ws_68 h u_69 p_70 => ?_)
            refine lv_aload_n C0.1 C0.2.1 dX5_sum_60 rfl (lv_at hl 2 rfl) ?_
            refine tg_X5_law C0 h kSC_77 q_380 dX5_sum_61 (fun i_71 hi_71 => ?_)
            refine lv_iload_n C0.1 C0.2.1 dX5_sum_64 rfl (lv_at hl 0 rfl) ?_
            refine y_cv h (y_rV (As := [.int v_63]) (rest := []) C0 hZ h (c_X4_add l G Z ad _ h.2 i_71 hi_71 v_63) k_X4_add q_827 q_828 q_826 hi_71 rfl rfl rfl hl.1 rfl rfl (Nat.le_of_ble_eq_true rfl) dX5_sum_65 ⟨Nat.le_of_ble_eq_true rfl, Nat.le_of_ble_eq_true rfl⟩ ⟨Nat.le_of_ble_eq_true rfl, Nat.le_of_ble_eq_true rfl⟩) (fun H locs ws_72 h u_73 p_74 => ?_)
            refine y_inc (kp := 1) (n := 1) (fun v_75 => [(2, .int v_75), (3, .int v_63), (0, .ref (ad 77)), (1, .int a1)]) C0 hl rfl (by decide) (by decide) (fun _ => rfl) (o24_16 b_13 b_14 hn_12 e_16 c_17 (le_min x2_6) (le_max x2_6) (le_min v_15) (le_max v_15)) (o24_17 b_13 b_14 hn_12 e_16 c_17 (le_min x2_6) (le_max x2_6) (le_min v_15) (le_max v_15)) dX5_sum_68 (fun v_75 ls e_76 hl => ?_)
            refine lv_goto (tgt := 7) C0.1 C0.2.1 dX5_sum_71 (by decide) ?_
            exact ih_10 v_75 _ _ _ _ (o24_18 b_13 b_14 hn_12 e_16 c_17 e_76) (o24_19 b_13 b_14 hn_12 e_16 c_17 e_76) (o24_20 b_13 b_14 hn_12 e_16 c_17 e_76) h (Fr.tr (Fr.tr (Fr.tr hF_8 (Fr.mono u_66 (by decide))) u_69) (Fr.mono u_73 (by decide))) (lv_sub hl [0, 2, 3] rfl)
  exact lp_9 ((900 - v_4.toInt + 1).toNat) v_4 _ _ _ _ (o24_21 e_5) (o24_22 e_5) (o24_23 e_5) h Fr.rf (lv_sub hl [0, 1, 2] rfl)
set_option maxHeartbeats 4000000 in
set_option maxRecDepth 100000 in
theorem c_X5_unit_3 (l : Launch) (G : GG) (Z : RZ) (ad : Nat → Nat) (ws0 : va_W) (hT : Ty G (SC tt) ad ws0) (a1 : Int32) (l1 : 3 ≤ a1.toInt) (u1 : a1.toInt ≤ 3) : Mq l yX5_unit cX5_unit 3 none 18 G Z [.ref (ad 77), .int a1] ws0 (PV G (SC tt) ad [2, 3, 16] ws0 (fun u => True)) := by
  refine Mq.start (by decide) (Nat.le_of_ble_eq_true rfl) ?_
  intro p e s m below meth c A ls C0 hZ h hl
  have hl : lv_has ls 3 [(0, .ref (ad 77)), (1, .int a1)] := hl
  have h : Wt G (SC tt) ad A s s.heap [] ws0 := ⟨h, hT⟩
  obtain ⟨args, hargs⟩ : ∃ z, z = ([.ref (ad 77), .int a1] : List Value).toArray := ⟨_, rfl⟩
  rw [← hargs] at C0 ⊢
  have C0 : Cx p s m args meth c RX5 cX5_unit 3 none := C0
  obtain ⟨Q, hQ⟩ : ∃ z, z = MQ below ((PV G (SC tt) ad [2, 3, 16] ws0 (fun u => True)) A) args s 0 0 A := ⟨_, rfl⟩
  rw [← hQ]
  refine lv_aload_n C0.1 C0.2.1 dX5_unit_0 rfl (lv_at hl 0 rfl) ?_
  refine va_ldcS C0.1 C0.2.1 C0.2.2.2.1 (sr_19 hZ) dX5_unit_1 ?_
  refine y_ci h (y_rV (As := [.ref (Z.2.1 19)]) (rest := []) C0 hZ h (c_X5_isWord l G Z ad _ h.2 19 (by decide)) k_X5_isWord q_724 q_5 q_722 kSC_77 rfl rfl rfl hl.1 rfl rfl (Nat.le_of_ble_eq_true rfl) dX5_unit_3 ⟨Nat.le_of_ble_eq_true rfl, Nat.le_of_ble_eq_true rfl⟩ ⟨Nat.le_of_ble_eq_true rfl, Nat.le_of_ble_eq_true rfl⟩) (fun r_4 H locs ws_1 h u_2 p_3 => ?_)
  obtain ⟨e_5, e_6⟩ := p_3
  refine y_if_eq (tgt := 49) C0 dX5_unit_6 (by decide) (fun c_7 => ?_) (fun c_7 => ?_)
  · -- 6
    refine lv_aload_n C0.1 C0.2.1 dX5_unit_49 rfl (lv_at hl 0 rfl) ?_
    refine tg_X5_kind C0 h kSC_77 q_374 dX5_unit_50 (fun v_8 e_9 e_10 e_11 => ?_)
    refine y_c2 (n := 91) C0 (by decide) dX5_unit_53 (fun v_12 e_13 => ?_)
    refine y_icmp_ne (tgt := 86) C0 dX5_unit_55 (by decide) (fun c_14 => ?_) (fun c_14 => ?_)
    · -- 55
      refine lv_aload_n C0.1 C0.2.1 dX5_unit_86 rfl (lv_at hl 0 rfl) ?_
      refine lv_iload_n C0.1 C0.2.1 dX5_unit_87 rfl (lv_at hl 1 rfl) ?_
      refine y_cv h (y_rV (As := [.int a1]) (rest := []) C0 hZ h (c_X5_sum_3 l G Z ad _ h.2 a1 (o24_51 l1 u1) (o24_52 l1 u1)) k_X5_sum q_816 q_15 q_814 kSC_77 rfl rfl rfl hl.1 rfl rfl (Nat.le_of_ble_eq_true rfl) dX5_unit_88 ⟨Nat.le_of_ble_eq_true rfl, Nat.le_of_ble_eq_true rfl⟩ ⟨Nat.le_of_ble_eq_true rfl, Nat.le_of_ble_eq_true rfl⟩) (fun H locs ws_15 h u_16 p_17 => ?_)
      refine lv_aload_n C0.1 C0.2.1 dX5_unit_91 rfl (lv_at hl 0 rfl) ?_
      refine tg_X5_kind C0 h kSC_77 q_374 dX5_unit_92 (fun v_18 e_19 e_20 e_21 => ?_)
      refine y_c2 (n := 61) C0 (by decide) dX5_unit_95 (fun v_22 e_23 => ?_)
      refine y_icmp_ne (tgt := 106) C0 dX5_unit_97 (by decide) (fun c_24 => ?_) (fun c_24 => ?_)
      · -- 97
        refine lv_aload_n C0.1 C0.2.1 dX5_unit_106 rfl (lv_at hl 0 rfl) ?_
        refine tg_X5_kind C0 h kSC_77 q_374 dX5_unit_107 (fun v_25 e_26 e_27 e_28 => ?_)
        have q_29 : v_25.toInt = v_18.toInt := congrArg Int32.toInt (e_26.symm.trans (Eq.trans rfl e_19))
        refine y_c2 (n := 60) C0 (by decide) dX5_unit_110 (fun v_30 e_31 => ?_)
        refine y_icmp_ne (tgt := 121) C0 dX5_unit_112 (by decide) (fun c_32 => ?_) (fun c_32 => ?_)
        · -- 112
          refine lv_aload_n C0.1 C0.2.1 dX5_unit_121 rfl (lv_at hl 0 rfl) ?_
          refine tg_X5_kind C0 h kSC_77 q_374 dX5_unit_122 (fun v_33 e_34 e_35 e_36 => ?_)
          have q_37 : v_33.toInt = v_18.toInt := congrArg Int32.toInt (e_34.symm.trans (Eq.trans rfl e_19))
          refine y_c2 (n := 62) C0 (by decide) dX5_unit_125 (fun v_38 e_39 => ?_)
          refine y_icmp_ne (tgt := 136) C0 dX5_unit_127 (by decide) (fun c_40 => ?_) (fun c_40 => ?_)
          · -- 127
            refine y_c1 (n := (-1)) C0 (by decide) dX5_unit_136 (fun v_41 e_42 => ?_)
            refine lv_istore_n (lv' := [(2, .int v_41), (0, .ref (ad 77)), (1, .int a1)]) C0.1 C0.2.1 dX5_unit_137 rfl hl (by decide) rfl (fun ls hl => ?_)
            refine lv_iload_n C0.1 C0.2.1 dX5_unit_138 rfl (lv_at hl 0 rfl) ?_
            refine y_if_ge (tgt := 148) C0 dX5_unit_139 (by decide) (fun c_43 => ((o24_5 e_42 c_43)).elim) (fun c_43 => ?_)
            refine lv_aload_n C0.1 C0.2.1 dX5_unit_142 rfl (lv_at hl 1 rfl) ?_
            refine y_c1 (n := 2) C0 (by decide) dX5_unit_143 (fun v_44 e_45 => ?_)
            refine y_cv h (y_rV (As := [.int v_44]) (rest := []) C0 hZ h (c_X5_fail l G Z ad _ h.2 v_44) k_X5_fail q_628 q_3 q_626 kSC_77 rfl rfl rfl hl.1 rfl rfl (Nat.le_of_ble_eq_true rfl) dX5_unit_144 ⟨Nat.le_of_ble_eq_true rfl, Nat.le_of_ble_eq_true rfl⟩ ⟨Nat.le_of_ble_eq_true rfl, Nat.le_of_ble_eq_true rfl⟩) (fun H locs ws_46 h u_47 p_48 => ?_)
            rw [hQ]
            exact y_vret C0 h (Fr.tr (Fr.tr (Fr.mono u_2 (by decide)) u_16) (Fr.mono u_47 (by decide))) trivial dX5_unit_147
          · -- 127
            refine y_c3 (n := 2005) C0 (by decide) dX5_unit_130 (fun v_49 e_50 => ?_)
            refine lv_goto (tgt := 137) C0.1 C0.2.1 dX5_unit_133 (by decide) ?_
            refine lv_istore_n (lv' := [(2, .int v_49), (0, .ref (ad 77)), (1, .int a1)]) C0.1 C0.2.1 dX5_unit_137 rfl hl (by decide) rfl (fun ls hl => ?_)
            refine lv_iload_n C0.1 C0.2.1 dX5_unit_138 rfl (lv_at hl 0 rfl) ?_
            refine y_if_ge (tgt := 148) C0 dX5_unit_139 (by decide) (fun c_51 => ?_) (fun c_51 => ((o24_26 e_50 c_51)).elim)
            refine lv_aload_n C0.1 C0.2.1 dX5_unit_148 rfl (lv_at hl 1 rfl) ?_
            refine y_cv h (y_rV (As := []) (rest := []) C0 hZ h (c_X5_advance l G Z ad _ h.2) k_X5_advance q_616 q_0 q_614 kSC_77 rfl rfl rfl hl.1 rfl rfl (Nat.le_of_ble_eq_true rfl) dX5_unit_149 ⟨Nat.le_of_ble_eq_true rfl, Nat.le_of_ble_eq_true rfl⟩ ⟨Nat.le_of_ble_eq_true rfl, Nat.le_of_ble_eq_true rfl⟩) (fun H locs ws_52 h u_53 p_54 => ?_)
            refine lv_aload_n C0.1 C0.2.1 dX5_unit_152 rfl (lv_at hl 1 rfl) ?_
            refine lv_iload_n C0.1 C0.2.1 dX5_unit_153 rfl (lv_at hl 2 rfl) ?_
            refine y_cv h (y_rV (As := [.int a1]) (rest := []) C0 hZ h (c_X5_sum_3 l G Z ad _ h.2 a1 (o24_51 l1 u1) (o24_52 l1 u1)) k_X5_sum q_816 q_15 q_814 kSC_77 rfl rfl rfl hl.1 rfl rfl (Nat.le_of_ble_eq_true rfl) dX5_unit_154 ⟨Nat.le_of_ble_eq_true rfl, Nat.le_of_ble_eq_true rfl⟩ ⟨Nat.le_of_ble_eq_true rfl, Nat.le_of_ble_eq_true rfl⟩) (fun H locs ws_55 h u_56 p_57 => ?_)
            refine lv_aload_n C0.1 C0.2.1 dX5_unit_157 rfl (lv_at hl 1 rfl) ?_
            refine tg_X5_law C0 h kSC_77 q_380 dX5_unit_158 (fun i_58 hi_58 => ?_)
            refine lv_iload_n C0.1 C0.2.1 dX5_unit_161 rfl (lv_at hl 0 rfl) ?_
            refine y_cv h (y_rV (As := [.int v_49]) (rest := []) C0 hZ h (c_X4_add l G Z ad _ h.2 i_58 hi_58 v_49) k_X4_add q_827 q_828 q_826 hi_58 rfl rfl rfl hl.1 rfl rfl (Nat.le_of_ble_eq_true rfl) dX5_unit_162 ⟨Nat.le_of_ble_eq_true rfl, Nat.le_of_ble_eq_true rfl⟩ ⟨Nat.le_of_ble_eq_true rfl, Nat.le_of_ble_eq_true rfl⟩) (fun H locs ws_59 h u_60 p_61 => ?_)
            rw [hQ]
            exact y_vret C0 h (Fr.tr (Fr.tr (Fr.tr (Fr.tr (Fr.mono u_2 (by decide)) u_16) (Fr.mono u_53 (by decide))) u_56) (Fr.mono u_60 (by decide))) trivial dX5_unit_165
        · -- 112
          refine y_c3 (n := 2004) C0 (by decide) dX5_unit_115 (fun v_62 e_63 => ?_)
          refine lv_goto (tgt := 137) C0.1 C0.2.1 dX5_unit_118 (by decide) ?_
          refine lv_istore_n (lv' := [(2, .int v_62), (0, .ref (ad 77)), (1, .int a1)]) C0.1 C0.2.1 dX5_unit_137 rfl hl (by decide) rfl (fun ls hl => ?_)
          refine lv_iload_n C0.1 C0.2.1 dX5_unit_138 rfl (lv_at hl 0 rfl) ?_
          refine y_if_ge (tgt := 148) C0 dX5_unit_139 (by decide) (fun c_64 => ?_) (fun c_64 => ((o24_27 e_63 c_64)).elim)
          refine lv_aload_n C0.1 C0.2.1 dX5_unit_148 rfl (lv_at hl 1 rfl) ?_
          refine y_cv h (y_rV (As := []) (rest := []) C0 hZ h (c_X5_advance l G Z ad _ h.2) k_X5_advance q_616 q_0 q_614 kSC_77 rfl rfl rfl hl.1 rfl rfl (Nat.le_of_ble_eq_true rfl) dX5_unit_149 ⟨Nat.le_of_ble_eq_true rfl, Nat.le_of_ble_eq_true rfl⟩ ⟨Nat.le_of_ble_eq_true rfl, Nat.le_of_ble_eq_true rfl⟩) (fun H locs ws_65 h u_66 p_67 => ?_)
          refine lv_aload_n C0.1 C0.2.1 dX5_unit_152 rfl (lv_at hl 1 rfl) ?_
          refine lv_iload_n C0.1 C0.2.1 dX5_unit_153 rfl (lv_at hl 2 rfl) ?_
          refine y_cv h (y_rV (As := [.int a1]) (rest := []) C0 hZ h (c_X5_sum_3 l G Z ad _ h.2 a1 (o24_51 l1 u1) (o24_52 l1 u1)) k_X5_sum q_816 q_15 q_814 kSC_77 rfl rfl rfl hl.1 rfl rfl (Nat.le_of_ble_eq_true rfl) dX5_unit_154 ⟨Nat.le_of_ble_eq_true rfl, Nat.le_of_ble_eq_true rfl⟩ ⟨Nat.le_of_ble_eq_true rfl, Nat.le_of_ble_eq_true rfl⟩) (fun H locs ws_68 h u_69 p_70 => ?_)
          refine lv_aload_n C0.1 C0.2.1 dX5_unit_157 rfl (lv_at hl 1 rfl) ?_
          refine tg_X5_law C0 h kSC_77 q_380 dX5_unit_158 (fun i_71 hi_71 => ?_)
          refine lv_iload_n C0.1 C0.2.1 dX5_unit_161 rfl (lv_at hl 0 rfl) ?_
          refine y_cv h (y_rV (As := [.int v_62]) (rest := []) C0 hZ h (c_X4_add l G Z ad _ h.2 i_71 hi_71 v_62) k_X4_add q_827 q_828 q_826 hi_71 rfl rfl rfl hl.1 rfl rfl (Nat.le_of_ble_eq_true rfl) dX5_unit_162 ⟨Nat.le_of_ble_eq_true rfl, Nat.le_of_ble_eq_true rfl⟩ ⟨Nat.le_of_ble_eq_true rfl, Nat.le_of_ble_eq_true rfl⟩) (fun H locs ws_72 h u_73 p_74 => ?_)
          rw [hQ]
          exact y_vret C0 h (Fr.tr (Fr.tr (Fr.tr (Fr.tr (Fr.mono u_2 (by decide)) u_16) (Fr.mono u_66 (by decide))) u_69) (Fr.mono u_73 (by decide))) trivial dX5_unit_165
      · -- 97
        refine y_c3 (n := 2003) C0 (by decide) dX5_unit_100 (fun v_75 e_76 => ?_)
        refine lv_goto (tgt := 137) C0.1 C0.2.1 dX5_unit_103 (by decide) ?_
        refine lv_istore_n (lv' := [(2, .int v_75), (0, .ref (ad 77)), (1, .int a1)]) C0.1 C0.2.1 dX5_unit_137 rfl hl (by decide) rfl (fun ls hl => ?_)
        refine lv_iload_n C0.1 C0.2.1 dX5_unit_138 rfl (lv_at hl 0 rfl) ?_
        refine y_if_ge (tgt := 148) C0 dX5_unit_139 (by decide) (fun c_77 => ?_) (fun c_77 => ((o24_28 e_76 c_77)).elim)
        refine lv_aload_n C0.1 C0.2.1 dX5_unit_148 rfl (lv_at hl 1 rfl) ?_
        refine y_cv h (y_rV (As := []) (rest := []) C0 hZ h (c_X5_advance l G Z ad _ h.2) k_X5_advance q_616 q_0 q_614 kSC_77 rfl rfl rfl hl.1 rfl rfl (Nat.le_of_ble_eq_true rfl) dX5_unit_149 ⟨Nat.le_of_ble_eq_true rfl, Nat.le_of_ble_eq_true rfl⟩ ⟨Nat.le_of_ble_eq_true rfl, Nat.le_of_ble_eq_true rfl⟩) (fun H locs ws_78 h u_79 p_80 => ?_)
        refine lv_aload_n C0.1 C0.2.1 dX5_unit_152 rfl (lv_at hl 1 rfl) ?_
        refine lv_iload_n C0.1 C0.2.1 dX5_unit_153 rfl (lv_at hl 2 rfl) ?_
        refine y_cv h (y_rV (As := [.int a1]) (rest := []) C0 hZ h (c_X5_sum_3 l G Z ad _ h.2 a1 (o24_51 l1 u1) (o24_52 l1 u1)) k_X5_sum q_816 q_15 q_814 kSC_77 rfl rfl rfl hl.1 rfl rfl (Nat.le_of_ble_eq_true rfl) dX5_unit_154 ⟨Nat.le_of_ble_eq_true rfl, Nat.le_of_ble_eq_true rfl⟩ ⟨Nat.le_of_ble_eq_true rfl, Nat.le_of_ble_eq_true rfl⟩) (fun H locs ws_81 h u_82 p_83 => ?_)
        refine lv_aload_n C0.1 C0.2.1 dX5_unit_157 rfl (lv_at hl 1 rfl) ?_
        refine tg_X5_law C0 h kSC_77 q_380 dX5_unit_158 (fun i_84 hi_84 => ?_)
        refine lv_iload_n C0.1 C0.2.1 dX5_unit_161 rfl (lv_at hl 0 rfl) ?_
        refine y_cv h (y_rV (As := [.int v_75]) (rest := []) C0 hZ h (c_X4_add l G Z ad _ h.2 i_84 hi_84 v_75) k_X4_add q_827 q_828 q_826 hi_84 rfl rfl rfl hl.1 rfl rfl (Nat.le_of_ble_eq_true rfl) dX5_unit_162 ⟨Nat.le_of_ble_eq_true rfl, Nat.le_of_ble_eq_true rfl⟩ ⟨Nat.le_of_ble_eq_true rfl, Nat.le_of_ble_eq_true rfl⟩) (fun H locs ws_85 h u_86 p_87 => ?_)
        rw [hQ]
        exact y_vret C0 h (Fr.tr (Fr.tr (Fr.tr (Fr.tr (Fr.mono u_2 (by decide)) u_16) (Fr.mono u_79 (by decide))) u_82) (Fr.mono u_86 (by decide))) trivial dX5_unit_165
    · -- 55
      refine lv_aload_n C0.1 C0.2.1 dX5_unit_58 rfl (lv_at hl 0 rfl) ?_
      refine lv_iload_n C0.1 C0.2.1 dX5_unit_59 rfl (lv_at hl 1 rfl) ?_
      refine y_ci h (y_rV (As := [.int a1]) (rest := []) C0 hZ h (c_X5_tooDeep_3 l G Z ad _ h.2 a1 (o24_51 l1 u1) (o24_52 l1 u1)) k_X5_tooDeep q_832 q_18 q_830 kSC_77 rfl rfl rfl hl.1 rfl rfl (Nat.le_of_ble_eq_true rfl) dX5_unit_60 ⟨Nat.le_of_ble_eq_true rfl, Nat.le_of_ble_eq_true rfl⟩ ⟨Nat.le_of_ble_eq_true rfl, Nat.le_of_ble_eq_true rfl⟩) (fun r_91 H locs ws_88 h u_89 p_90 => ?_)
      obtain ⟨e_92, e_93⟩ := p_90
      refine y_if_ne (tgt := 165) C0 dX5_unit_63 (by decide) (fun c_94 => ((o24_34 e_92 e_93 c_94)).elim) (fun c_94 => ?_)
      refine lv_aload_n C0.1 C0.2.1 dX5_unit_66 rfl (lv_at hl 0 rfl) ?_
      refine y_cv h (y_rV (As := []) (rest := []) C0 hZ h (c_X5_advance l G Z ad _ h.2) k_X5_advance q_616 q_0 q_614 kSC_77 rfl rfl rfl hl.1 rfl rfl (Nat.le_of_ble_eq_true rfl) dX5_unit_67 ⟨Nat.le_of_ble_eq_true rfl, Nat.le_of_ble_eq_true rfl⟩ ⟨Nat.le_of_ble_eq_true rfl, Nat.le_of_ble_eq_true rfl⟩) (fun H locs ws_95 h u_96 p_97 => ?_)
      refine lv_aload_n C0.1 C0.2.1 dX5_unit_70 rfl (lv_at hl 0 rfl) ?_
      refine lv_iload_n C0.1 C0.2.1 dX5_unit_71 rfl (lv_at hl 1 rfl) ?_
      refine y_c1 (n := 1) C0 (by decide) dX5_unit_72 (fun v_98 e_99 => ?_)
      refine y_add C0 (o24_53 l1 u1 e_99 (le_min a1) (le_max a1) (le_min v_98) (le_max v_98)) (o24_54 l1 u1 e_99 (le_min a1) (le_max a1) (le_min v_98) (le_max v_98)) dX5_unit_73 (fun v_100 e_101 => ?_)
      refine y_cv h (y_rV (As := [.int v_100]) (rest := []) C0 hZ h (c_X5_truth_4 l G Z ad _ h.2 v_100 (o24_55 l1 u1 e_99 e_101) (o24_56 l1 u1 e_99 e_101)) k_X5_truth q_843 q_19 q_841 kSC_77 rfl rfl rfl hl.1 rfl rfl (Nat.le_of_ble_eq_true rfl) dX5_unit_74 ⟨Nat.le_of_ble_eq_true rfl, Nat.le_of_ble_eq_true rfl⟩ ⟨Nat.le_of_ble_eq_true rfl, Nat.le_of_ble_eq_true rfl⟩) (fun H locs ws_102 h u_103 p_104 => ?_)
      refine lv_aload_n C0.1 C0.2.1 dX5_unit_77 rfl (lv_at hl 0 rfl) ?_
      refine y_c2 (n := 93) C0 (by decide) dX5_unit_78 (fun v_105 e_106 => ?_)
      refine y_cv h (y_rV (As := [.int v_105]) (rest := []) C0 hZ h (c_X5_sign l G Z ad _ h.2 v_105 (o24_41 e_106) (o24_42 e_106)) k_X5_sign q_812 q_14 q_810 kSC_77 rfl rfl rfl hl.1 rfl rfl (Nat.le_of_ble_eq_true rfl) dX5_unit_80 ⟨Nat.le_of_ble_eq_true rfl, Nat.le_of_ble_eq_true rfl⟩ ⟨Nat.le_of_ble_eq_true rfl, Nat.le_of_ble_eq_true rfl⟩) (fun H locs ws_107 h u_108 p_109 => ?_)
      refine lv_goto (tgt := 165) C0.1 C0.2.1 dX5_unit_83 (by decide) ?_
      rw [hQ]
      exact y_vret C0 h (Fr.tr (Fr.tr (Fr.tr (Fr.tr (Fr.mono u_2 (by decide)) (Fr.mono u_89 (by decide))) (Fr.mono u_96 (by decide))) u_103) (Fr.mono u_108 (by decide))) trivial dX5_unit_165
  · -- 6
    refine lv_aload_n C0.1 C0.2.1 dX5_unit_9 rfl (lv_at hl 0 rfl) ?_
    refine lv_iload_n C0.1 C0.2.1 dX5_unit_10 rfl (lv_at hl 1 rfl) ?_
    refine y_ci h (y_rV (As := [.int a1]) (rest := []) C0 hZ h (c_X5_tooDeep_3 l G Z ad _ h.2 a1 (o24_51 l1 u1) (o24_52 l1 u1)) k_X5_tooDeep q_832 q_18 q_830 kSC_77 rfl rfl rfl hl.1 rfl rfl (Nat.le_of_ble_eq_true rfl) dX5_unit_11 ⟨Nat.le_of_ble_eq_true rfl, Nat.le_of_ble_eq_true rfl⟩ ⟨Nat.le_of_ble_eq_true rfl, Nat.le_of_ble_eq_true rfl⟩) (fun r_113 H locs ws_110 h u_111 p_112 => ?_)
    obtain ⟨e_114, e_115⟩ := p_112
    refine y_if_ne (tgt := 165) C0 dX5_unit_14 (by decide) (fun c_116 => ((o24_34 e_114 e_115 c_116)).elim) (fun c_116 => ?_)
    refine lv_aload_n C0.1 C0.2.1 dX5_unit_17 rfl (lv_at hl 0 rfl) ?_
    refine y_cv h (y_rV (As := []) (rest := []) C0 hZ h (c_X5_advance l G Z ad _ h.2) k_X5_advance q_616 q_0 q_614 kSC_77 rfl rfl rfl hl.1 rfl rfl (Nat.le_of_ble_eq_true rfl) dX5_unit_18 ⟨Nat.le_of_ble_eq_true rfl, Nat.le_of_ble_eq_true rfl⟩ ⟨Nat.le_of_ble_eq_true rfl, Nat.le_of_ble_eq_true rfl⟩) (fun H locs ws_117 h u_118 p_119 => ?_)
    refine lv_aload_n C0.1 C0.2.1 dX5_unit_21 rfl (lv_at hl 0 rfl) ?_
    refine lv_iload_n C0.1 C0.2.1 dX5_unit_22 rfl (lv_at hl 1 rfl) ?_
    refine y_c1 (n := 1) C0 (by decide) dX5_unit_23 (fun v_120 e_121 => ?_)
    refine y_add C0 (o24_53 l1 u1 e_121 (le_min a1) (le_max a1) (le_min v_120) (le_max v_120)) (o24_54 l1 u1 e_121 (le_min a1) (le_max a1) (le_min v_120) (le_max v_120)) dX5_unit_24 (fun v_122 e_123 => ?_)
    refine y_cv h (y_rV (As := [.int v_122]) (rest := []) C0 hZ h (c_X5_unit_4 l G Z ad _ h.2 v_122 (o24_55 l1 u1 e_121 e_123) (o24_56 l1 u1 e_121 e_123)) k_X5_unit q_851 q_21 q_849 kSC_77 rfl rfl rfl hl.1 rfl rfl (Nat.le_of_ble_eq_true rfl) dX5_unit_25 ⟨Nat.le_of_ble_eq_true rfl, Nat.le_of_ble_eq_true rfl⟩ ⟨Nat.le_of_ble_eq_true rfl, Nat.le_of_ble_eq_true rfl⟩) (fun H locs ws_124 h u_125 p_126 => ?_)
    refine lv_aload_n C0.1 C0.2.1 dX5_unit_28 rfl (lv_at hl 0 rfl) ?_
    refine tg_X5_law C0 h kSC_77 q_380 dX5_unit_29 (fun i_127 hi_127 => ?_)
    refine y_c1 (n := 0) C0 (by decide) dX5_unit_32 (fun v_128 e_129 => ?_)
    refine y_cv h (y_rV (As := [.int v_128]) (rest := []) C0 hZ h (c_X4_add l G Z ad _ h.2 i_127 hi_127 v_128) k_X4_add q_827 q_828 q_826 hi_127 rfl rfl rfl hl.1 rfl rfl (Nat.le_of_ble_eq_true rfl) dX5_unit_33 ⟨Nat.le_of_ble_eq_true rfl, Nat.le_of_ble_eq_true rfl⟩ ⟨Nat.le_of_ble_eq_true rfl, Nat.le_of_ble_eq_true rfl⟩) (fun H locs ws_130 h u_131 p_132 => ?_)
    refine lv_aload_n C0.1 C0.2.1 dX5_unit_36 rfl (lv_at hl 0 rfl) ?_
    refine tg_X5_law C0 h kSC_77 q_380 dX5_unit_37 (fun i_133 hi_133 => ?_)
    refine y_c3 (n := 2003) C0 (by decide) dX5_unit_40 (fun v_134 e_135 => ?_)
    refine y_cv h (y_rV (As := [.int v_134]) (rest := []) C0 hZ h (c_X4_add l G Z ad _ h.2 i_133 hi_133 v_134) k_X4_add q_827 q_828 q_826 hi_133 rfl rfl rfl hl.1 rfl rfl (Nat.le_of_ble_eq_true rfl) dX5_unit_43 ⟨Nat.le_of_ble_eq_true rfl, Nat.le_of_ble_eq_true rfl⟩ ⟨Nat.le_of_ble_eq_true rfl, Nat.le_of_ble_eq_true rfl⟩) (fun H locs ws_136 h u_137 p_138 => ?_)
    refine lv_goto (tgt := 165) C0.1 C0.2.1 dX5_unit_46 (by decide) ?_
    rw [hQ]
    exact y_vret C0 h (Fr.tr (Fr.tr (Fr.tr (Fr.tr (Fr.tr (Fr.mono u_2 (by decide)) (Fr.mono u_111 (by decide))) (Fr.mono u_118 (by decide))) u_125) (Fr.mono u_131 (by decide))) (Fr.mono u_137 (by decide))) trivial dX5_unit_165
set_option maxHeartbeats 4000000 in
set_option maxRecDepth 100000 in
theorem c_X5_both_3 (l : Launch) (G : GG) (Z : RZ) (ad : Nat → Nat) (ws0 : va_W) (hT : Ty G (SC tt) ad ws0) (a1 : Int32) (l1 : 3 ≤ a1.toInt) (u1 : a1.toInt ≤ 3) : Mq l yX5_both cX5_both 3 none 19 G Z [.ref (ad 77), .int a1] ws0 (PV G (SC tt) ad [2, 3, 16] ws0 (fun u => True)) := by
  refine Mq.start (by decide) (Nat.le_of_ble_eq_true rfl) ?_
  intro p e s m below meth c A ls C0 hZ h hl
  have hl : lv_has ls 3 [(0, .ref (ad 77)), (1, .int a1)] := hl
  have h : Wt G (SC tt) ad A s s.heap [] ws0 := ⟨h, hT⟩
  obtain ⟨args, hargs⟩ : ∃ z, z = ([.ref (ad 77), .int a1] : List Value).toArray := ⟨_, rfl⟩
  rw [← hargs] at C0 ⊢
  have C0 : Cx p s m args meth c RX5 cX5_both 3 none := C0
  obtain ⟨Q, hQ⟩ : ∃ z, z = MQ below ((PV G (SC tt) ad [2, 3, 16] ws0 (fun u => True)) A) args s 0 0 A := ⟨_, rfl⟩
  rw [← hQ]
  refine lv_aload_n C0.1 C0.2.1 dX5_both_0 rfl (lv_at hl 0 rfl) ?_
  refine lv_iload_n C0.1 C0.2.1 dX5_both_1 rfl (lv_at hl 1 rfl) ?_
  refine y_cv h (y_rV (As := [.int a1]) (rest := []) C0 hZ h (c_X5_unit_3 l G Z ad _ h.2 a1 (o24_51 l1 u1) (o24_52 l1 u1)) k_X5_unit q_851 q_21 q_849 kSC_77 rfl rfl rfl hl.1 rfl rfl (Nat.le_of_ble_eq_true rfl) dX5_both_2 ⟨Nat.le_of_ble_eq_true rfl, Nat.le_of_ble_eq_true rfl⟩ ⟨Nat.le_of_ble_eq_true rfl, Nat.le_of_ble_eq_true rfl⟩) (fun H locs ws_1 h u_2 p_3 => ?_)
  refine y_c1 (n := 0) C0 (by decide) dX5_both_5 (fun v_4 e_5 => ?_)
  refine lv_istore_n (lv' := [(2, .int v_4), (0, .ref (ad 77)), (1, .int a1)]) C0.1 C0.2.1 dX5_both_6 rfl hl (by decide) rfl (fun ls hl => ?_)
  have lp_9 : ∀ (n_11 : Nat) (x2_6 : Int32) (H : Heap) (locs : List Loc) (ls : Array Slot) (ws_7 : va_W), 900 - x2_6.toInt < (n_11 : Int) → 0 ≤ x2_6.toInt → x2_6.toInt ≤ 900 → Wt G (SC tt) ad A s H locs ws_7 → Fr (SC tt) [2, 3, 16] ws_1 ws_7 → lv_has ls 3 [(2, .int x2_6), (0, .ref (ad 77)), (1, .int a1)] → W p l e (rmd 19 0 0) s m args below meth c H locs 0 0 Q (F0 m 7 ls []) := by
    intro n_11
    induction n_11 with
    | zero => intro x2_6 H locs ls ws_7 hn_12 b_13 b_14 h hF_8 hl; exact ((o24_15 b_13 b_14 hn_12)).elim
    | succ n_11 ih_10 =>
      intro x2_6 H locs ls ws_7 hn_12 b_13 b_14 h hF_8 hl
      refine lv_iload_n C0.1 C0.2.1 dX5_both_7 rfl (lv_at hl 0 rfl) ?_
      refine y_c3 (n := 900) C0 (by decide) dX5_both_8 (fun v_15 e_16 => ?_)
      refine y_icmp_ge (tgt := 48) C0 dX5_both_11 (by decide) (fun c_17 => ?_) (fun c_17 => ?_)
      · -- 11
        rw [hQ]
        exact y_vret C0 h (Fr.tr u_2 hF_8) trivial dX5_both_48
      · -- 11
        refine lv_aload_n C0.1 C0.2.1 dX5_both_14 rfl (lv_at hl 1 rfl) ?_
        refine va_ldcS C0.1 C0.2.1 C0.2.2.2.1 (sr_20 hZ) dX5_both_15 ?_
        refine y_ci h (y_rV (As := [.ref (Z.2.1 20)]) (rest := []) C0 hZ h (c_X5_isWord l G Z ad _ h.2 20 (by decide)) k_X5_isWord q_724 q_5 q_722 kSC_77 rfl rfl rfl hl.1 rfl rfl (Nat.le_of_ble_eq_true rfl) dX5_both_17 ⟨Nat.le_of_ble_eq_true rfl, Nat.le_of_ble_eq_true rfl⟩ ⟨Nat.le_of_ble_eq_true rfl, Nat.le_of_ble_eq_true rfl⟩) (fun r_21 H locs ws_18 h u_19 p_20 => ?_)
        obtain ⟨e_22, e_23⟩ := p_20
        refine y_if_eq (tgt := 48) C0 dX5_both_20 (by decide) (fun c_24 => ?_) (fun c_24 => ?_)
        · -- 20
          rw [hQ]
          exact y_vret C0 h (Fr.tr (Fr.tr u_2 hF_8) (Fr.mono u_19 (by decide))) trivial dX5_both_48
        · -- 20
          refine lv_aload_n C0.1 C0.2.1 dX5_both_23 rfl (lv_at hl 1 rfl) ?_
          refine y_cv h (y_rV (As := []) (rest := []) C0 hZ h (c_X5_advance l G Z ad _ h.2) k_X5_advance q_616 q_0 q_614 kSC_77 rfl rfl rfl hl.1 rfl rfl (Nat.le_of_ble_eq_true rfl) dX5_both_24 ⟨Nat.le_of_ble_eq_true rfl, Nat.le_of_ble_eq_true rfl⟩ ⟨Nat.le_of_ble_eq_true rfl, Nat.le_of_ble_eq_true rfl⟩) (fun H locs ws_25 h u_26 p_27 => ?_)
          refine lv_aload_n C0.1 C0.2.1 dX5_both_27 rfl (lv_at hl 1 rfl) ?_
          refine lv_iload_n C0.1 C0.2.1 dX5_both_28 rfl (lv_at hl 2 rfl) ?_
          refine y_cv h (y_rV (As := [.int a1]) (rest := []) C0 hZ h (c_X5_unit_3 l G Z ad _ h.2 a1 (o24_51 l1 u1) (o24_52 l1 u1)) k_X5_unit q_851 q_21 q_849 kSC_77 rfl rfl rfl hl.1 rfl rfl (Nat.le_of_ble_eq_true rfl) dX5_both_29 ⟨Nat.le_of_ble_eq_true rfl, Nat.le_of_ble_eq_true rfl⟩ ⟨Nat.le_of_ble_eq_true rfl, Nat.le_of_ble_eq_true rfl⟩) (fun H locs ws_28 h u_29 p_30 => ?_)
          refine lv_aload_n C0.1 C0.2.1 dX5_both_32 rfl (lv_at hl 1 rfl) ?_
          refine tg_X5_law C0 h kSC_77 q_380 dX5_both_33 (fun i_31 hi_31 => ?_)
          refine y_c3 (n := 2006) C0 (by decide) dX5_both_36 (fun v_32 e_33 => ?_)
          refine y_cv h (y_rV (As := [.int v_32]) (rest := []) C0 hZ h (c_X4_add l G Z ad _ h.2 i_31 hi_31 v_32) k_X4_add q_827 q_828 q_826 hi_31 rfl rfl rfl hl.1 rfl rfl (Nat.le_of_ble_eq_true rfl) dX5_both_39 ⟨Nat.le_of_ble_eq_true rfl, Nat.le_of_ble_eq_true rfl⟩ ⟨Nat.le_of_ble_eq_true rfl, Nat.le_of_ble_eq_true rfl⟩) (fun H locs ws_34 h u_35 p_36 => ?_)
          refine y_inc (kp := 0) (n := 1) (fun v_37 => [(2, .int v_37), (0, .ref (ad 77)), (1, .int a1)]) C0 hl rfl (by decide) (by decide) (fun _ => rfl) (o24_16 b_13 b_14 hn_12 e_16 c_17 (le_min x2_6) (le_max x2_6) (le_min v_15) (le_max v_15)) (o24_17 b_13 b_14 hn_12 e_16 c_17 (le_min x2_6) (le_max x2_6) (le_min v_15) (le_max v_15)) dX5_both_42 (fun v_37 ls e_38 hl => ?_)
          refine lv_goto (tgt := 7) C0.1 C0.2.1 dX5_both_45 (by decide) ?_
          exact ih_10 v_37 _ _ _ _ (o24_18 b_13 b_14 hn_12 e_16 c_17 e_38) (o24_19 b_13 b_14 hn_12 e_16 c_17 e_38) (o24_20 b_13 b_14 hn_12 e_16 c_17 e_38) h (Fr.tr (Fr.tr (Fr.tr (Fr.tr hF_8 (Fr.mono u_19 (by decide))) (Fr.mono u_26 (by decide))) u_29) (Fr.mono u_35 (by decide))) (lv_sub hl [0, 1, 2] rfl)
  exact lp_9 ((900 - v_4.toInt + 1).toNat) v_4 _ _ _ _ (o24_21 e_5) (o24_22 e_5) (o24_23 e_5) h Fr.rf (lv_sub hl [0, 1, 2] rfl)
set_option maxHeartbeats 4000000 in
set_option maxRecDepth 100000 in
theorem c_X5_truth_3 (l : Launch) (G : GG) (Z : RZ) (ad : Nat → Nat) (ws0 : va_W) (hT : Ty G (SC tt) ad ws0) (a1 : Int32) (l1 : 3 ≤ a1.toInt) (u1 : a1.toInt ≤ 3) : Mq l yX5_truth cX5_truth 3 none 20 G Z [.ref (ad 77), .int a1] ws0 (PV G (SC tt) ad [2, 3, 16] ws0 (fun u => True)) := by
  refine Mq.start (by decide) (Nat.le_of_ble_eq_true rfl) ?_
  intro p e s m below meth c A ls C0 hZ h hl
  have hl : lv_has ls 3 [(0, .ref (ad 77)), (1, .int a1)] := hl
  have h : Wt G (SC tt) ad A s s.heap [] ws0 := ⟨h, hT⟩
  obtain ⟨args, hargs⟩ : ∃ z, z = ([.ref (ad 77), .int a1] : List Value).toArray := ⟨_, rfl⟩
  rw [← hargs] at C0 ⊢
  have C0 : Cx p s m args meth c RX5 cX5_truth 3 none := C0
  obtain ⟨Q, hQ⟩ : ∃ z, z = MQ below ((PV G (SC tt) ad [2, 3, 16] ws0 (fun u => True)) A) args s 0 0 A := ⟨_, rfl⟩
  rw [← hQ]
  refine lv_aload_n C0.1 C0.2.1 dX5_truth_0 rfl (lv_at hl 0 rfl) ?_
  refine lv_iload_n C0.1 C0.2.1 dX5_truth_1 rfl (lv_at hl 1 rfl) ?_
  refine y_cv h (y_rV (As := [.int a1]) (rest := []) C0 hZ h (c_X5_both_3 l G Z ad _ h.2 a1 (o24_51 l1 u1) (o24_52 l1 u1)) k_X5_both q_847 q_20 q_845 kSC_77 rfl rfl rfl hl.1 rfl rfl (Nat.le_of_ble_eq_true rfl) dX5_truth_2 ⟨Nat.le_of_ble_eq_true rfl, Nat.le_of_ble_eq_true rfl⟩ ⟨Nat.le_of_ble_eq_true rfl, Nat.le_of_ble_eq_true rfl⟩) (fun H locs ws_1 h u_2 p_3 => ?_)
  refine y_c1 (n := 0) C0 (by decide) dX5_truth_5 (fun v_4 e_5 => ?_)
  refine lv_istore_n (lv' := [(2, .int v_4), (0, .ref (ad 77)), (1, .int a1)]) C0.1 C0.2.1 dX5_truth_6 rfl hl (by decide) rfl (fun ls hl => ?_)
  have lp_9 : ∀ (n_11 : Nat) (x2_6 : Int32) (H : Heap) (locs : List Loc) (ls : Array Slot) (ws_7 : va_W), 900 - x2_6.toInt < (n_11 : Int) → 0 ≤ x2_6.toInt → x2_6.toInt ≤ 900 → Wt G (SC tt) ad A s H locs ws_7 → Fr (SC tt) [2, 3, 16] ws_1 ws_7 → lv_has ls 3 [(2, .int x2_6), (0, .ref (ad 77)), (1, .int a1)] → W p l e (rmd 20 0 0) s m args below meth c H locs 0 0 Q (F0 m 7 ls []) := by
    intro n_11
    induction n_11 with
    | zero => intro x2_6 H locs ls ws_7 hn_12 b_13 b_14 h hF_8 hl; exact ((o24_15 b_13 b_14 hn_12)).elim
    | succ n_11 ih_10 =>
      intro x2_6 H locs ls ws_7 hn_12 b_13 b_14 h hF_8 hl
      refine lv_iload_n C0.1 C0.2.1 dX5_truth_7 rfl (lv_at hl 0 rfl) ?_
      refine y_c3 (n := 900) C0 (by decide) dX5_truth_8 (fun v_15 e_16 => ?_)
      refine y_icmp_ge (tgt := 48) C0 dX5_truth_11 (by decide) (fun c_17 => ?_) (fun c_17 => ?_)
      · -- 11
        rw [hQ]
        exact y_vret C0 h (Fr.tr u_2 hF_8) trivial dX5_truth_48
      · -- 11
        refine lv_aload_n C0.1 C0.2.1 dX5_truth_14 rfl (lv_at hl 1 rfl) ?_
        refine va_ldcS C0.1 C0.2.1 C0.2.2.2.1 (sr_21 hZ) dX5_truth_15 ?_
        refine y_ci h (y_rV (As := [.ref (Z.2.1 21)]) (rest := []) C0 hZ h (c_X5_isWord l G Z ad _ h.2 21 (by decide)) k_X5_isWord q_724 q_5 q_722 kSC_77 rfl rfl rfl hl.1 rfl rfl (Nat.le_of_ble_eq_true rfl) dX5_truth_17 ⟨Nat.le_of_ble_eq_true rfl, Nat.le_of_ble_eq_true rfl⟩ ⟨Nat.le_of_ble_eq_true rfl, Nat.le_of_ble_eq_true rfl⟩) (fun r_21 H locs ws_18 h u_19 p_20 => ?_)
        obtain ⟨e_22, e_23⟩ := p_20
        refine y_if_eq (tgt := 48) C0 dX5_truth_20 (by decide) (fun c_24 => ?_) (fun c_24 => ?_)
        · -- 20
          rw [hQ]
          exact y_vret C0 h (Fr.tr (Fr.tr u_2 hF_8) (Fr.mono u_19 (by decide))) trivial dX5_truth_48
        · -- 20
          refine lv_aload_n C0.1 C0.2.1 dX5_truth_23 rfl (lv_at hl 1 rfl) ?_
          refine y_cv h (y_rV (As := []) (rest := []) C0 hZ h (c_X5_advance l G Z ad _ h.2) k_X5_advance q_616 q_0 q_614 kSC_77 rfl rfl rfl hl.1 rfl rfl (Nat.le_of_ble_eq_true rfl) dX5_truth_24 ⟨Nat.le_of_ble_eq_true rfl, Nat.le_of_ble_eq_true rfl⟩ ⟨Nat.le_of_ble_eq_true rfl, Nat.le_of_ble_eq_true rfl⟩) (fun H locs ws_25 h u_26 p_27 => ?_)
          refine lv_aload_n C0.1 C0.2.1 dX5_truth_27 rfl (lv_at hl 1 rfl) ?_
          refine lv_iload_n C0.1 C0.2.1 dX5_truth_28 rfl (lv_at hl 2 rfl) ?_
          refine y_cv h (y_rV (As := [.int a1]) (rest := []) C0 hZ h (c_X5_both_3 l G Z ad _ h.2 a1 (o24_51 l1 u1) (o24_52 l1 u1)) k_X5_both q_847 q_20 q_845 kSC_77 rfl rfl rfl hl.1 rfl rfl (Nat.le_of_ble_eq_true rfl) dX5_truth_29 ⟨Nat.le_of_ble_eq_true rfl, Nat.le_of_ble_eq_true rfl⟩ ⟨Nat.le_of_ble_eq_true rfl, Nat.le_of_ble_eq_true rfl⟩) (fun H locs ws_28 h u_29 p_30 => ?_)
          refine lv_aload_n C0.1 C0.2.1 dX5_truth_32 rfl (lv_at hl 1 rfl) ?_
          refine tg_X5_law C0 h kSC_77 q_380 dX5_truth_33 (fun i_31 hi_31 => ?_)
          refine y_c3 (n := 2007) C0 (by decide) dX5_truth_36 (fun v_32 e_33 => ?_)
          refine y_cv h (y_rV (As := [.int v_32]) (rest := []) C0 hZ h (c_X4_add l G Z ad _ h.2 i_31 hi_31 v_32) k_X4_add q_827 q_828 q_826 hi_31 rfl rfl rfl hl.1 rfl rfl (Nat.le_of_ble_eq_true rfl) dX5_truth_39 ⟨Nat.le_of_ble_eq_true rfl, Nat.le_of_ble_eq_true rfl⟩ ⟨Nat.le_of_ble_eq_true rfl, Nat.le_of_ble_eq_true rfl⟩) (fun H locs ws_34 h u_35 p_36 => ?_)
          refine y_inc (kp := 0) (n := 1) (fun v_37 => [(2, .int v_37), (0, .ref (ad 77)), (1, .int a1)]) C0 hl rfl (by decide) (by decide) (fun _ => rfl) (o24_16 b_13 b_14 hn_12 e_16 c_17 (le_min x2_6) (le_max x2_6) (le_min v_15) (le_max v_15)) (o24_17 b_13 b_14 hn_12 e_16 c_17 (le_min x2_6) (le_max x2_6) (le_min v_15) (le_max v_15)) dX5_truth_42 (fun v_37 ls e_38 hl => ?_)
          refine lv_goto (tgt := 7) C0.1 C0.2.1 dX5_truth_45 (by decide) ?_
          exact ih_10 v_37 _ _ _ _ (o24_18 b_13 b_14 hn_12 e_16 c_17 e_38) (o24_19 b_13 b_14 hn_12 e_16 c_17 e_38) (o24_20 b_13 b_14 hn_12 e_16 c_17 e_38) h (Fr.tr (Fr.tr (Fr.tr (Fr.tr hF_8 (Fr.mono u_19 (by decide))) (Fr.mono u_26 (by decide))) u_29) (Fr.mono u_35 (by decide))) (lv_sub hl [0, 1, 2] rfl)
  exact lp_9 ((900 - v_4.toInt + 1).toNat) v_4 _ _ _ _ (o24_21 e_5) (o24_22 e_5) (o24_23 e_5) h Fr.rf (lv_sub hl [0, 1, 2] rfl)
set_option maxHeartbeats 4000000 in
set_option maxRecDepth 100000 in
theorem c_X5_tooDeep_2 (l : Launch) (G : GG) (Z : RZ) (ad : Nat → Nat) (ws0 : va_W) (hT : Ty G (SC tt) ad ws0) (a1 : Int32) (l1 : 2 ≤ a1.toInt) (u1 : a1.toInt ≤ 2) : Mq l yX5_tooDeep cX5_tooDeep 2 (some .boolean) 1 G Z [.ref (ad 77), .int a1] ws0 (PI G (SC tt) ad [] ws0 (fun r u => (0 ≤ r.toInt) ∧ (r.toInt ≤ 0))) := by
  refine Mq.start (by decide) (Nat.le_of_ble_eq_true rfl) ?_
  intro p e s m below meth c A ls C0 hZ h hl
  have hl : lv_has ls 2 [(0, .ref (ad 77)), (1, .int a1)] := hl
  have h : Wt G (SC tt) ad A s s.heap [] ws0 := ⟨h, hT⟩
  obtain ⟨args, hargs⟩ : ∃ z, z = ([.ref (ad 77), .int a1] : List Value).toArray := ⟨_, rfl⟩
  rw [← hargs] at C0 ⊢
  have C0 : Cx p s m args meth c RX5 cX5_tooDeep 2 (some .boolean) := C0
  obtain ⟨Q, hQ⟩ : ∃ z, z = MQ below ((PI G (SC tt) ad [] ws0 (fun r u => (0 ≤ r.toInt) ∧ (r.toInt ≤ 0))) A) args s 0 0 A := ⟨_, rfl⟩
  rw [← hQ]
  refine lv_iload_n C0.1 C0.2.1 dX5_tooDeep_0 rfl (lv_at hl 1 rfl) ?_
  refine y_c2 (n := 6) C0 (by decide) dX5_tooDeep_1 (fun v_1 e_2 => ?_)
  refine y_icmp_lt (tgt := 13) C0 dX5_tooDeep_3 (by decide) (fun c_3 => ?_) (fun c_3 => ((o24_57 l1 u1 e_2 c_3)).elim)
  refine y_c1 (n := 0) C0 (by decide) dX5_tooDeep_13 (fun v_4 e_5 => ?_)
  rw [hQ]
  exact y_zret C0 h (o24_22 e_5) (o24_31 e_5) Fr.rf ⟨(o24_22 e_5), (o24_30 e_5)⟩ dX5_tooDeep_14
set_option maxHeartbeats 4000000 in
set_option maxRecDepth 100000 in
theorem c_X5_atom_2 (l : Launch) (G : GG) (Z : RZ) (ad : Nat → Nat) (ws0 : va_W) (hT : Ty G (SC tt) ad ws0) (a1 : Int32) (l1 : 2 ≤ a1.toInt) (u1 : a1.toInt ≤ 2) : Mq l yX5_atom cX5_atom 3 none 18 G Z [.ref (ad 77), .int a1] ws0 (PV G (SC tt) ad [2, 3, 16] ws0 (fun u => True)) := by
  refine Mq.start (by decide) (Nat.le_of_ble_eq_true rfl) ?_
  intro p e s m below meth c A ls C0 hZ h hl
  have hl : lv_has ls 3 [(0, .ref (ad 77)), (1, .int a1)] := hl
  have h : Wt G (SC tt) ad A s s.heap [] ws0 := ⟨h, hT⟩
  obtain ⟨args, hargs⟩ : ∃ z, z = ([.ref (ad 77), .int a1] : List Value).toArray := ⟨_, rfl⟩
  rw [← hargs] at C0 ⊢
  have C0 : Cx p s m args meth c RX5 cX5_atom 3 none := C0
  obtain ⟨Q, hQ⟩ : ∃ z, z = MQ below ((PV G (SC tt) ad [2, 3, 16] ws0 (fun u => True)) A) args s 0 0 A := ⟨_, rfl⟩
  rw [← hQ]
  refine lv_aload_n C0.1 C0.2.1 dX5_atom_0 rfl (lv_at hl 0 rfl) ?_
  refine tg_X5_kind C0 h kSC_77 q_374 dX5_atom_1 (fun v_1 e_2 e_3 e_4 => ?_)
  refine y_c1 (n := 2) C0 (by decide) dX5_atom_4 (fun v_5 e_6 => ?_)
  refine y_icmp_ne (tgt := 26) C0 dX5_atom_5 (by decide) (fun c_7 => ?_) (fun c_7 => ?_)
  · -- 5
    refine lv_aload_n C0.1 C0.2.1 dX5_atom_26 rfl (lv_at hl 0 rfl) ?_
    refine tg_X5_kind C0 h kSC_77 q_374 dX5_atom_27 (fun v_8 e_9 e_10 e_11 => ?_)
    have q_12 : v_8.toInt = v_1.toInt := congrArg Int32.toInt (e_9.symm.trans (Eq.trans rfl e_2))
    refine y_c2 (n := 40) C0 (by decide) dX5_atom_30 (fun v_13 e_14 => ?_)
    refine y_icmp_ne (tgt := 63) C0 dX5_atom_32 (by decide) (fun c_15 => ?_) (fun c_15 => ?_)
    · -- 32
      refine lv_aload_n C0.1 C0.2.1 dX5_atom_63 rfl (lv_at hl 0 rfl) ?_
      refine va_ldcS C0.1 C0.2.1 C0.2.2.2.1 (sr_12 hZ) dX5_atom_64 ?_
      refine y_ci h (y_rV (As := [.ref (Z.2.1 12)]) (rest := []) C0 hZ h (c_X5_isWord l G Z ad _ h.2 12 (by decide)) k_X5_isWord q_724 q_5 q_722 kSC_77 rfl rfl rfl hl.1 rfl rfl (Nat.le_of_ble_eq_true rfl) dX5_atom_66 ⟨Nat.le_of_ble_eq_true rfl, Nat.le_of_ble_eq_true rfl⟩ ⟨Nat.le_of_ble_eq_true rfl, Nat.le_of_ble_eq_true rfl⟩) (fun r_19 H locs ws_16 h u_17 p_18 => ?_)
      obtain ⟨e_20, e_21⟩ := p_18
      refine y_if_eq (tgt := 78) C0 dX5_atom_69 (by decide) (fun c_22 => ?_) (fun c_22 => ?_)
      · -- 69
        refine lv_aload_n C0.1 C0.2.1 dX5_atom_78 rfl (lv_at hl 0 rfl) ?_
        refine va_ldcS C0.1 C0.2.1 C0.2.2.2.1 (sr_13 hZ) dX5_atom_79 ?_
        refine y_ci h (y_rV (As := [.ref (Z.2.1 13)]) (rest := []) C0 hZ h (c_X5_isWord l G Z ad _ h.2 13 (by decide)) k_X5_isWord q_724 q_5 q_722 kSC_77 rfl rfl rfl hl.1 rfl rfl (Nat.le_of_ble_eq_true rfl) dX5_atom_81 ⟨Nat.le_of_ble_eq_true rfl, Nat.le_of_ble_eq_true rfl⟩ ⟨Nat.le_of_ble_eq_true rfl, Nat.le_of_ble_eq_true rfl⟩) (fun r_26 H locs ws_23 h u_24 p_25 => ?_)
        obtain ⟨e_27, e_28⟩ := p_25
        refine y_if_eq (tgt := 93) C0 dX5_atom_84 (by decide) (fun c_29 => ?_) (fun c_29 => ?_)
        · -- 84
          refine lv_aload_n C0.1 C0.2.1 dX5_atom_93 rfl (lv_at hl 0 rfl) ?_
          refine va_ldcS C0.1 C0.2.1 C0.2.2.2.1 (sr_14 hZ) dX5_atom_94 ?_
          refine y_ci h (y_rV (As := [.ref (Z.2.1 14)]) (rest := []) C0 hZ h (c_X5_isWord l G Z ad _ h.2 14 (by decide)) k_X5_isWord q_724 q_5 q_722 kSC_77 rfl rfl rfl hl.1 rfl rfl (Nat.le_of_ble_eq_true rfl) dX5_atom_96 ⟨Nat.le_of_ble_eq_true rfl, Nat.le_of_ble_eq_true rfl⟩ ⟨Nat.le_of_ble_eq_true rfl, Nat.le_of_ble_eq_true rfl⟩) (fun r_33 H locs ws_30 h u_31 p_32 => ?_)
          obtain ⟨e_34, e_35⟩ := p_32
          refine y_if_eq (tgt := 108) C0 dX5_atom_99 (by decide) (fun c_36 => ?_) (fun c_36 => ?_)
          · -- 99
            refine lv_aload_n C0.1 C0.2.1 dX5_atom_108 rfl (lv_at hl 0 rfl) ?_
            refine va_ldcS C0.1 C0.2.1 C0.2.2.2.1 (sr_15 hZ) dX5_atom_109 ?_
            refine y_ci h (y_rV (As := [.ref (Z.2.1 15)]) (rest := []) C0 hZ h (c_X5_isWord l G Z ad _ h.2 15 (by decide)) k_X5_isWord q_724 q_5 q_722 kSC_77 rfl rfl rfl hl.1 rfl rfl (Nat.le_of_ble_eq_true rfl) dX5_atom_111 ⟨Nat.le_of_ble_eq_true rfl, Nat.le_of_ble_eq_true rfl⟩ ⟨Nat.le_of_ble_eq_true rfl, Nat.le_of_ble_eq_true rfl⟩) (fun r_40 H locs ws_37 h u_38 p_39 => ?_)
            obtain ⟨e_41, e_42⟩ := p_39
            refine y_if_eq (tgt := 123) C0 dX5_atom_114 (by decide) (fun c_43 => ?_) (fun c_43 => ?_)
            · -- 114
              refine lv_aload_n C0.1 C0.2.1 dX5_atom_123 rfl (lv_at hl 0 rfl) ?_
              refine va_ldcS C0.1 C0.2.1 C0.2.2.2.1 (sr_16 hZ) dX5_atom_124 ?_
              refine y_ci h (y_rV (As := [.ref (Z.2.1 16)]) (rest := []) C0 hZ h (c_X5_isWord l G Z ad _ h.2 16 (by decide)) k_X5_isWord q_724 q_5 q_722 kSC_77 rfl rfl rfl hl.1 rfl rfl (Nat.le_of_ble_eq_true rfl) dX5_atom_126 ⟨Nat.le_of_ble_eq_true rfl, Nat.le_of_ble_eq_true rfl⟩ ⟨Nat.le_of_ble_eq_true rfl, Nat.le_of_ble_eq_true rfl⟩) (fun r_47 H locs ws_44 h u_45 p_46 => ?_)
              obtain ⟨e_48, e_49⟩ := p_46
              refine y_if_eq (tgt := 138) C0 dX5_atom_129 (by decide) (fun c_50 => ?_) (fun c_50 => ?_)
              · -- 129
                refine lv_aload_n C0.1 C0.2.1 dX5_atom_138 rfl (lv_at hl 0 rfl) ?_
                refine va_ldcS C0.1 C0.2.1 C0.2.2.2.1 (sr_17 hZ) dX5_atom_139 ?_
                refine y_ci h (y_rV (As := [.ref (Z.2.1 17)]) (rest := []) C0 hZ h (c_X5_isWord l G Z ad _ h.2 17 (by decide)) k_X5_isWord q_724 q_5 q_722 kSC_77 rfl rfl rfl hl.1 rfl rfl (Nat.le_of_ble_eq_true rfl) dX5_atom_141 ⟨Nat.le_of_ble_eq_true rfl, Nat.le_of_ble_eq_true rfl⟩ ⟨Nat.le_of_ble_eq_true rfl, Nat.le_of_ble_eq_true rfl⟩) (fun r_54 H locs ws_51 h u_52 p_53 => ?_)
                obtain ⟨e_55, e_56⟩ := p_53
                refine y_if_eq (tgt := 153) C0 dX5_atom_144 (by decide) (fun c_57 => ?_) (fun c_57 => ?_)
                · -- 144
                  refine y_c1 (n := (-1)) C0 (by decide) dX5_atom_153 (fun v_58 e_59 => ?_)
                  refine lv_istore_n (lv' := [(2, .int v_58), (0, .ref (ad 77)), (1, .int a1)]) C0.1 C0.2.1 dX5_atom_154 rfl hl (by decide) rfl (fun ls hl => ?_)
                  refine lv_iload_n C0.1 C0.2.1 dX5_atom_155 rfl (lv_at hl 0 rfl) ?_
                  refine y_if_ge (tgt := 165) C0 dX5_atom_156 (by decide) (fun c_60 => ((o24_5 e_59 c_60)).elim) (fun c_60 => ?_)
                  refine lv_aload_n C0.1 C0.2.1 dX5_atom_159 rfl (lv_at hl 1 rfl) ?_
                  refine y_c1 (n := 2) C0 (by decide) dX5_atom_160 (fun v_61 e_62 => ?_)
                  refine y_cv h (y_rV (As := [.int v_61]) (rest := []) C0 hZ h (c_X5_fail l G Z ad _ h.2 v_61) k_X5_fail q_628 q_3 q_626 kSC_77 rfl rfl rfl hl.1 rfl rfl (Nat.le_of_ble_eq_true rfl) dX5_atom_161 ⟨Nat.le_of_ble_eq_true rfl, Nat.le_of_ble_eq_true rfl⟩ ⟨Nat.le_of_ble_eq_true rfl, Nat.le_of_ble_eq_true rfl⟩) (fun H locs ws_63 h u_64 p_65 => ?_)
                  rw [hQ]
                  exact y_vret C0 h (Fr.tr (Fr.tr (Fr.tr (Fr.tr (Fr.tr (Fr.tr (Fr.mono u_17 (by decide)) (Fr.mono u_24 (by decide))) (Fr.mono u_31 (by decide))) (Fr.mono u_38 (by decide))) (Fr.mono u_45 (by decide))) (Fr.mono u_52 (by decide))) (Fr.mono u_64 (by decide))) trivial dX5_atom_164
                · -- 144
                  refine y_c3 (n := 1005) C0 (by decide) dX5_atom_147 (fun v_66 e_67 => ?_)
                  refine lv_goto (tgt := 154) C0.1 C0.2.1 dX5_atom_150 (by decide) ?_
                  refine lv_istore_n (lv' := [(2, .int v_66), (0, .ref (ad 77)), (1, .int a1)]) C0.1 C0.2.1 dX5_atom_154 rfl hl (by decide) rfl (fun ls hl => ?_)
                  refine lv_iload_n C0.1 C0.2.1 dX5_atom_155 rfl (lv_at hl 0 rfl) ?_
                  refine y_if_ge (tgt := 165) C0 dX5_atom_156 (by decide) (fun c_68 => ?_) (fun c_68 => ((o24_6 e_67 c_68)).elim)
                  refine lv_aload_n C0.1 C0.2.1 dX5_atom_165 rfl (lv_at hl 1 rfl) ?_
                  refine tg_X5_law C0 h kSC_77 q_380 dX5_atom_166 (fun i_69 hi_69 => ?_)
                  refine lv_iload_n C0.1 C0.2.1 dX5_atom_169 rfl (lv_at hl 0 rfl) ?_
                  refine y_cv h (y_rV (As := [.int v_66]) (rest := []) C0 hZ h (c_X4_add l G Z ad _ h.2 i_69 hi_69 v_66) k_X4_add q_827 q_828 q_826 hi_69 rfl rfl rfl hl.1 rfl rfl (Nat.le_of_ble_eq_true rfl) dX5_atom_170 ⟨Nat.le_of_ble_eq_true rfl, Nat.le_of_ble_eq_true rfl⟩ ⟨Nat.le_of_ble_eq_true rfl, Nat.le_of_ble_eq_true rfl⟩) (fun H locs ws_70 h u_71 p_72 => ?_)
                  refine lv_aload_n C0.1 C0.2.1 dX5_atom_173 rfl (lv_at hl 1 rfl) ?_
                  refine y_cv h (y_rV (As := []) (rest := []) C0 hZ h (c_X5_advance l G Z ad _ h.2) k_X5_advance q_616 q_0 q_614 kSC_77 rfl rfl rfl hl.1 rfl rfl (Nat.le_of_ble_eq_true rfl) dX5_atom_174 ⟨Nat.le_of_ble_eq_true rfl, Nat.le_of_ble_eq_true rfl⟩ ⟨Nat.le_of_ble_eq_true rfl, Nat.le_of_ble_eq_true rfl⟩) (fun H locs ws_73 h u_74 p_75 => ?_)
                  rw [hQ]
                  exact y_vret C0 h (Fr.tr (Fr.tr (Fr.tr (Fr.tr (Fr.tr (Fr.tr (Fr.tr (Fr.mono u_17 (by decide)) (Fr.mono u_24 (by decide))) (Fr.mono u_31 (by decide))) (Fr.mono u_38 (by decide))) (Fr.mono u_45 (by decide))) (Fr.mono u_52 (by decide))) (Fr.mono u_71 (by decide))) (Fr.mono u_74 (by decide))) trivial dX5_atom_177
              · -- 129
                refine y_c3 (n := 1004) C0 (by decide) dX5_atom_132 (fun v_76 e_77 => ?_)
                refine lv_goto (tgt := 154) C0.1 C0.2.1 dX5_atom_135 (by decide) ?_
                refine lv_istore_n (lv' := [(2, .int v_76), (0, .ref (ad 77)), (1, .int a1)]) C0.1 C0.2.1 dX5_atom_154 rfl hl (by decide) rfl (fun ls hl => ?_)
                refine lv_iload_n C0.1 C0.2.1 dX5_atom_155 rfl (lv_at hl 0 rfl) ?_
                refine y_if_ge (tgt := 165) C0 dX5_atom_156 (by decide) (fun c_78 => ?_) (fun c_78 => ((o24_7 e_77 c_78)).elim)
                refine lv_aload_n C0.1 C0.2.1 dX5_atom_165 rfl (lv_at hl 1 rfl) ?_
                refine tg_X5_law C0 h kSC_77 q_380 dX5_atom_166 (fun i_79 hi_79 => ?_)
                refine lv_iload_n C0.1 C0.2.1 dX5_atom_169 rfl (lv_at hl 0 rfl) ?_
                refine y_cv h (y_rV (As := [.int v_76]) (rest := []) C0 hZ h (c_X4_add l G Z ad _ h.2 i_79 hi_79 v_76) k_X4_add q_827 q_828 q_826 hi_79 rfl rfl rfl hl.1 rfl rfl (Nat.le_of_ble_eq_true rfl) dX5_atom_170 ⟨Nat.le_of_ble_eq_true rfl, Nat.le_of_ble_eq_true rfl⟩ ⟨Nat.le_of_ble_eq_true rfl, Nat.le_of_ble_eq_true rfl⟩) (fun H locs ws_80 h u_81 p_82 => ?_)
                refine lv_aload_n C0.1 C0.2.1 dX5_atom_173 rfl (lv_at hl 1 rfl) ?_
                refine y_cv h (y_rV (As := []) (rest := []) C0 hZ h (c_X5_advance l G Z ad _ h.2) k_X5_advance q_616 q_0 q_614 kSC_77 rfl rfl rfl hl.1 rfl rfl (Nat.le_of_ble_eq_true rfl) dX5_atom_174 ⟨Nat.le_of_ble_eq_true rfl, Nat.le_of_ble_eq_true rfl⟩ ⟨Nat.le_of_ble_eq_true rfl, Nat.le_of_ble_eq_true rfl⟩) (fun H locs ws_83 h u_84 p_85 => ?_)
                rw [hQ]
                exact y_vret C0 h (Fr.tr (Fr.tr (Fr.tr (Fr.tr (Fr.tr (Fr.tr (Fr.mono u_17 (by decide)) (Fr.mono u_24 (by decide))) (Fr.mono u_31 (by decide))) (Fr.mono u_38 (by decide))) (Fr.mono u_45 (by decide))) (Fr.mono u_81 (by decide))) (Fr.mono u_84 (by decide))) trivial dX5_atom_177
            · -- 114
              refine y_c3 (n := 1003) C0 (by decide) dX5_atom_117 (fun v_86 e_87 => ?_)
              refine lv_goto (tgt := 154) C0.1 C0.2.1 dX5_atom_120 (by decide) ?_
              refine lv_istore_n (lv' := [(2, .int v_86), (0, .ref (ad 77)), (1, .int a1)]) C0.1 C0.2.1 dX5_atom_154 rfl hl (by decide) rfl (fun ls hl => ?_)
              refine lv_iload_n C0.1 C0.2.1 dX5_atom_155 rfl (lv_at hl 0 rfl) ?_
              refine y_if_ge (tgt := 165) C0 dX5_atom_156 (by decide) (fun c_88 => ?_) (fun c_88 => ((o24_8 e_87 c_88)).elim)
              refine lv_aload_n C0.1 C0.2.1 dX5_atom_165 rfl (lv_at hl 1 rfl) ?_
              refine tg_X5_law C0 h kSC_77 q_380 dX5_atom_166 (fun i_89 hi_89 => ?_)
              refine lv_iload_n C0.1 C0.2.1 dX5_atom_169 rfl (lv_at hl 0 rfl) ?_
              refine y_cv h (y_rV (As := [.int v_86]) (rest := []) C0 hZ h (c_X4_add l G Z ad _ h.2 i_89 hi_89 v_86) k_X4_add q_827 q_828 q_826 hi_89 rfl rfl rfl hl.1 rfl rfl (Nat.le_of_ble_eq_true rfl) dX5_atom_170 ⟨Nat.le_of_ble_eq_true rfl, Nat.le_of_ble_eq_true rfl⟩ ⟨Nat.le_of_ble_eq_true rfl, Nat.le_of_ble_eq_true rfl⟩) (fun H locs ws_90 h u_91 p_92 => ?_)
              refine lv_aload_n C0.1 C0.2.1 dX5_atom_173 rfl (lv_at hl 1 rfl) ?_
              refine y_cv h (y_rV (As := []) (rest := []) C0 hZ h (c_X5_advance l G Z ad _ h.2) k_X5_advance q_616 q_0 q_614 kSC_77 rfl rfl rfl hl.1 rfl rfl (Nat.le_of_ble_eq_true rfl) dX5_atom_174 ⟨Nat.le_of_ble_eq_true rfl, Nat.le_of_ble_eq_true rfl⟩ ⟨Nat.le_of_ble_eq_true rfl, Nat.le_of_ble_eq_true rfl⟩) (fun H locs ws_93 h u_94 p_95 => ?_)
              rw [hQ]
              exact y_vret C0 h (Fr.tr (Fr.tr (Fr.tr (Fr.tr (Fr.tr (Fr.mono u_17 (by decide)) (Fr.mono u_24 (by decide))) (Fr.mono u_31 (by decide))) (Fr.mono u_38 (by decide))) (Fr.mono u_91 (by decide))) (Fr.mono u_94 (by decide))) trivial dX5_atom_177
          · -- 99
            refine y_c3 (n := 1002) C0 (by decide) dX5_atom_102 (fun v_96 e_97 => ?_)
            refine lv_goto (tgt := 154) C0.1 C0.2.1 dX5_atom_105 (by decide) ?_
            refine lv_istore_n (lv' := [(2, .int v_96), (0, .ref (ad 77)), (1, .int a1)]) C0.1 C0.2.1 dX5_atom_154 rfl hl (by decide) rfl (fun ls hl => ?_)
            refine lv_iload_n C0.1 C0.2.1 dX5_atom_155 rfl (lv_at hl 0 rfl) ?_
            refine y_if_ge (tgt := 165) C0 dX5_atom_156 (by decide) (fun c_98 => ?_) (fun c_98 => ((o24_9 e_97 c_98)).elim)
            refine lv_aload_n C0.1 C0.2.1 dX5_atom_165 rfl (lv_at hl 1 rfl) ?_
            refine tg_X5_law C0 h kSC_77 q_380 dX5_atom_166 (fun i_99 hi_99 => ?_)
            refine lv_iload_n C0.1 C0.2.1 dX5_atom_169 rfl (lv_at hl 0 rfl) ?_
            refine y_cv h (y_rV (As := [.int v_96]) (rest := []) C0 hZ h (c_X4_add l G Z ad _ h.2 i_99 hi_99 v_96) k_X4_add q_827 q_828 q_826 hi_99 rfl rfl rfl hl.1 rfl rfl (Nat.le_of_ble_eq_true rfl) dX5_atom_170 ⟨Nat.le_of_ble_eq_true rfl, Nat.le_of_ble_eq_true rfl⟩ ⟨Nat.le_of_ble_eq_true rfl, Nat.le_of_ble_eq_true rfl⟩) (fun H locs ws_100 h u_101 p_102 => ?_)
            refine lv_aload_n C0.1 C0.2.1 dX5_atom_173 rfl (lv_at hl 1 rfl) ?_
            refine y_cv h (y_rV (As := []) (rest := []) C0 hZ h (c_X5_advance l G Z ad _ h.2) k_X5_advance q_616 q_0 q_614 kSC_77 rfl rfl rfl hl.1 rfl rfl (Nat.le_of_ble_eq_true rfl) dX5_atom_174 ⟨Nat.le_of_ble_eq_true rfl, Nat.le_of_ble_eq_true rfl⟩ ⟨Nat.le_of_ble_eq_true rfl, Nat.le_of_ble_eq_true rfl⟩) (fun H locs ws_103 h u_104 p_105 => ?_)
            rw [hQ]
            exact y_vret C0 h (Fr.tr (Fr.tr (Fr.tr (Fr.tr (Fr.mono u_17 (by decide)) (Fr.mono u_24 (by decide))) (Fr.mono u_31 (by decide))) (Fr.mono u_101 (by decide))) (Fr.mono u_104 (by decide))) trivial dX5_atom_177
        · -- 84
          refine y_c3 (n := 1001) C0 (by decide) dX5_atom_87 (fun v_106 e_107 => ?_)
          refine lv_goto (tgt := 154) C0.1 C0.2.1 dX5_atom_90 (by decide) ?_
          refine lv_istore_n (lv' := [(2, .int v_106), (0, .ref (ad 77)), (1, .int a1)]) C0.1 C0.2.1 dX5_atom_154 rfl hl (by decide) rfl (fun ls hl => ?_)
          refine lv_iload_n C0.1 C0.2.1 dX5_atom_155 rfl (lv_at hl 0 rfl) ?_
          refine y_if_ge (tgt := 165) C0 dX5_atom_156 (by decide) (fun c_108 => ?_) (fun c_108 => ((o24_10 e_107 c_108)).elim)
          refine lv_aload_n C0.1 C0.2.1 dX5_atom_165 rfl (lv_at hl 1 rfl) ?_
          refine tg_X5_law C0 h kSC_77 q_380 dX5_atom_166 (fun i_109 hi_109 => ?_)
          refine lv_iload_n C0.1 C0.2.1 dX5_atom_169 rfl (lv_at hl 0 rfl) ?_
          refine y_cv h (y_rV (As := [.int v_106]) (rest := []) C0 hZ h (c_X4_add l G Z ad _ h.2 i_109 hi_109 v_106) k_X4_add q_827 q_828 q_826 hi_109 rfl rfl rfl hl.1 rfl rfl (Nat.le_of_ble_eq_true rfl) dX5_atom_170 ⟨Nat.le_of_ble_eq_true rfl, Nat.le_of_ble_eq_true rfl⟩ ⟨Nat.le_of_ble_eq_true rfl, Nat.le_of_ble_eq_true rfl⟩) (fun H locs ws_110 h u_111 p_112 => ?_)
          refine lv_aload_n C0.1 C0.2.1 dX5_atom_173 rfl (lv_at hl 1 rfl) ?_
          refine y_cv h (y_rV (As := []) (rest := []) C0 hZ h (c_X5_advance l G Z ad _ h.2) k_X5_advance q_616 q_0 q_614 kSC_77 rfl rfl rfl hl.1 rfl rfl (Nat.le_of_ble_eq_true rfl) dX5_atom_174 ⟨Nat.le_of_ble_eq_true rfl, Nat.le_of_ble_eq_true rfl⟩ ⟨Nat.le_of_ble_eq_true rfl, Nat.le_of_ble_eq_true rfl⟩) (fun H locs ws_113 h u_114 p_115 => ?_)
          rw [hQ]
          exact y_vret C0 h (Fr.tr (Fr.tr (Fr.tr (Fr.mono u_17 (by decide)) (Fr.mono u_24 (by decide))) (Fr.mono u_111 (by decide))) (Fr.mono u_114 (by decide))) trivial dX5_atom_177
      · -- 69
        refine y_c3 (n := 1000) C0 (by decide) dX5_atom_72 (fun v_116 e_117 => ?_)
        refine lv_goto (tgt := 154) C0.1 C0.2.1 dX5_atom_75 (by decide) ?_
        refine lv_istore_n (lv' := [(2, .int v_116), (0, .ref (ad 77)), (1, .int a1)]) C0.1 C0.2.1 dX5_atom_154 rfl hl (by decide) rfl (fun ls hl => ?_)
        refine lv_iload_n C0.1 C0.2.1 dX5_atom_155 rfl (lv_at hl 0 rfl) ?_
        refine y_if_ge (tgt := 165) C0 dX5_atom_156 (by decide) (fun c_118 => ?_) (fun c_118 => ((o24_11 e_117 c_118)).elim)
        refine lv_aload_n C0.1 C0.2.1 dX5_atom_165 rfl (lv_at hl 1 rfl) ?_
        refine tg_X5_law C0 h kSC_77 q_380 dX5_atom_166 (fun i_119 hi_119 => ?_)
        refine lv_iload_n C0.1 C0.2.1 dX5_atom_169 rfl (lv_at hl 0 rfl) ?_
        refine y_cv h (y_rV (As := [.int v_116]) (rest := []) C0 hZ h (c_X4_add l G Z ad _ h.2 i_119 hi_119 v_116) k_X4_add q_827 q_828 q_826 hi_119 rfl rfl rfl hl.1 rfl rfl (Nat.le_of_ble_eq_true rfl) dX5_atom_170 ⟨Nat.le_of_ble_eq_true rfl, Nat.le_of_ble_eq_true rfl⟩ ⟨Nat.le_of_ble_eq_true rfl, Nat.le_of_ble_eq_true rfl⟩) (fun H locs ws_120 h u_121 p_122 => ?_)
        refine lv_aload_n C0.1 C0.2.1 dX5_atom_173 rfl (lv_at hl 1 rfl) ?_
        refine y_cv h (y_rV (As := []) (rest := []) C0 hZ h (c_X5_advance l G Z ad _ h.2) k_X5_advance q_616 q_0 q_614 kSC_77 rfl rfl rfl hl.1 rfl rfl (Nat.le_of_ble_eq_true rfl) dX5_atom_174 ⟨Nat.le_of_ble_eq_true rfl, Nat.le_of_ble_eq_true rfl⟩ ⟨Nat.le_of_ble_eq_true rfl, Nat.le_of_ble_eq_true rfl⟩) (fun H locs ws_123 h u_124 p_125 => ?_)
        rw [hQ]
        exact y_vret C0 h (Fr.tr (Fr.tr (Fr.mono u_17 (by decide)) (Fr.mono u_121 (by decide))) (Fr.mono u_124 (by decide))) trivial dX5_atom_177
    · -- 32
      refine lv_aload_n C0.1 C0.2.1 dX5_atom_35 rfl (lv_at hl 0 rfl) ?_
      refine lv_iload_n C0.1 C0.2.1 dX5_atom_36 rfl (lv_at hl 1 rfl) ?_
      refine y_ci h (y_rV (As := [.int a1]) (rest := []) C0 hZ h (c_X5_tooDeep_2 l G Z ad _ h.2 a1 (o24_58 l1 u1) (o24_59 l1 u1)) k_X5_tooDeep q_832 q_18 q_830 kSC_77 rfl rfl rfl hl.1 rfl rfl (Nat.le_of_ble_eq_true rfl) dX5_atom_37 ⟨Nat.le_of_ble_eq_true rfl, Nat.le_of_ble_eq_true rfl⟩ ⟨Nat.le_of_ble_eq_true rfl, Nat.le_of_ble_eq_true rfl⟩) (fun r_129 H locs ws_126 h u_127 p_128 => ?_)
      obtain ⟨e_130, e_131⟩ := p_128
      refine y_if_ne (tgt := 177) C0 dX5_atom_40 (by decide) (fun c_132 => ((o24_34 e_130 e_131 c_132)).elim) (fun c_132 => ?_)
      refine lv_aload_n C0.1 C0.2.1 dX5_atom_43 rfl (lv_at hl 0 rfl) ?_
      refine y_cv h (y_rV (As := []) (rest := []) C0 hZ h (c_X5_advance l G Z ad _ h.2) k_X5_advance q_616 q_0 q_614 kSC_77 rfl rfl rfl hl.1 rfl rfl (Nat.le_of_ble_eq_true rfl) dX5_atom_44 ⟨Nat.le_of_ble_eq_true rfl, Nat.le_of_ble_eq_true rfl⟩ ⟨Nat.le_of_ble_eq_true rfl, Nat.le_of_ble_eq_true rfl⟩) (fun H locs ws_133 h u_134 p_135 => ?_)
      refine lv_aload_n C0.1 C0.2.1 dX5_atom_47 rfl (lv_at hl 0 rfl) ?_
      refine lv_iload_n C0.1 C0.2.1 dX5_atom_48 rfl (lv_at hl 1 rfl) ?_
      refine y_c1 (n := 1) C0 (by decide) dX5_atom_49 (fun v_136 e_137 => ?_)
      refine y_add C0 (o24_60 l1 u1 e_137 (le_min a1) (le_max a1) (le_min v_136) (le_max v_136)) (o24_61 l1 u1 e_137 (le_min a1) (le_max a1) (le_min v_136) (le_max v_136)) dX5_atom_50 (fun v_138 e_139 => ?_)
      refine y_cv h (y_rV (As := [.int v_138]) (rest := []) C0 hZ h (c_X5_sum_3 l G Z ad _ h.2 v_138 (o24_62 l1 u1 e_137 e_139) (o24_63 l1 u1 e_137 e_139)) k_X5_sum q_816 q_15 q_814 kSC_77 rfl rfl rfl hl.1 rfl rfl (Nat.le_of_ble_eq_true rfl) dX5_atom_51 ⟨Nat.le_of_ble_eq_true rfl, Nat.le_of_ble_eq_true rfl⟩ ⟨Nat.le_of_ble_eq_true rfl, Nat.le_of_ble_eq_true rfl⟩) (fun H locs ws_140 h u_141 p_142 => ?_)
      refine lv_aload_n C0.1 C0.2.1 dX5_atom_54 rfl (lv_at hl 0 rfl) ?_
      refine y_c2 (n := 41) C0 (by decide) dX5_atom_55 (fun v_143 e_144 => ?_)
      refine y_cv h (y_rV (As := [.int v_143]) (rest := []) C0 hZ h (c_X5_sign l G Z ad _ h.2 v_143 (o24_39 e_144) (o24_40 e_144)) k_X5_sign q_812 q_14 q_810 kSC_77 rfl rfl rfl hl.1 rfl rfl (Nat.le_of_ble_eq_true rfl) dX5_atom_57 ⟨Nat.le_of_ble_eq_true rfl, Nat.le_of_ble_eq_true rfl⟩ ⟨Nat.le_of_ble_eq_true rfl, Nat.le_of_ble_eq_true rfl⟩) (fun H locs ws_145 h u_146 p_147 => ?_)
      refine lv_goto (tgt := 177) C0.1 C0.2.1 dX5_atom_60 (by decide) ?_
      rw [hQ]
      exact y_vret C0 h (Fr.tr (Fr.tr (Fr.tr (Fr.mono u_127 (by decide)) (Fr.mono u_134 (by decide))) u_141) (Fr.mono u_146 (by decide))) trivial dX5_atom_177
  · -- 5
    refine lv_aload_n C0.1 C0.2.1 dX5_atom_8 rfl (lv_at hl 0 rfl) ?_
    refine tg_X5_law C0 h kSC_77 q_380 dX5_atom_9 (fun i_148 hi_148 => ?_)
    refine lv_aload_n C0.1 C0.2.1 dX5_atom_12 rfl (lv_at hl 0 rfl) ?_
    refine tg_X5_number C0 h kSC_77 q_377 dX5_atom_13 (fun v_149 e_150 e_151 e_152 => ?_)
    refine y_cv h (y_rV (As := [.int v_149]) (rest := []) C0 hZ h (c_X4_add l G Z ad _ h.2 i_148 hi_148 v_149) k_X4_add q_827 q_828 q_826 hi_148 rfl rfl rfl hl.1 rfl rfl (Nat.le_of_ble_eq_true rfl) dX5_atom_16 ⟨Nat.le_of_ble_eq_true rfl, Nat.le_of_ble_eq_true rfl⟩ ⟨Nat.le_of_ble_eq_true rfl, Nat.le_of_ble_eq_true rfl⟩) (fun H locs ws_153 h u_154 p_155 => ?_)
    refine lv_aload_n C0.1 C0.2.1 dX5_atom_19 rfl (lv_at hl 0 rfl) ?_
    refine y_cv h (y_rV (As := []) (rest := []) C0 hZ h (c_X5_advance l G Z ad _ h.2) k_X5_advance q_616 q_0 q_614 kSC_77 rfl rfl rfl hl.1 rfl rfl (Nat.le_of_ble_eq_true rfl) dX5_atom_20 ⟨Nat.le_of_ble_eq_true rfl, Nat.le_of_ble_eq_true rfl⟩ ⟨Nat.le_of_ble_eq_true rfl, Nat.le_of_ble_eq_true rfl⟩) (fun H locs ws_156 h u_157 p_158 => ?_)
    refine lv_goto (tgt := 177) C0.1 C0.2.1 dX5_atom_23 (by decide) ?_
    rw [hQ]
    exact y_vret C0 h (Fr.tr (Fr.mono u_154 (by decide)) (Fr.mono u_157 (by decide))) trivial dX5_atom_177
set_option maxHeartbeats 4000000 in
set_option maxRecDepth 100000 in
theorem c_X5_term_2 (l : Launch) (G : GG) (Z : RZ) (ad : Nat → Nat) (ws0 : va_W) (hT : Ty G (SC tt) ad ws0) (a1 : Int32) (l1 : 2 ≤ a1.toInt) (u1 : a1.toInt ≤ 2) : Mq l yX5_term cX5_term 3 none 19 G Z [.ref (ad 77), .int a1] ws0 (PV G (SC tt) ad [2, 3, 16] ws0 (fun u => True)) := by
  refine Mq.start (by decide) (Nat.le_of_ble_eq_true rfl) ?_
  intro p e s m below meth c A ls C0 hZ h hl
  have hl : lv_has ls 3 [(0, .ref (ad 77)), (1, .int a1)] := hl
  have h : Wt G (SC tt) ad A s s.heap [] ws0 := ⟨h, hT⟩
  obtain ⟨args, hargs⟩ : ∃ z, z = ([.ref (ad 77), .int a1] : List Value).toArray := ⟨_, rfl⟩
  rw [← hargs] at C0 ⊢
  have C0 : Cx p s m args meth c RX5 cX5_term 3 none := C0
  obtain ⟨Q, hQ⟩ : ∃ z, z = MQ below ((PV G (SC tt) ad [2, 3, 16] ws0 (fun u => True)) A) args s 0 0 A := ⟨_, rfl⟩
  rw [← hQ]
  refine lv_aload_n C0.1 C0.2.1 dX5_term_0 rfl (lv_at hl 0 rfl) ?_
  refine lv_iload_n C0.1 C0.2.1 dX5_term_1 rfl (lv_at hl 1 rfl) ?_
  refine y_cv h (y_rV (As := [.int a1]) (rest := []) C0 hZ h (c_X5_atom_2 l G Z ad _ h.2 a1 (o24_58 l1 u1) (o24_59 l1 u1)) k_X5_atom q_824 q_17 q_822 kSC_77 rfl rfl rfl hl.1 rfl rfl (Nat.le_of_ble_eq_true rfl) dX5_term_2 ⟨Nat.le_of_ble_eq_true rfl, Nat.le_of_ble_eq_true rfl⟩ ⟨Nat.le_of_ble_eq_true rfl, Nat.le_of_ble_eq_true rfl⟩) (fun H locs ws_1 h u_2 p_3 => ?_)
  refine y_c1 (n := 0) C0 (by decide) dX5_term_5 (fun v_4 e_5 => ?_)
  refine lv_istore_n (lv' := [(2, .int v_4), (0, .ref (ad 77)), (1, .int a1)]) C0.1 C0.2.1 dX5_term_6 rfl hl (by decide) rfl (fun ls hl => ?_)
  have lp_9 : ∀ (n_11 : Nat) (x2_6 : Int32) (H : Heap) (locs : List Loc) (ls : Array Slot) (ws_7 : va_W), 900 - x2_6.toInt < (n_11 : Int) → 0 ≤ x2_6.toInt → x2_6.toInt ≤ 900 → Wt G (SC tt) ad A s H locs ws_7 → Fr (SC tt) [2, 3, 16] ws_1 ws_7 → lv_has ls 3 [(2, .int x2_6), (0, .ref (ad 77)), (1, .int a1)] → W p l e (rmd 19 0 0) s m args below meth c H locs 0 0 Q (F0 m 7 ls []) := by
    intro n_11
    induction n_11 with
    | zero => intro x2_6 H locs ls ws_7 hn_12 b_13 b_14 h hF_8 hl; exact ((o24_15 b_13 b_14 hn_12)).elim
    | succ n_11 ih_10 =>
      intro x2_6 H locs ls ws_7 hn_12 b_13 b_14 h hF_8 hl
      refine lv_iload_n C0.1 C0.2.1 dX5_term_7 rfl (lv_at hl 0 rfl) ?_
      refine y_c3 (n := 900) C0 (by decide) dX5_term_8 (fun v_15 e_16 => ?_)
      refine y_icmp_ge (tgt := 48) C0 dX5_term_11 (by decide) (fun c_17 => ?_) (fun c_17 => ?_)
      · -- 11
        rw [hQ]
        exact y_vret C0 h (Fr.tr u_2 hF_8) trivial dX5_term_48
      · -- 11
        refine lv_aload_n C0.1 C0.2.1 dX5_term_14 rfl (lv_at hl 1 rfl) ?_
        refine tg_X5_kind C0 h kSC_77 q_374 dX5_term_15 (fun v_18 e_19 e_20 e_21 => ?_)
        refine y_c2 (n := 42) C0 (by decide) dX5_term_18 (fun v_22 e_23 => ?_)
        refine y_icmp_ne (tgt := 48) C0 dX5_term_20 (by decide) (fun c_24 => ?_) (fun c_24 => ?_)
        · -- 20
          rw [hQ]
          exact y_vret C0 h (Fr.tr u_2 hF_8) trivial dX5_term_48
        · -- 20
          refine lv_aload_n C0.1 C0.2.1 dX5_term_23 rfl (lv_at hl 1 rfl) ?_
          refine y_cv h (y_rV (As := []) (rest := []) C0 hZ h (c_X5_advance l G Z ad _ h.2) k_X5_advance q_616 q_0 q_614 kSC_77 rfl rfl rfl hl.1 rfl rfl (Nat.le_of_ble_eq_true rfl) dX5_term_24 ⟨Nat.le_of_ble_eq_true rfl, Nat.le_of_ble_eq_true rfl⟩ ⟨Nat.le_of_ble_eq_true rfl, Nat.le_of_ble_eq_true rfl⟩) (fun H locs ws_25 h u_26 p_27 => ?_)
          refine lv_aload_n C0.1 C0.2.1 dX5_term_27 rfl (lv_at hl 1 rfl) ?_
          refine lv_iload_n C0.1 C0.2.1 dX5_term_28 rfl (lv_at hl 2 rfl) ?_
          refine y_cv h (y_rV (As := [.int a1]) (rest := []) C0 hZ h (c_X5_atom_2 l G Z ad _ h.2 a1 (o24_58 l1 u1) (o24_59 l1 u1)) k_X5_atom q_824 q_17 q_822 kSC_77 rfl rfl rfl hl.1 rfl rfl (Nat.le_of_ble_eq_true rfl) dX5_term_29 ⟨Nat.le_of_ble_eq_true rfl, Nat.le_of_ble_eq_true rfl⟩ ⟨Nat.le_of_ble_eq_true rfl, Nat.le_of_ble_eq_true rfl⟩) (fun H locs ws_28 h u_29 p_30 => ?_)
          refine lv_aload_n C0.1 C0.2.1 dX5_term_32 rfl (lv_at hl 1 rfl) ?_
          refine tg_X5_law C0 h kSC_77 q_380 dX5_term_33 (fun i_31 hi_31 => ?_)
          refine y_c3 (n := 2002) C0 (by decide) dX5_term_36 (fun v_32 e_33 => ?_)
          refine y_cv h (y_rV (As := [.int v_32]) (rest := []) C0 hZ h (c_X4_add l G Z ad _ h.2 i_31 hi_31 v_32) k_X4_add q_827 q_828 q_826 hi_31 rfl rfl rfl hl.1 rfl rfl (Nat.le_of_ble_eq_true rfl) dX5_term_39 ⟨Nat.le_of_ble_eq_true rfl, Nat.le_of_ble_eq_true rfl⟩ ⟨Nat.le_of_ble_eq_true rfl, Nat.le_of_ble_eq_true rfl⟩) (fun H locs ws_34 h u_35 p_36 => ?_)
          refine y_inc (kp := 0) (n := 1) (fun v_37 => [(2, .int v_37), (0, .ref (ad 77)), (1, .int a1)]) C0 hl rfl (by decide) (by decide) (fun _ => rfl) (o24_16 b_13 b_14 hn_12 e_16 c_17 (le_min x2_6) (le_max x2_6) (le_min v_15) (le_max v_15)) (o24_17 b_13 b_14 hn_12 e_16 c_17 (le_min x2_6) (le_max x2_6) (le_min v_15) (le_max v_15)) dX5_term_42 (fun v_37 ls e_38 hl => ?_)
          refine lv_goto (tgt := 7) C0.1 C0.2.1 dX5_term_45 (by decide) ?_
          exact ih_10 v_37 _ _ _ _ (o24_18 b_13 b_14 hn_12 e_16 c_17 e_38) (o24_19 b_13 b_14 hn_12 e_16 c_17 e_38) (o24_20 b_13 b_14 hn_12 e_16 c_17 e_38) h (Fr.tr (Fr.tr (Fr.tr hF_8 (Fr.mono u_26 (by decide))) u_29) (Fr.mono u_35 (by decide))) (lv_sub hl [0, 1, 2] rfl)
  exact lp_9 ((900 - v_4.toInt + 1).toNat) v_4 _ _ _ _ (o24_21 e_5) (o24_22 e_5) (o24_23 e_5) h Fr.rf (lv_sub hl [0, 1, 2] rfl)
set_option maxHeartbeats 4000000 in
set_option maxRecDepth 100000 in
theorem c_X5_sum_2 (l : Launch) (G : GG) (Z : RZ) (ad : Nat → Nat) (ws0 : va_W) (hT : Ty G (SC tt) ad ws0) (a1 : Int32) (l1 : 2 ≤ a1.toInt) (u1 : a1.toInt ≤ 2) : Mq l yX5_sum cX5_sum 4 none 20 G Z [.ref (ad 77), .int a1] ws0 (PV G (SC tt) ad [2, 3, 16] ws0 (fun u => True)) := by
  refine Mq.start (by decide) (Nat.le_of_ble_eq_true rfl) ?_
  intro p e s m below meth c A ls C0 hZ h hl
  have hl : lv_has ls 4 [(0, .ref (ad 77)), (1, .int a1)] := hl
  have h : Wt G (SC tt) ad A s s.heap [] ws0 := ⟨h, hT⟩
  obtain ⟨args, hargs⟩ : ∃ z, z = ([.ref (ad 77), .int a1] : List Value).toArray := ⟨_, rfl⟩
  rw [← hargs] at C0 ⊢
  have C0 : Cx p s m args meth c RX5 cX5_sum 4 none := C0
  obtain ⟨Q, hQ⟩ : ∃ z, z = MQ below ((PV G (SC tt) ad [2, 3, 16] ws0 (fun u => True)) A) args s 0 0 A := ⟨_, rfl⟩
  rw [← hQ]
  refine lv_aload_n C0.1 C0.2.1 dX5_sum_0 rfl (lv_at hl 0 rfl) ?_
  refine lv_iload_n C0.1 C0.2.1 dX5_sum_1 rfl (lv_at hl 1 rfl) ?_
  refine y_cv h (y_rV (As := [.int a1]) (rest := []) C0 hZ h (c_X5_term_2 l G Z ad _ h.2 a1 (o24_58 l1 u1) (o24_59 l1 u1)) k_X5_term q_820 q_16 q_818 kSC_77 rfl rfl rfl hl.1 rfl rfl (Nat.le_of_ble_eq_true rfl) dX5_sum_2 ⟨Nat.le_of_ble_eq_true rfl, Nat.le_of_ble_eq_true rfl⟩ ⟨Nat.le_of_ble_eq_true rfl, Nat.le_of_ble_eq_true rfl⟩) (fun H locs ws_1 h u_2 p_3 => ?_)
  refine y_c1 (n := 0) C0 (by decide) dX5_sum_5 (fun v_4 e_5 => ?_)
  refine lv_istore_n (lv' := [(2, .int v_4), (0, .ref (ad 77)), (1, .int a1)]) C0.1 C0.2.1 dX5_sum_6 rfl hl (by decide) rfl (fun ls hl => ?_)
  have lp_9 : ∀ (n_11 : Nat) (x2_6 : Int32) (H : Heap) (locs : List Loc) (ls : Array Slot) (ws_7 : va_W), 900 - x2_6.toInt < (n_11 : Int) → 0 ≤ x2_6.toInt → x2_6.toInt ≤ 900 → Wt G (SC tt) ad A s H locs ws_7 → Fr (SC tt) [2, 3, 16] ws_1 ws_7 → lv_has ls 4 [(2, .int x2_6), (0, .ref (ad 77)), (1, .int a1)] → W p l e (rmd 20 0 0) s m args below meth c H locs 0 0 Q (F0 m 7 ls []) := by
    intro n_11
    induction n_11 with
    | zero => intro x2_6 H locs ls ws_7 hn_12 b_13 b_14 h hF_8 hl; exact ((o24_15 b_13 b_14 hn_12)).elim
    | succ n_11 ih_10 =>
      intro x2_6 H locs ls ws_7 hn_12 b_13 b_14 h hF_8 hl
      refine lv_iload_n C0.1 C0.2.1 dX5_sum_7 rfl (lv_at hl 0 rfl) ?_
      refine y_c3 (n := 900) C0 (by decide) dX5_sum_8 (fun v_15 e_16 => ?_)
      refine y_icmp_ge (tgt := 74) C0 dX5_sum_11 (by decide) (fun c_17 => ?_) (fun c_17 => ?_)
      · -- 11
        rw [hQ]
        exact y_vret C0 h (Fr.tr u_2 hF_8) trivial dX5_sum_74
      · -- 11
        refine lv_aload_n C0.1 C0.2.1 dX5_sum_14 rfl (lv_at hl 1 rfl) ?_
        refine tg_X5_kind C0 h kSC_77 q_374 dX5_sum_15 (fun v_18 e_19 e_20 e_21 => ?_)
        refine y_c2 (n := 43) C0 (by decide) dX5_sum_18 (fun v_22 e_23 => ?_)
        refine y_icmp_eq (tgt := 32) C0 dX5_sum_20 (by decide) (fun c_24 => ?_) (fun c_24 => ?_)
        · -- 20
          refine lv_aload_n C0.1 C0.2.1 dX5_sum_32 rfl (lv_at hl 1 rfl) ?_
          refine tg_X5_kind C0 h kSC_77 q_374 dX5_sum_33 (fun v_25 e_26 e_27 e_28 => ?_)
          have q_29 : v_25.toInt = v_18.toInt := congrArg Int32.toInt (e_26.symm.trans (Eq.trans rfl e_19))
          refine y_c2 (n := 43) C0 (by decide) dX5_sum_36 (fun v_30 e_31 => ?_)
          refine y_icmp_ne (tgt := 47) C0 dX5_sum_38 (by decide) (fun c_32 => ((o24_24 e_23 c_24 q_29 e_31 c_32)).elim) (fun c_32 => ?_)
          refine y_c3 (n := 2000) C0 (by decide) dX5_sum_41 (fun v_33 e_34 => ?_)
          refine lv_goto (tgt := 50) C0.1 C0.2.1 dX5_sum_44 (by decide) ?_
          refine lv_istore_n (lv' := [(3, .int v_33), (2, .int x2_6), (0, .ref (ad 77)), (1, .int a1)]) C0.1 C0.2.1 dX5_sum_50 rfl hl (by decide) rfl (fun ls hl => ?_)
          refine lv_aload_n C0.1 C0.2.1 dX5_sum_51 rfl (lv_at hl 2 rfl) ?_
          refine y_cv h (y_rV (As := []) (rest := []) C0 hZ h (c_X5_advance l G Z ad _ h.2) k_X5_advance q_616 q_0 q_614 kSC_77 rfl rfl rfl hl.1 rfl rfl (Nat.le_of_ble_eq_true rfl) dX5_sum_52 ⟨Nat.le_of_ble_eq_true rfl, Nat.le_of_ble_eq_true rfl⟩ ⟨Nat.le_of_ble_eq_true rfl, Nat.le_of_ble_eq_true rfl⟩) (fun H locs ws_35 h u_36 p_37 => ?_)
          refine lv_aload_n C0.1 C0.2.1 dX5_sum_55 rfl (lv_at hl 2 rfl) ?_
          refine lv_iload_n C0.1 C0.2.1 dX5_sum_56 rfl (lv_at hl 3 rfl) ?_
          refine y_cv h (y_rV (As := [.int a1]) (rest := []) C0 hZ h (c_X5_term_2 l G Z ad _ h.2 a1 (o24_58 l1 u1) (o24_59 l1 u1)) k_X5_term q_820 q_16 q_818 kSC_77 rfl rfl rfl hl.1 rfl rfl (Nat.le_of_ble_eq_true rfl) dX5_sum_57 ⟨Nat.le_of_ble_eq_true rfl, Nat.le_of_ble_eq_true rfl⟩ ⟨Nat.le_of_ble_eq_true rfl, Nat.le_of_ble_eq_true rfl⟩) (fun H locs ws_38 h u_39 p_40 => ?_)
          refine lv_aload_n C0.1 C0.2.1 dX5_sum_60 rfl (lv_at hl 2 rfl) ?_
          refine tg_X5_law C0 h kSC_77 q_380 dX5_sum_61 (fun i_41 hi_41 => ?_)
          refine lv_iload_n C0.1 C0.2.1 dX5_sum_64 rfl (lv_at hl 0 rfl) ?_
          refine y_cv h (y_rV (As := [.int v_33]) (rest := []) C0 hZ h (c_X4_add l G Z ad _ h.2 i_41 hi_41 v_33) k_X4_add q_827 q_828 q_826 hi_41 rfl rfl rfl hl.1 rfl rfl (Nat.le_of_ble_eq_true rfl) dX5_sum_65 ⟨Nat.le_of_ble_eq_true rfl, Nat.le_of_ble_eq_true rfl⟩ ⟨Nat.le_of_ble_eq_true rfl, Nat.le_of_ble_eq_true rfl⟩) (fun H locs ws_42 h u_43 p_44 => ?_)
          refine y_inc (kp := 1) (n := 1) (fun v_45 => [(2, .int v_45), (3, .int v_33), (0, .ref (ad 77)), (1, .int a1)]) C0 hl rfl (by decide) (by decide) (fun _ => rfl) (o24_16 b_13 b_14 hn_12 e_16 c_17 (le_min x2_6) (le_max x2_6) (le_min v_15) (le_max v_15)) (o24_17 b_13 b_14 hn_12 e_16 c_17 (le_min x2_6) (le_max x2_6) (le_min v_15) (le_max v_15)) dX5_sum_68 (fun v_45 ls e_46 hl => ?_)
          refine lv_goto (tgt := 7) C0.1 C0.2.1 dX5_sum_71 (by decide) ?_
          exact ih_10 v_45 _ _ _ _ (o24_18 b_13 b_14 hn_12 e_16 c_17 e_46) (o24_19 b_13 b_14 hn_12 e_16 c_17 e_46) (o24_20 b_13 b_14 hn_12 e_16 c_17 e_46) h (Fr.tr (Fr.tr (Fr.tr hF_8 (Fr.mono u_36 (by decide))) u_39) (Fr.mono u_43 (by decide))) (lv_sub hl [0, 2, 3] rfl)
        · -- 20
          refine lv_aload_n C0.1 C0.2.1 dX5_sum_23 rfl (lv_at hl 1 rfl) ?_
          refine tg_X5_kind C0 h kSC_77 q_374 dX5_sum_24 (fun v_47 e_48 e_49 e_50 => ?_)
          have q_51 : v_47.toInt = v_18.toInt := congrArg Int32.toInt (e_48.symm.trans (Eq.trans rfl e_19))
          refine y_c2 (n := 45) C0 (by decide) dX5_sum_27 (fun v_52 e_53 => ?_)
          refine y_icmp_ne (tgt := 74) C0 dX5_sum_29 (by decide) (fun c_54 => ?_) (fun c_54 => ?_)
          · -- 29
            rw [hQ]
            exact y_vret C0 h (Fr.tr u_2 hF_8) trivial dX5_sum_74
          · -- 29
            refine lv_aload_n C0.1 C0.2.1 dX5_sum_32 rfl (lv_at hl 1 rfl) ?_
            refine tg_X5_kind C0 h kSC_77 q_374 dX5_sum_33 (fun v_55 e_56 e_57 e_58 => ?_)
            have q_59 : v_55.toInt = v_18.toInt := congrArg Int32.toInt (e_56.symm.trans (Eq.trans rfl e_19))
            refine y_c2 (n := 43) C0 (by decide) dX5_sum_36 (fun v_60 e_61 => ?_)
            refine y_icmp_ne (tgt := 47) C0 dX5_sum_38 (by decide) (fun c_62 => ?_) (fun c_62 => ((o24_25 e_23 c_24 q_51 e_53 c_54 q_59 e_61 c_62)).elim)
            refine y_c3 (n := 2001) C0 (by decide) dX5_sum_47 (fun v_63 e_64 => ?_)
            refine lv_istore_n (lv' := [(3, .int v_63), (2, .int x2_6), (0, .ref (ad 77)), (1, .int a1)]) C0.1 C0.2.1 dX5_sum_50 rfl hl (by decide) rfl (fun ls hl => ?_)
            refine lv_aload_n C0.1 C0.2.1 dX5_sum_51 rfl (lv_at hl 2 rfl) ?_
            refine y_cv h (y_rV (As := []) (rest := []) C0 hZ h (c_X5_advance l G Z ad _ h.2) k_X5_advance q_616 q_0 q_614 kSC_77 rfl rfl rfl hl.1 rfl rfl (Nat.le_of_ble_eq_true rfl) dX5_sum_52 ⟨Nat.le_of_ble_eq_true rfl, Nat.le_of_ble_eq_true rfl⟩ ⟨Nat.le_of_ble_eq_true rfl, Nat.le_of_ble_eq_true rfl⟩) (fun H locs ws_65 h u_66 p_67 => ?_)
            refine lv_aload_n C0.1 C0.2.1 dX5_sum_55 rfl (lv_at hl 2 rfl) ?_
            refine lv_iload_n C0.1 C0.2.1 dX5_sum_56 rfl (lv_at hl 3 rfl) ?_
            refine y_cv h (y_rV (As := [.int a1]) (rest := []) C0 hZ h (c_X5_term_2 l G Z ad _ h.2 a1 (o24_58 l1 u1) (o24_59 l1 u1)) k_X5_term q_820 q_16 q_818 kSC_77 rfl rfl rfl hl.1 rfl rfl (Nat.le_of_ble_eq_true rfl) dX5_sum_57 ⟨Nat.le_of_ble_eq_true rfl, Nat.le_of_ble_eq_true rfl⟩ ⟨Nat.le_of_ble_eq_true rfl, Nat.le_of_ble_eq_true rfl⟩) (fun H locs ws_68 h u_69 p_70 => ?_)
            refine lv_aload_n C0.1 C0.2.1 dX5_sum_60 rfl (lv_at hl 2 rfl) ?_
            refine tg_X5_law C0 h kSC_77 q_380 dX5_sum_61 (fun i_71 hi_71 => ?_)
            refine lv_iload_n C0.1 C0.2.1 dX5_sum_64 rfl (lv_at hl 0 rfl) ?_
            refine y_cv h (y_rV (As := [.int v_63]) (rest := []) C0 hZ h (c_X4_add l G Z ad _ h.2 i_71 hi_71 v_63) k_X4_add q_827 q_828 q_826 hi_71 rfl rfl rfl hl.1 rfl rfl (Nat.le_of_ble_eq_true rfl) dX5_sum_65 ⟨Nat.le_of_ble_eq_true rfl, Nat.le_of_ble_eq_true rfl⟩ ⟨Nat.le_of_ble_eq_true rfl, Nat.le_of_ble_eq_true rfl⟩) (fun H locs ws_72 h u_73 p_74 => ?_)
            refine y_inc (kp := 1) (n := 1) (fun v_75 => [(2, .int v_75), (3, .int v_63), (0, .ref (ad 77)), (1, .int a1)]) C0 hl rfl (by decide) (by decide) (fun _ => rfl) (o24_16 b_13 b_14 hn_12 e_16 c_17 (le_min x2_6) (le_max x2_6) (le_min v_15) (le_max v_15)) (o24_17 b_13 b_14 hn_12 e_16 c_17 (le_min x2_6) (le_max x2_6) (le_min v_15) (le_max v_15)) dX5_sum_68 (fun v_75 ls e_76 hl => ?_)
            refine lv_goto (tgt := 7) C0.1 C0.2.1 dX5_sum_71 (by decide) ?_
            exact ih_10 v_75 _ _ _ _ (o24_18 b_13 b_14 hn_12 e_16 c_17 e_76) (o24_19 b_13 b_14 hn_12 e_16 c_17 e_76) (o24_20 b_13 b_14 hn_12 e_16 c_17 e_76) h (Fr.tr (Fr.tr (Fr.tr hF_8 (Fr.mono u_66 (by decide))) u_69) (Fr.mono u_73 (by decide))) (lv_sub hl [0, 2, 3] rfl)
  exact lp_9 ((900 - v_4.toInt + 1).toNat) v_4 _ _ _ _ (o24_21 e_5) (o24_22 e_5) (o24_23 e_5) h Fr.rf (lv_sub hl [0, 1, 2] rfl)
set_option maxHeartbeats 4000000 in
set_option maxRecDepth 100000 in
theorem c_X5_unit_2 (l : Launch) (G : GG) (Z : RZ) (ad : Nat → Nat) (ws0 : va_W) (hT : Ty G (SC tt) ad ws0) (a1 : Int32) (l1 : 2 ≤ a1.toInt) (u1 : a1.toInt ≤ 2) : Mq l yX5_unit cX5_unit 3 none 21 G Z [.ref (ad 77), .int a1] ws0 (PV G (SC tt) ad [2, 3, 16] ws0 (fun u => True)) := by
  refine Mq.start (by decide) (Nat.le_of_ble_eq_true rfl) ?_
  intro p e s m below meth c A ls C0 hZ h hl
  have hl : lv_has ls 3 [(0, .ref (ad 77)), (1, .int a1)] := hl
  have h : Wt G (SC tt) ad A s s.heap [] ws0 := ⟨h, hT⟩
  obtain ⟨args, hargs⟩ : ∃ z, z = ([.ref (ad 77), .int a1] : List Value).toArray := ⟨_, rfl⟩
  rw [← hargs] at C0 ⊢
  have C0 : Cx p s m args meth c RX5 cX5_unit 3 none := C0
  obtain ⟨Q, hQ⟩ : ∃ z, z = MQ below ((PV G (SC tt) ad [2, 3, 16] ws0 (fun u => True)) A) args s 0 0 A := ⟨_, rfl⟩
  rw [← hQ]
  refine lv_aload_n C0.1 C0.2.1 dX5_unit_0 rfl (lv_at hl 0 rfl) ?_
  refine va_ldcS C0.1 C0.2.1 C0.2.2.2.1 (sr_19 hZ) dX5_unit_1 ?_
  refine y_ci h (y_rV (As := [.ref (Z.2.1 19)]) (rest := []) C0 hZ h (c_X5_isWord l G Z ad _ h.2 19 (by decide)) k_X5_isWord q_724 q_5 q_722 kSC_77 rfl rfl rfl hl.1 rfl rfl (Nat.le_of_ble_eq_true rfl) dX5_unit_3 ⟨Nat.le_of_ble_eq_true rfl, Nat.le_of_ble_eq_true rfl⟩ ⟨Nat.le_of_ble_eq_true rfl, Nat.le_of_ble_eq_true rfl⟩) (fun r_4 H locs ws_1 h u_2 p_3 => ?_)
  obtain ⟨e_5, e_6⟩ := p_3
  refine y_if_eq (tgt := 49) C0 dX5_unit_6 (by decide) (fun c_7 => ?_) (fun c_7 => ?_)
  · -- 6
    refine lv_aload_n C0.1 C0.2.1 dX5_unit_49 rfl (lv_at hl 0 rfl) ?_
    refine tg_X5_kind C0 h kSC_77 q_374 dX5_unit_50 (fun v_8 e_9 e_10 e_11 => ?_)
    refine y_c2 (n := 91) C0 (by decide) dX5_unit_53 (fun v_12 e_13 => ?_)
    refine y_icmp_ne (tgt := 86) C0 dX5_unit_55 (by decide) (fun c_14 => ?_) (fun c_14 => ?_)
    · -- 55
      refine lv_aload_n C0.1 C0.2.1 dX5_unit_86 rfl (lv_at hl 0 rfl) ?_
      refine lv_iload_n C0.1 C0.2.1 dX5_unit_87 rfl (lv_at hl 1 rfl) ?_
      refine y_cv h (y_rV (As := [.int a1]) (rest := []) C0 hZ h (c_X5_sum_2 l G Z ad _ h.2 a1 (o24_58 l1 u1) (o24_59 l1 u1)) k_X5_sum q_816 q_15 q_814 kSC_77 rfl rfl rfl hl.1 rfl rfl (Nat.le_of_ble_eq_true rfl) dX5_unit_88 ⟨Nat.le_of_ble_eq_true rfl, Nat.le_of_ble_eq_true rfl⟩ ⟨Nat.le_of_ble_eq_true rfl, Nat.le_of_ble_eq_true rfl⟩) (fun H locs ws_15 h u_16 p_17 => ?_)
      refine lv_aload_n C0.1 C0.2.1 dX5_unit_91 rfl (lv_at hl 0 rfl) ?_
      refine tg_X5_kind C0 h kSC_77 q_374 dX5_unit_92 (fun v_18 e_19 e_20 e_21 => ?_)
      refine y_c2 (n := 61) C0 (by decide) dX5_unit_95 (fun v_22 e_23 => ?_)
      refine y_icmp_ne (tgt := 106) C0 dX5_unit_97 (by decide) (fun c_24 => ?_) (fun c_24 => ?_)
      · -- 97
        refine lv_aload_n C0.1 C0.2.1 dX5_unit_106 rfl (lv_at hl 0 rfl) ?_
        refine tg_X5_kind C0 h kSC_77 q_374 dX5_unit_107 (fun v_25 e_26 e_27 e_28 => ?_)
        have q_29 : v_25.toInt = v_18.toInt := congrArg Int32.toInt (e_26.symm.trans (Eq.trans rfl e_19))
        refine y_c2 (n := 60) C0 (by decide) dX5_unit_110 (fun v_30 e_31 => ?_)
        refine y_icmp_ne (tgt := 121) C0 dX5_unit_112 (by decide) (fun c_32 => ?_) (fun c_32 => ?_)
        · -- 112
          refine lv_aload_n C0.1 C0.2.1 dX5_unit_121 rfl (lv_at hl 0 rfl) ?_
          refine tg_X5_kind C0 h kSC_77 q_374 dX5_unit_122 (fun v_33 e_34 e_35 e_36 => ?_)
          have q_37 : v_33.toInt = v_18.toInt := congrArg Int32.toInt (e_34.symm.trans (Eq.trans rfl e_19))
          refine y_c2 (n := 62) C0 (by decide) dX5_unit_125 (fun v_38 e_39 => ?_)
          refine y_icmp_ne (tgt := 136) C0 dX5_unit_127 (by decide) (fun c_40 => ?_) (fun c_40 => ?_)
          · -- 127
            refine y_c1 (n := (-1)) C0 (by decide) dX5_unit_136 (fun v_41 e_42 => ?_)
            refine lv_istore_n (lv' := [(2, .int v_41), (0, .ref (ad 77)), (1, .int a1)]) C0.1 C0.2.1 dX5_unit_137 rfl hl (by decide) rfl (fun ls hl => ?_)
            refine lv_iload_n C0.1 C0.2.1 dX5_unit_138 rfl (lv_at hl 0 rfl) ?_
            refine y_if_ge (tgt := 148) C0 dX5_unit_139 (by decide) (fun c_43 => ((o24_5 e_42 c_43)).elim) (fun c_43 => ?_)
            refine lv_aload_n C0.1 C0.2.1 dX5_unit_142 rfl (lv_at hl 1 rfl) ?_
            refine y_c1 (n := 2) C0 (by decide) dX5_unit_143 (fun v_44 e_45 => ?_)
            refine y_cv h (y_rV (As := [.int v_44]) (rest := []) C0 hZ h (c_X5_fail l G Z ad _ h.2 v_44) k_X5_fail q_628 q_3 q_626 kSC_77 rfl rfl rfl hl.1 rfl rfl (Nat.le_of_ble_eq_true rfl) dX5_unit_144 ⟨Nat.le_of_ble_eq_true rfl, Nat.le_of_ble_eq_true rfl⟩ ⟨Nat.le_of_ble_eq_true rfl, Nat.le_of_ble_eq_true rfl⟩) (fun H locs ws_46 h u_47 p_48 => ?_)
            rw [hQ]
            exact y_vret C0 h (Fr.tr (Fr.tr (Fr.mono u_2 (by decide)) u_16) (Fr.mono u_47 (by decide))) trivial dX5_unit_147
          · -- 127
            refine y_c3 (n := 2005) C0 (by decide) dX5_unit_130 (fun v_49 e_50 => ?_)
            refine lv_goto (tgt := 137) C0.1 C0.2.1 dX5_unit_133 (by decide) ?_
            refine lv_istore_n (lv' := [(2, .int v_49), (0, .ref (ad 77)), (1, .int a1)]) C0.1 C0.2.1 dX5_unit_137 rfl hl (by decide) rfl (fun ls hl => ?_)
            refine lv_iload_n C0.1 C0.2.1 dX5_unit_138 rfl (lv_at hl 0 rfl) ?_
            refine y_if_ge (tgt := 148) C0 dX5_unit_139 (by decide) (fun c_51 => ?_) (fun c_51 => ((o24_26 e_50 c_51)).elim)
            refine lv_aload_n C0.1 C0.2.1 dX5_unit_148 rfl (lv_at hl 1 rfl) ?_
            refine y_cv h (y_rV (As := []) (rest := []) C0 hZ h (c_X5_advance l G Z ad _ h.2) k_X5_advance q_616 q_0 q_614 kSC_77 rfl rfl rfl hl.1 rfl rfl (Nat.le_of_ble_eq_true rfl) dX5_unit_149 ⟨Nat.le_of_ble_eq_true rfl, Nat.le_of_ble_eq_true rfl⟩ ⟨Nat.le_of_ble_eq_true rfl, Nat.le_of_ble_eq_true rfl⟩) (fun H locs ws_52 h u_53 p_54 => ?_)
            refine lv_aload_n C0.1 C0.2.1 dX5_unit_152 rfl (lv_at hl 1 rfl) ?_
            refine lv_iload_n C0.1 C0.2.1 dX5_unit_153 rfl (lv_at hl 2 rfl) ?_
            refine y_cv h (y_rV (As := [.int a1]) (rest := []) C0 hZ h (c_X5_sum_2 l G Z ad _ h.2 a1 (o24_58 l1 u1) (o24_59 l1 u1)) k_X5_sum q_816 q_15 q_814 kSC_77 rfl rfl rfl hl.1 rfl rfl (Nat.le_of_ble_eq_true rfl) dX5_unit_154 ⟨Nat.le_of_ble_eq_true rfl, Nat.le_of_ble_eq_true rfl⟩ ⟨Nat.le_of_ble_eq_true rfl, Nat.le_of_ble_eq_true rfl⟩) (fun H locs ws_55 h u_56 p_57 => ?_)
            refine lv_aload_n C0.1 C0.2.1 dX5_unit_157 rfl (lv_at hl 1 rfl) ?_
            refine tg_X5_law C0 h kSC_77 q_380 dX5_unit_158 (fun i_58 hi_58 => ?_)
            refine lv_iload_n C0.1 C0.2.1 dX5_unit_161 rfl (lv_at hl 0 rfl) ?_
            refine y_cv h (y_rV (As := [.int v_49]) (rest := []) C0 hZ h (c_X4_add l G Z ad _ h.2 i_58 hi_58 v_49) k_X4_add q_827 q_828 q_826 hi_58 rfl rfl rfl hl.1 rfl rfl (Nat.le_of_ble_eq_true rfl) dX5_unit_162 ⟨Nat.le_of_ble_eq_true rfl, Nat.le_of_ble_eq_true rfl⟩ ⟨Nat.le_of_ble_eq_true rfl, Nat.le_of_ble_eq_true rfl⟩) (fun H locs ws_59 h u_60 p_61 => ?_)
            rw [hQ]
            exact y_vret C0 h (Fr.tr (Fr.tr (Fr.tr (Fr.tr (Fr.mono u_2 (by decide)) u_16) (Fr.mono u_53 (by decide))) u_56) (Fr.mono u_60 (by decide))) trivial dX5_unit_165
        · -- 112
          refine y_c3 (n := 2004) C0 (by decide) dX5_unit_115 (fun v_62 e_63 => ?_)
          refine lv_goto (tgt := 137) C0.1 C0.2.1 dX5_unit_118 (by decide) ?_
          refine lv_istore_n (lv' := [(2, .int v_62), (0, .ref (ad 77)), (1, .int a1)]) C0.1 C0.2.1 dX5_unit_137 rfl hl (by decide) rfl (fun ls hl => ?_)
          refine lv_iload_n C0.1 C0.2.1 dX5_unit_138 rfl (lv_at hl 0 rfl) ?_
          refine y_if_ge (tgt := 148) C0 dX5_unit_139 (by decide) (fun c_64 => ?_) (fun c_64 => ((o24_27 e_63 c_64)).elim)
          refine lv_aload_n C0.1 C0.2.1 dX5_unit_148 rfl (lv_at hl 1 rfl) ?_
          refine y_cv h (y_rV (As := []) (rest := []) C0 hZ h (c_X5_advance l G Z ad _ h.2) k_X5_advance q_616 q_0 q_614 kSC_77 rfl rfl rfl hl.1 rfl rfl (Nat.le_of_ble_eq_true rfl) dX5_unit_149 ⟨Nat.le_of_ble_eq_true rfl, Nat.le_of_ble_eq_true rfl⟩ ⟨Nat.le_of_ble_eq_true rfl, Nat.le_of_ble_eq_true rfl⟩) (fun H locs ws_65 h u_66 p_67 => ?_)
          refine lv_aload_n C0.1 C0.2.1 dX5_unit_152 rfl (lv_at hl 1 rfl) ?_
          refine lv_iload_n C0.1 C0.2.1 dX5_unit_153 rfl (lv_at hl 2 rfl) ?_
          refine y_cv h (y_rV (As := [.int a1]) (rest := []) C0 hZ h (c_X5_sum_2 l G Z ad _ h.2 a1 (o24_58 l1 u1) (o24_59 l1 u1)) k_X5_sum q_816 q_15 q_814 kSC_77 rfl rfl rfl hl.1 rfl rfl (Nat.le_of_ble_eq_true rfl) dX5_unit_154 ⟨Nat.le_of_ble_eq_true rfl, Nat.le_of_ble_eq_true rfl⟩ ⟨Nat.le_of_ble_eq_true rfl, Nat.le_of_ble_eq_true rfl⟩) (fun H locs ws_68 h u_69 p_70 => ?_)
          refine lv_aload_n C0.1 C0.2.1 dX5_unit_157 rfl (lv_at hl 1 rfl) ?_
          refine tg_X5_law C0 h kSC_77 q_380 dX5_unit_158 (fun i_71 hi_71 => ?_)
          refine lv_iload_n C0.1 C0.2.1 dX5_unit_161 rfl (lv_at hl 0 rfl) ?_
          refine y_cv h (y_rV (As := [.int v_62]) (rest := []) C0 hZ h (c_X4_add l G Z ad _ h.2 i_71 hi_71 v_62) k_X4_add q_827 q_828 q_826 hi_71 rfl rfl rfl hl.1 rfl rfl (Nat.le_of_ble_eq_true rfl) dX5_unit_162 ⟨Nat.le_of_ble_eq_true rfl, Nat.le_of_ble_eq_true rfl⟩ ⟨Nat.le_of_ble_eq_true rfl, Nat.le_of_ble_eq_true rfl⟩) (fun H locs ws_72 h u_73 p_74 => ?_)
          rw [hQ]
          exact y_vret C0 h (Fr.tr (Fr.tr (Fr.tr (Fr.tr (Fr.mono u_2 (by decide)) u_16) (Fr.mono u_66 (by decide))) u_69) (Fr.mono u_73 (by decide))) trivial dX5_unit_165
      · -- 97
        refine y_c3 (n := 2003) C0 (by decide) dX5_unit_100 (fun v_75 e_76 => ?_)
        refine lv_goto (tgt := 137) C0.1 C0.2.1 dX5_unit_103 (by decide) ?_
        refine lv_istore_n (lv' := [(2, .int v_75), (0, .ref (ad 77)), (1, .int a1)]) C0.1 C0.2.1 dX5_unit_137 rfl hl (by decide) rfl (fun ls hl => ?_)
        refine lv_iload_n C0.1 C0.2.1 dX5_unit_138 rfl (lv_at hl 0 rfl) ?_
        refine y_if_ge (tgt := 148) C0 dX5_unit_139 (by decide) (fun c_77 => ?_) (fun c_77 => ((o24_28 e_76 c_77)).elim)
        refine lv_aload_n C0.1 C0.2.1 dX5_unit_148 rfl (lv_at hl 1 rfl) ?_
        refine y_cv h (y_rV (As := []) (rest := []) C0 hZ h (c_X5_advance l G Z ad _ h.2) k_X5_advance q_616 q_0 q_614 kSC_77 rfl rfl rfl hl.1 rfl rfl (Nat.le_of_ble_eq_true rfl) dX5_unit_149 ⟨Nat.le_of_ble_eq_true rfl, Nat.le_of_ble_eq_true rfl⟩ ⟨Nat.le_of_ble_eq_true rfl, Nat.le_of_ble_eq_true rfl⟩) (fun H locs ws_78 h u_79 p_80 => ?_)
        refine lv_aload_n C0.1 C0.2.1 dX5_unit_152 rfl (lv_at hl 1 rfl) ?_
        refine lv_iload_n C0.1 C0.2.1 dX5_unit_153 rfl (lv_at hl 2 rfl) ?_
        refine y_cv h (y_rV (As := [.int a1]) (rest := []) C0 hZ h (c_X5_sum_2 l G Z ad _ h.2 a1 (o24_58 l1 u1) (o24_59 l1 u1)) k_X5_sum q_816 q_15 q_814 kSC_77 rfl rfl rfl hl.1 rfl rfl (Nat.le_of_ble_eq_true rfl) dX5_unit_154 ⟨Nat.le_of_ble_eq_true rfl, Nat.le_of_ble_eq_true rfl⟩ ⟨Nat.le_of_ble_eq_true rfl, Nat.le_of_ble_eq_true rfl⟩) (fun H locs ws_81 h u_82 p_83 => ?_)
        refine lv_aload_n C0.1 C0.2.1 dX5_unit_157 rfl (lv_at hl 1 rfl) ?_
        refine tg_X5_law C0 h kSC_77 q_380 dX5_unit_158 (fun i_84 hi_84 => ?_)
        refine lv_iload_n C0.1 C0.2.1 dX5_unit_161 rfl (lv_at hl 0 rfl) ?_
        refine y_cv h (y_rV (As := [.int v_75]) (rest := []) C0 hZ h (c_X4_add l G Z ad _ h.2 i_84 hi_84 v_75) k_X4_add q_827 q_828 q_826 hi_84 rfl rfl rfl hl.1 rfl rfl (Nat.le_of_ble_eq_true rfl) dX5_unit_162 ⟨Nat.le_of_ble_eq_true rfl, Nat.le_of_ble_eq_true rfl⟩ ⟨Nat.le_of_ble_eq_true rfl, Nat.le_of_ble_eq_true rfl⟩) (fun H locs ws_85 h u_86 p_87 => ?_)
        rw [hQ]
        exact y_vret C0 h (Fr.tr (Fr.tr (Fr.tr (Fr.tr (Fr.mono u_2 (by decide)) u_16) (Fr.mono u_79 (by decide))) u_82) (Fr.mono u_86 (by decide))) trivial dX5_unit_165
    · -- 55
      refine lv_aload_n C0.1 C0.2.1 dX5_unit_58 rfl (lv_at hl 0 rfl) ?_
      refine lv_iload_n C0.1 C0.2.1 dX5_unit_59 rfl (lv_at hl 1 rfl) ?_
      refine y_ci h (y_rV (As := [.int a1]) (rest := []) C0 hZ h (c_X5_tooDeep_2 l G Z ad _ h.2 a1 (o24_58 l1 u1) (o24_59 l1 u1)) k_X5_tooDeep q_832 q_18 q_830 kSC_77 rfl rfl rfl hl.1 rfl rfl (Nat.le_of_ble_eq_true rfl) dX5_unit_60 ⟨Nat.le_of_ble_eq_true rfl, Nat.le_of_ble_eq_true rfl⟩ ⟨Nat.le_of_ble_eq_true rfl, Nat.le_of_ble_eq_true rfl⟩) (fun r_91 H locs ws_88 h u_89 p_90 => ?_)
      obtain ⟨e_92, e_93⟩ := p_90
      refine y_if_ne (tgt := 165) C0 dX5_unit_63 (by decide) (fun c_94 => ((o24_34 e_92 e_93 c_94)).elim) (fun c_94 => ?_)
      refine lv_aload_n C0.1 C0.2.1 dX5_unit_66 rfl (lv_at hl 0 rfl) ?_
      refine y_cv h (y_rV (As := []) (rest := []) C0 hZ h (c_X5_advance l G Z ad _ h.2) k_X5_advance q_616 q_0 q_614 kSC_77 rfl rfl rfl hl.1 rfl rfl (Nat.le_of_ble_eq_true rfl) dX5_unit_67 ⟨Nat.le_of_ble_eq_true rfl, Nat.le_of_ble_eq_true rfl⟩ ⟨Nat.le_of_ble_eq_true rfl, Nat.le_of_ble_eq_true rfl⟩) (fun H locs ws_95 h u_96 p_97 => ?_)
      refine lv_aload_n C0.1 C0.2.1 dX5_unit_70 rfl (lv_at hl 0 rfl) ?_
      refine lv_iload_n C0.1 C0.2.1 dX5_unit_71 rfl (lv_at hl 1 rfl) ?_
      refine y_c1 (n := 1) C0 (by decide) dX5_unit_72 (fun v_98 e_99 => ?_)
      refine y_add C0 (o24_60 l1 u1 e_99 (le_min a1) (le_max a1) (le_min v_98) (le_max v_98)) (o24_61 l1 u1 e_99 (le_min a1) (le_max a1) (le_min v_98) (le_max v_98)) dX5_unit_73 (fun v_100 e_101 => ?_)
      refine y_cv h (y_rV (As := [.int v_100]) (rest := []) C0 hZ h (c_X5_truth_3 l G Z ad _ h.2 v_100 (o24_62 l1 u1 e_99 e_101) (o24_63 l1 u1 e_99 e_101)) k_X5_truth q_843 q_19 q_841 kSC_77 rfl rfl rfl hl.1 rfl rfl (Nat.le_of_ble_eq_true rfl) dX5_unit_74 ⟨Nat.le_of_ble_eq_true rfl, Nat.le_of_ble_eq_true rfl⟩ ⟨Nat.le_of_ble_eq_true rfl, Nat.le_of_ble_eq_true rfl⟩) (fun H locs ws_102 h u_103 p_104 => ?_)
      refine lv_aload_n C0.1 C0.2.1 dX5_unit_77 rfl (lv_at hl 0 rfl) ?_
      refine y_c2 (n := 93) C0 (by decide) dX5_unit_78 (fun v_105 e_106 => ?_)
      refine y_cv h (y_rV (As := [.int v_105]) (rest := []) C0 hZ h (c_X5_sign l G Z ad _ h.2 v_105 (o24_41 e_106) (o24_42 e_106)) k_X5_sign q_812 q_14 q_810 kSC_77 rfl rfl rfl hl.1 rfl rfl (Nat.le_of_ble_eq_true rfl) dX5_unit_80 ⟨Nat.le_of_ble_eq_true rfl, Nat.le_of_ble_eq_true rfl⟩ ⟨Nat.le_of_ble_eq_true rfl, Nat.le_of_ble_eq_true rfl⟩) (fun H locs ws_107 h u_108 p_109 => ?_)
      refine lv_goto (tgt := 165) C0.1 C0.2.1 dX5_unit_83 (by decide) ?_
      rw [hQ]
      exact y_vret C0 h (Fr.tr (Fr.tr (Fr.tr (Fr.tr (Fr.mono u_2 (by decide)) (Fr.mono u_89 (by decide))) (Fr.mono u_96 (by decide))) u_103) (Fr.mono u_108 (by decide))) trivial dX5_unit_165
  · -- 6
    refine lv_aload_n C0.1 C0.2.1 dX5_unit_9 rfl (lv_at hl 0 rfl) ?_
    refine lv_iload_n C0.1 C0.2.1 dX5_unit_10 rfl (lv_at hl 1 rfl) ?_
    refine y_ci h (y_rV (As := [.int a1]) (rest := []) C0 hZ h (c_X5_tooDeep_2 l G Z ad _ h.2 a1 (o24_58 l1 u1) (o24_59 l1 u1)) k_X5_tooDeep q_832 q_18 q_830 kSC_77 rfl rfl rfl hl.1 rfl rfl (Nat.le_of_ble_eq_true rfl) dX5_unit_11 ⟨Nat.le_of_ble_eq_true rfl, Nat.le_of_ble_eq_true rfl⟩ ⟨Nat.le_of_ble_eq_true rfl, Nat.le_of_ble_eq_true rfl⟩) (fun r_113 H locs ws_110 h u_111 p_112 => ?_)
    obtain ⟨e_114, e_115⟩ := p_112
    refine y_if_ne (tgt := 165) C0 dX5_unit_14 (by decide) (fun c_116 => ((o24_34 e_114 e_115 c_116)).elim) (fun c_116 => ?_)
    refine lv_aload_n C0.1 C0.2.1 dX5_unit_17 rfl (lv_at hl 0 rfl) ?_
    refine y_cv h (y_rV (As := []) (rest := []) C0 hZ h (c_X5_advance l G Z ad _ h.2) k_X5_advance q_616 q_0 q_614 kSC_77 rfl rfl rfl hl.1 rfl rfl (Nat.le_of_ble_eq_true rfl) dX5_unit_18 ⟨Nat.le_of_ble_eq_true rfl, Nat.le_of_ble_eq_true rfl⟩ ⟨Nat.le_of_ble_eq_true rfl, Nat.le_of_ble_eq_true rfl⟩) (fun H locs ws_117 h u_118 p_119 => ?_)
    refine lv_aload_n C0.1 C0.2.1 dX5_unit_21 rfl (lv_at hl 0 rfl) ?_
    refine lv_iload_n C0.1 C0.2.1 dX5_unit_22 rfl (lv_at hl 1 rfl) ?_
    refine y_c1 (n := 1) C0 (by decide) dX5_unit_23 (fun v_120 e_121 => ?_)
    refine y_add C0 (o24_60 l1 u1 e_121 (le_min a1) (le_max a1) (le_min v_120) (le_max v_120)) (o24_61 l1 u1 e_121 (le_min a1) (le_max a1) (le_min v_120) (le_max v_120)) dX5_unit_24 (fun v_122 e_123 => ?_)
    refine y_cv h (y_rV (As := [.int v_122]) (rest := []) C0 hZ h (c_X5_unit_3 l G Z ad _ h.2 v_122 (o24_62 l1 u1 e_121 e_123) (o24_63 l1 u1 e_121 e_123)) k_X5_unit q_851 q_21 q_849 kSC_77 rfl rfl rfl hl.1 rfl rfl (Nat.le_of_ble_eq_true rfl) dX5_unit_25 ⟨Nat.le_of_ble_eq_true rfl, Nat.le_of_ble_eq_true rfl⟩ ⟨Nat.le_of_ble_eq_true rfl, Nat.le_of_ble_eq_true rfl⟩) (fun H locs ws_124 h u_125 p_126 => ?_)
    refine lv_aload_n C0.1 C0.2.1 dX5_unit_28 rfl (lv_at hl 0 rfl) ?_
    refine tg_X5_law C0 h kSC_77 q_380 dX5_unit_29 (fun i_127 hi_127 => ?_)
    refine y_c1 (n := 0) C0 (by decide) dX5_unit_32 (fun v_128 e_129 => ?_)
    refine y_cv h (y_rV (As := [.int v_128]) (rest := []) C0 hZ h (c_X4_add l G Z ad _ h.2 i_127 hi_127 v_128) k_X4_add q_827 q_828 q_826 hi_127 rfl rfl rfl hl.1 rfl rfl (Nat.le_of_ble_eq_true rfl) dX5_unit_33 ⟨Nat.le_of_ble_eq_true rfl, Nat.le_of_ble_eq_true rfl⟩ ⟨Nat.le_of_ble_eq_true rfl, Nat.le_of_ble_eq_true rfl⟩) (fun H locs ws_130 h u_131 p_132 => ?_)
    refine lv_aload_n C0.1 C0.2.1 dX5_unit_36 rfl (lv_at hl 0 rfl) ?_
    refine tg_X5_law C0 h kSC_77 q_380 dX5_unit_37 (fun i_133 hi_133 => ?_)
    refine y_c3 (n := 2003) C0 (by decide) dX5_unit_40 (fun v_134 e_135 => ?_)
    refine y_cv h (y_rV (As := [.int v_134]) (rest := []) C0 hZ h (c_X4_add l G Z ad _ h.2 i_133 hi_133 v_134) k_X4_add q_827 q_828 q_826 hi_133 rfl rfl rfl hl.1 rfl rfl (Nat.le_of_ble_eq_true rfl) dX5_unit_43 ⟨Nat.le_of_ble_eq_true rfl, Nat.le_of_ble_eq_true rfl⟩ ⟨Nat.le_of_ble_eq_true rfl, Nat.le_of_ble_eq_true rfl⟩) (fun H locs ws_136 h u_137 p_138 => ?_)
    refine lv_goto (tgt := 165) C0.1 C0.2.1 dX5_unit_46 (by decide) ?_
    rw [hQ]
    exact y_vret C0 h (Fr.tr (Fr.tr (Fr.tr (Fr.tr (Fr.tr (Fr.mono u_2 (by decide)) (Fr.mono u_111 (by decide))) (Fr.mono u_118 (by decide))) u_125) (Fr.mono u_131 (by decide))) (Fr.mono u_137 (by decide))) trivial dX5_unit_165
set_option maxHeartbeats 4000000 in
set_option maxRecDepth 100000 in
theorem c_X5_both_2 (l : Launch) (G : GG) (Z : RZ) (ad : Nat → Nat) (ws0 : va_W) (hT : Ty G (SC tt) ad ws0) (a1 : Int32) (l1 : 2 ≤ a1.toInt) (u1 : a1.toInt ≤ 2) : Mq l yX5_both cX5_both 3 none 22 G Z [.ref (ad 77), .int a1] ws0 (PV G (SC tt) ad [2, 3, 16] ws0 (fun u => True)) := by
  refine Mq.start (by decide) (Nat.le_of_ble_eq_true rfl) ?_
  intro p e s m below meth c A ls C0 hZ h hl
  have hl : lv_has ls 3 [(0, .ref (ad 77)), (1, .int a1)] := hl
  have h : Wt G (SC tt) ad A s s.heap [] ws0 := ⟨h, hT⟩
  obtain ⟨args, hargs⟩ : ∃ z, z = ([.ref (ad 77), .int a1] : List Value).toArray := ⟨_, rfl⟩
  rw [← hargs] at C0 ⊢
  have C0 : Cx p s m args meth c RX5 cX5_both 3 none := C0
  obtain ⟨Q, hQ⟩ : ∃ z, z = MQ below ((PV G (SC tt) ad [2, 3, 16] ws0 (fun u => True)) A) args s 0 0 A := ⟨_, rfl⟩
  rw [← hQ]
  refine lv_aload_n C0.1 C0.2.1 dX5_both_0 rfl (lv_at hl 0 rfl) ?_
  refine lv_iload_n C0.1 C0.2.1 dX5_both_1 rfl (lv_at hl 1 rfl) ?_
  refine y_cv h (y_rV (As := [.int a1]) (rest := []) C0 hZ h (c_X5_unit_2 l G Z ad _ h.2 a1 (o24_58 l1 u1) (o24_59 l1 u1)) k_X5_unit q_851 q_21 q_849 kSC_77 rfl rfl rfl hl.1 rfl rfl (Nat.le_of_ble_eq_true rfl) dX5_both_2 ⟨Nat.le_of_ble_eq_true rfl, Nat.le_of_ble_eq_true rfl⟩ ⟨Nat.le_of_ble_eq_true rfl, Nat.le_of_ble_eq_true rfl⟩) (fun H locs ws_1 h u_2 p_3 => ?_)
  refine y_c1 (n := 0) C0 (by decide) dX5_both_5 (fun v_4 e_5 => ?_)
  refine lv_istore_n (lv' := [(2, .int v_4), (0, .ref (ad 77)), (1, .int a1)]) C0.1 C0.2.1 dX5_both_6 rfl hl (by decide) rfl (fun ls hl => ?_)
  have lp_9 : ∀ (n_11 : Nat) (x2_6 : Int32) (H : Heap) (locs : List Loc) (ls : Array Slot) (ws_7 : va_W), 900 - x2_6.toInt < (n_11 : Int) → 0 ≤ x2_6.toInt → x2_6.toInt ≤ 900 → Wt G (SC tt) ad A s H locs ws_7 → Fr (SC tt) [2, 3, 16] ws_1 ws_7 → lv_has ls 3 [(2, .int x2_6), (0, .ref (ad 77)), (1, .int a1)] → W p l e (rmd 22 0 0) s m args below meth c H locs 0 0 Q (F0 m 7 ls []) := by
    intro n_11
    induction n_11 with
    | zero => intro x2_6 H locs ls ws_7 hn_12 b_13 b_14 h hF_8 hl; exact ((o24_15 b_13 b_14 hn_12)).elim
    | succ n_11 ih_10 =>
      intro x2_6 H locs ls ws_7 hn_12 b_13 b_14 h hF_8 hl
      refine lv_iload_n C0.1 C0.2.1 dX5_both_7 rfl (lv_at hl 0 rfl) ?_
      refine y_c3 (n := 900) C0 (by decide) dX5_both_8 (fun v_15 e_16 => ?_)
      refine y_icmp_ge (tgt := 48) C0 dX5_both_11 (by decide) (fun c_17 => ?_) (fun c_17 => ?_)
      · -- 11
        rw [hQ]
        exact y_vret C0 h (Fr.tr u_2 hF_8) trivial dX5_both_48
      · -- 11
        refine lv_aload_n C0.1 C0.2.1 dX5_both_14 rfl (lv_at hl 1 rfl) ?_
        refine va_ldcS C0.1 C0.2.1 C0.2.2.2.1 (sr_20 hZ) dX5_both_15 ?_
        refine y_ci h (y_rV (As := [.ref (Z.2.1 20)]) (rest := []) C0 hZ h (c_X5_isWord l G Z ad _ h.2 20 (by decide)) k_X5_isWord q_724 q_5 q_722 kSC_77 rfl rfl rfl hl.1 rfl rfl (Nat.le_of_ble_eq_true rfl) dX5_both_17 ⟨Nat.le_of_ble_eq_true rfl, Nat.le_of_ble_eq_true rfl⟩ ⟨Nat.le_of_ble_eq_true rfl, Nat.le_of_ble_eq_true rfl⟩) (fun r_21 H locs ws_18 h u_19 p_20 => ?_)
        obtain ⟨e_22, e_23⟩ := p_20
        refine y_if_eq (tgt := 48) C0 dX5_both_20 (by decide) (fun c_24 => ?_) (fun c_24 => ?_)
        · -- 20
          rw [hQ]
          exact y_vret C0 h (Fr.tr (Fr.tr u_2 hF_8) (Fr.mono u_19 (by decide))) trivial dX5_both_48
        · -- 20
          refine lv_aload_n C0.1 C0.2.1 dX5_both_23 rfl (lv_at hl 1 rfl) ?_
          refine y_cv h (y_rV (As := []) (rest := []) C0 hZ h (c_X5_advance l G Z ad _ h.2) k_X5_advance q_616 q_0 q_614 kSC_77 rfl rfl rfl hl.1 rfl rfl (Nat.le_of_ble_eq_true rfl) dX5_both_24 ⟨Nat.le_of_ble_eq_true rfl, Nat.le_of_ble_eq_true rfl⟩ ⟨Nat.le_of_ble_eq_true rfl, Nat.le_of_ble_eq_true rfl⟩) (fun H locs ws_25 h u_26 p_27 => ?_)
          refine lv_aload_n C0.1 C0.2.1 dX5_both_27 rfl (lv_at hl 1 rfl) ?_
          refine lv_iload_n C0.1 C0.2.1 dX5_both_28 rfl (lv_at hl 2 rfl) ?_
          refine y_cv h (y_rV (As := [.int a1]) (rest := []) C0 hZ h (c_X5_unit_2 l G Z ad _ h.2 a1 (o24_58 l1 u1) (o24_59 l1 u1)) k_X5_unit q_851 q_21 q_849 kSC_77 rfl rfl rfl hl.1 rfl rfl (Nat.le_of_ble_eq_true rfl) dX5_both_29 ⟨Nat.le_of_ble_eq_true rfl, Nat.le_of_ble_eq_true rfl⟩ ⟨Nat.le_of_ble_eq_true rfl, Nat.le_of_ble_eq_true rfl⟩) (fun H locs ws_28 h u_29 p_30 => ?_)
          refine lv_aload_n C0.1 C0.2.1 dX5_both_32 rfl (lv_at hl 1 rfl) ?_
          refine tg_X5_law C0 h kSC_77 q_380 dX5_both_33 (fun i_31 hi_31 => ?_)
          refine y_c3 (n := 2006) C0 (by decide) dX5_both_36 (fun v_32 e_33 => ?_)
          refine y_cv h (y_rV (As := [.int v_32]) (rest := []) C0 hZ h (c_X4_add l G Z ad _ h.2 i_31 hi_31 v_32) k_X4_add q_827 q_828 q_826 hi_31 rfl rfl rfl hl.1 rfl rfl (Nat.le_of_ble_eq_true rfl) dX5_both_39 ⟨Nat.le_of_ble_eq_true rfl, Nat.le_of_ble_eq_true rfl⟩ ⟨Nat.le_of_ble_eq_true rfl, Nat.le_of_ble_eq_true rfl⟩) (fun H locs ws_34 h u_35 p_36 => ?_)
          refine y_inc (kp := 0) (n := 1) (fun v_37 => [(2, .int v_37), (0, .ref (ad 77)), (1, .int a1)]) C0 hl rfl (by decide) (by decide) (fun _ => rfl) (o24_16 b_13 b_14 hn_12 e_16 c_17 (le_min x2_6) (le_max x2_6) (le_min v_15) (le_max v_15)) (o24_17 b_13 b_14 hn_12 e_16 c_17 (le_min x2_6) (le_max x2_6) (le_min v_15) (le_max v_15)) dX5_both_42 (fun v_37 ls e_38 hl => ?_)
          refine lv_goto (tgt := 7) C0.1 C0.2.1 dX5_both_45 (by decide) ?_
          exact ih_10 v_37 _ _ _ _ (o24_18 b_13 b_14 hn_12 e_16 c_17 e_38) (o24_19 b_13 b_14 hn_12 e_16 c_17 e_38) (o24_20 b_13 b_14 hn_12 e_16 c_17 e_38) h (Fr.tr (Fr.tr (Fr.tr (Fr.tr hF_8 (Fr.mono u_19 (by decide))) (Fr.mono u_26 (by decide))) u_29) (Fr.mono u_35 (by decide))) (lv_sub hl [0, 1, 2] rfl)
  exact lp_9 ((900 - v_4.toInt + 1).toNat) v_4 _ _ _ _ (o24_21 e_5) (o24_22 e_5) (o24_23 e_5) h Fr.rf (lv_sub hl [0, 1, 2] rfl)
set_option maxHeartbeats 4000000 in
set_option maxRecDepth 100000 in
theorem c_X5_truth_2 (l : Launch) (G : GG) (Z : RZ) (ad : Nat → Nat) (ws0 : va_W) (hT : Ty G (SC tt) ad ws0) (a1 : Int32) (l1 : 2 ≤ a1.toInt) (u1 : a1.toInt ≤ 2) : Mq l yX5_truth cX5_truth 3 none 23 G Z [.ref (ad 77), .int a1] ws0 (PV G (SC tt) ad [2, 3, 16] ws0 (fun u => True)) := by
  refine Mq.start (by decide) (Nat.le_of_ble_eq_true rfl) ?_
  intro p e s m below meth c A ls C0 hZ h hl
  have hl : lv_has ls 3 [(0, .ref (ad 77)), (1, .int a1)] := hl
  have h : Wt G (SC tt) ad A s s.heap [] ws0 := ⟨h, hT⟩
  obtain ⟨args, hargs⟩ : ∃ z, z = ([.ref (ad 77), .int a1] : List Value).toArray := ⟨_, rfl⟩
  rw [← hargs] at C0 ⊢
  have C0 : Cx p s m args meth c RX5 cX5_truth 3 none := C0
  obtain ⟨Q, hQ⟩ : ∃ z, z = MQ below ((PV G (SC tt) ad [2, 3, 16] ws0 (fun u => True)) A) args s 0 0 A := ⟨_, rfl⟩
  rw [← hQ]
  refine lv_aload_n C0.1 C0.2.1 dX5_truth_0 rfl (lv_at hl 0 rfl) ?_
  refine lv_iload_n C0.1 C0.2.1 dX5_truth_1 rfl (lv_at hl 1 rfl) ?_
  refine y_cv h (y_rV (As := [.int a1]) (rest := []) C0 hZ h (c_X5_both_2 l G Z ad _ h.2 a1 (o24_58 l1 u1) (o24_59 l1 u1)) k_X5_both q_847 q_20 q_845 kSC_77 rfl rfl rfl hl.1 rfl rfl (Nat.le_of_ble_eq_true rfl) dX5_truth_2 ⟨Nat.le_of_ble_eq_true rfl, Nat.le_of_ble_eq_true rfl⟩ ⟨Nat.le_of_ble_eq_true rfl, Nat.le_of_ble_eq_true rfl⟩) (fun H locs ws_1 h u_2 p_3 => ?_)
  refine y_c1 (n := 0) C0 (by decide) dX5_truth_5 (fun v_4 e_5 => ?_)
  refine lv_istore_n (lv' := [(2, .int v_4), (0, .ref (ad 77)), (1, .int a1)]) C0.1 C0.2.1 dX5_truth_6 rfl hl (by decide) rfl (fun ls hl => ?_)
  have lp_9 : ∀ (n_11 : Nat) (x2_6 : Int32) (H : Heap) (locs : List Loc) (ls : Array Slot) (ws_7 : va_W), 900 - x2_6.toInt < (n_11 : Int) → 0 ≤ x2_6.toInt → x2_6.toInt ≤ 900 → Wt G (SC tt) ad A s H locs ws_7 → Fr (SC tt) [2, 3, 16] ws_1 ws_7 → lv_has ls 3 [(2, .int x2_6), (0, .ref (ad 77)), (1, .int a1)] → W p l e (rmd 23 0 0) s m args below meth c H locs 0 0 Q (F0 m 7 ls []) := by
    intro n_11
    induction n_11 with
    | zero => intro x2_6 H locs ls ws_7 hn_12 b_13 b_14 h hF_8 hl; exact ((o24_15 b_13 b_14 hn_12)).elim
    | succ n_11 ih_10 =>
      intro x2_6 H locs ls ws_7 hn_12 b_13 b_14 h hF_8 hl
      refine lv_iload_n C0.1 C0.2.1 dX5_truth_7 rfl (lv_at hl 0 rfl) ?_
      refine y_c3 (n := 900) C0 (by decide) dX5_truth_8 (fun v_15 e_16 => ?_)
      refine y_icmp_ge (tgt := 48) C0 dX5_truth_11 (by decide) (fun c_17 => ?_) (fun c_17 => ?_)
      · -- 11
        rw [hQ]
        exact y_vret C0 h (Fr.tr u_2 hF_8) trivial dX5_truth_48
      · -- 11
        refine lv_aload_n C0.1 C0.2.1 dX5_truth_14 rfl (lv_at hl 1 rfl) ?_
        refine va_ldcS C0.1 C0.2.1 C0.2.2.2.1 (sr_21 hZ) dX5_truth_15 ?_
        refine y_ci h (y_rV (As := [.ref (Z.2.1 21)]) (rest := []) C0 hZ h (c_X5_isWord l G Z ad _ h.2 21 (by decide)) k_X5_isWord q_724 q_5 q_722 kSC_77 rfl rfl rfl hl.1 rfl rfl (Nat.le_of_ble_eq_true rfl) dX5_truth_17 ⟨Nat.le_of_ble_eq_true rfl, Nat.le_of_ble_eq_true rfl⟩ ⟨Nat.le_of_ble_eq_true rfl, Nat.le_of_ble_eq_true rfl⟩) (fun r_21 H locs ws_18 h u_19 p_20 => ?_)
        obtain ⟨e_22, e_23⟩ := p_20
        refine y_if_eq (tgt := 48) C0 dX5_truth_20 (by decide) (fun c_24 => ?_) (fun c_24 => ?_)
        · -- 20
          rw [hQ]
          exact y_vret C0 h (Fr.tr (Fr.tr u_2 hF_8) (Fr.mono u_19 (by decide))) trivial dX5_truth_48
        · -- 20
          refine lv_aload_n C0.1 C0.2.1 dX5_truth_23 rfl (lv_at hl 1 rfl) ?_
          refine y_cv h (y_rV (As := []) (rest := []) C0 hZ h (c_X5_advance l G Z ad _ h.2) k_X5_advance q_616 q_0 q_614 kSC_77 rfl rfl rfl hl.1 rfl rfl (Nat.le_of_ble_eq_true rfl) dX5_truth_24 ⟨Nat.le_of_ble_eq_true rfl, Nat.le_of_ble_eq_true rfl⟩ ⟨Nat.le_of_ble_eq_true rfl, Nat.le_of_ble_eq_true rfl⟩) (fun H locs ws_25 h u_26 p_27 => ?_)
          refine lv_aload_n C0.1 C0.2.1 dX5_truth_27 rfl (lv_at hl 1 rfl) ?_
          refine lv_iload_n C0.1 C0.2.1 dX5_truth_28 rfl (lv_at hl 2 rfl) ?_
          refine y_cv h (y_rV (As := [.int a1]) (rest := []) C0 hZ h (c_X5_both_2 l G Z ad _ h.2 a1 (o24_58 l1 u1) (o24_59 l1 u1)) k_X5_both q_847 q_20 q_845 kSC_77 rfl rfl rfl hl.1 rfl rfl (Nat.le_of_ble_eq_true rfl) dX5_truth_29 ⟨Nat.le_of_ble_eq_true rfl, Nat.le_of_ble_eq_true rfl⟩ ⟨Nat.le_of_ble_eq_true rfl, Nat.le_of_ble_eq_true rfl⟩) (fun H locs ws_28 h u_29 p_30 => ?_)
          refine lv_aload_n C0.1 C0.2.1 dX5_truth_32 rfl (lv_at hl 1 rfl) ?_
          refine tg_X5_law C0 h kSC_77 q_380 dX5_truth_33 (fun i_31 hi_31 => ?_)
          refine y_c3 (n := 2007) C0 (by decide) dX5_truth_36 (fun v_32 e_33 => ?_)
          refine y_cv h (y_rV (As := [.int v_32]) (rest := []) C0 hZ h (c_X4_add l G Z ad _ h.2 i_31 hi_31 v_32) k_X4_add q_827 q_828 q_826 hi_31 rfl rfl rfl hl.1 rfl rfl (Nat.le_of_ble_eq_true rfl) dX5_truth_39 ⟨Nat.le_of_ble_eq_true rfl, Nat.le_of_ble_eq_true rfl⟩ ⟨Nat.le_of_ble_eq_true rfl, Nat.le_of_ble_eq_true rfl⟩) (fun H locs ws_34 h u_35 p_36 => ?_)
          refine y_inc (kp := 0) (n := 1) (fun v_37 => [(2, .int v_37), (0, .ref (ad 77)), (1, .int a1)]) C0 hl rfl (by decide) (by decide) (fun _ => rfl) (o24_16 b_13 b_14 hn_12 e_16 c_17 (le_min x2_6) (le_max x2_6) (le_min v_15) (le_max v_15)) (o24_17 b_13 b_14 hn_12 e_16 c_17 (le_min x2_6) (le_max x2_6) (le_min v_15) (le_max v_15)) dX5_truth_42 (fun v_37 ls e_38 hl => ?_)
          refine lv_goto (tgt := 7) C0.1 C0.2.1 dX5_truth_45 (by decide) ?_
          exact ih_10 v_37 _ _ _ _ (o24_18 b_13 b_14 hn_12 e_16 c_17 e_38) (o24_19 b_13 b_14 hn_12 e_16 c_17 e_38) (o24_20 b_13 b_14 hn_12 e_16 c_17 e_38) h (Fr.tr (Fr.tr (Fr.tr (Fr.tr hF_8 (Fr.mono u_19 (by decide))) (Fr.mono u_26 (by decide))) u_29) (Fr.mono u_35 (by decide))) (lv_sub hl [0, 1, 2] rfl)
  exact lp_9 ((900 - v_4.toInt + 1).toNat) v_4 _ _ _ _ (o24_21 e_5) (o24_22 e_5) (o24_23 e_5) h Fr.rf (lv_sub hl [0, 1, 2] rfl)
set_option maxHeartbeats 4000000 in
set_option maxRecDepth 100000 in
theorem c_X5_tooDeep_1 (l : Launch) (G : GG) (Z : RZ) (ad : Nat → Nat) (ws0 : va_W) (hT : Ty G (SC tt) ad ws0) (a1 : Int32) (l1 : 1 ≤ a1.toInt) (u1 : a1.toInt ≤ 1) : Mq l yX5_tooDeep cX5_tooDeep 2 (some .boolean) 1 G Z [.ref (ad 77), .int a1] ws0 (PI G (SC tt) ad [] ws0 (fun r u => (0 ≤ r.toInt) ∧ (r.toInt ≤ 0))) := by
  refine Mq.start (by decide) (Nat.le_of_ble_eq_true rfl) ?_
  intro p e s m below meth c A ls C0 hZ h hl
  have hl : lv_has ls 2 [(0, .ref (ad 77)), (1, .int a1)] := hl
  have h : Wt G (SC tt) ad A s s.heap [] ws0 := ⟨h, hT⟩
  obtain ⟨args, hargs⟩ : ∃ z, z = ([.ref (ad 77), .int a1] : List Value).toArray := ⟨_, rfl⟩
  rw [← hargs] at C0 ⊢
  have C0 : Cx p s m args meth c RX5 cX5_tooDeep 2 (some .boolean) := C0
  obtain ⟨Q, hQ⟩ : ∃ z, z = MQ below ((PI G (SC tt) ad [] ws0 (fun r u => (0 ≤ r.toInt) ∧ (r.toInt ≤ 0))) A) args s 0 0 A := ⟨_, rfl⟩
  rw [← hQ]
  refine lv_iload_n C0.1 C0.2.1 dX5_tooDeep_0 rfl (lv_at hl 1 rfl) ?_
  refine y_c2 (n := 6) C0 (by decide) dX5_tooDeep_1 (fun v_1 e_2 => ?_)
  refine y_icmp_lt (tgt := 13) C0 dX5_tooDeep_3 (by decide) (fun c_3 => ?_) (fun c_3 => ((o24_64 l1 u1 e_2 c_3)).elim)
  refine y_c1 (n := 0) C0 (by decide) dX5_tooDeep_13 (fun v_4 e_5 => ?_)
  rw [hQ]
  exact y_zret C0 h (o24_22 e_5) (o24_31 e_5) Fr.rf ⟨(o24_22 e_5), (o24_30 e_5)⟩ dX5_tooDeep_14
set_option maxHeartbeats 4000000 in
set_option maxRecDepth 100000 in
theorem c_X5_atom_1 (l : Launch) (G : GG) (Z : RZ) (ad : Nat → Nat) (ws0 : va_W) (hT : Ty G (SC tt) ad ws0) (a1 : Int32) (l1 : 1 ≤ a1.toInt) (u1 : a1.toInt ≤ 1) : Mq l yX5_atom cX5_atom 3 none 21 G Z [.ref (ad 77), .int a1] ws0 (PV G (SC tt) ad [2, 3, 16] ws0 (fun u => True)) := by
  refine Mq.start (by decide) (Nat.le_of_ble_eq_true rfl) ?_
  intro p e s m below meth c A ls C0 hZ h hl
  have hl : lv_has ls 3 [(0, .ref (ad 77)), (1, .int a1)] := hl
  have h : Wt G (SC tt) ad A s s.heap [] ws0 := ⟨h, hT⟩
  obtain ⟨args, hargs⟩ : ∃ z, z = ([.ref (ad 77), .int a1] : List Value).toArray := ⟨_, rfl⟩
  rw [← hargs] at C0 ⊢
  have C0 : Cx p s m args meth c RX5 cX5_atom 3 none := C0
  obtain ⟨Q, hQ⟩ : ∃ z, z = MQ below ((PV G (SC tt) ad [2, 3, 16] ws0 (fun u => True)) A) args s 0 0 A := ⟨_, rfl⟩
  rw [← hQ]
  refine lv_aload_n C0.1 C0.2.1 dX5_atom_0 rfl (lv_at hl 0 rfl) ?_
  refine tg_X5_kind C0 h kSC_77 q_374 dX5_atom_1 (fun v_1 e_2 e_3 e_4 => ?_)
  refine y_c1 (n := 2) C0 (by decide) dX5_atom_4 (fun v_5 e_6 => ?_)
  refine y_icmp_ne (tgt := 26) C0 dX5_atom_5 (by decide) (fun c_7 => ?_) (fun c_7 => ?_)
  · -- 5
    refine lv_aload_n C0.1 C0.2.1 dX5_atom_26 rfl (lv_at hl 0 rfl) ?_
    refine tg_X5_kind C0 h kSC_77 q_374 dX5_atom_27 (fun v_8 e_9 e_10 e_11 => ?_)
    have q_12 : v_8.toInt = v_1.toInt := congrArg Int32.toInt (e_9.symm.trans (Eq.trans rfl e_2))
    refine y_c2 (n := 40) C0 (by decide) dX5_atom_30 (fun v_13 e_14 => ?_)
    refine y_icmp_ne (tgt := 63) C0 dX5_atom_32 (by decide) (fun c_15 => ?_) (fun c_15 => ?_)
    · -- 32
      refine lv_aload_n C0.1 C0.2.1 dX5_atom_63 rfl (lv_at hl 0 rfl) ?_
      refine va_ldcS C0.1 C0.2.1 C0.2.2.2.1 (sr_12 hZ) dX5_atom_64 ?_
      refine y_ci h (y_rV (As := [.ref (Z.2.1 12)]) (rest := []) C0 hZ h (c_X5_isWord l G Z ad _ h.2 12 (by decide)) k_X5_isWord q_724 q_5 q_722 kSC_77 rfl rfl rfl hl.1 rfl rfl (Nat.le_of_ble_eq_true rfl) dX5_atom_66 ⟨Nat.le_of_ble_eq_true rfl, Nat.le_of_ble_eq_true rfl⟩ ⟨Nat.le_of_ble_eq_true rfl, Nat.le_of_ble_eq_true rfl⟩) (fun r_19 H locs ws_16 h u_17 p_18 => ?_)
      obtain ⟨e_20, e_21⟩ := p_18
      refine y_if_eq (tgt := 78) C0 dX5_atom_69 (by decide) (fun c_22 => ?_) (fun c_22 => ?_)
      · -- 69
        refine lv_aload_n C0.1 C0.2.1 dX5_atom_78 rfl (lv_at hl 0 rfl) ?_
        refine va_ldcS C0.1 C0.2.1 C0.2.2.2.1 (sr_13 hZ) dX5_atom_79 ?_
        refine y_ci h (y_rV (As := [.ref (Z.2.1 13)]) (rest := []) C0 hZ h (c_X5_isWord l G Z ad _ h.2 13 (by decide)) k_X5_isWord q_724 q_5 q_722 kSC_77 rfl rfl rfl hl.1 rfl rfl (Nat.le_of_ble_eq_true rfl) dX5_atom_81 ⟨Nat.le_of_ble_eq_true rfl, Nat.le_of_ble_eq_true rfl⟩ ⟨Nat.le_of_ble_eq_true rfl, Nat.le_of_ble_eq_true rfl⟩) (fun r_26 H locs ws_23 h u_24 p_25 => ?_)
        obtain ⟨e_27, e_28⟩ := p_25
        refine y_if_eq (tgt := 93) C0 dX5_atom_84 (by decide) (fun c_29 => ?_) (fun c_29 => ?_)
        · -- 84
          refine lv_aload_n C0.1 C0.2.1 dX5_atom_93 rfl (lv_at hl 0 rfl) ?_
          refine va_ldcS C0.1 C0.2.1 C0.2.2.2.1 (sr_14 hZ) dX5_atom_94 ?_
          refine y_ci h (y_rV (As := [.ref (Z.2.1 14)]) (rest := []) C0 hZ h (c_X5_isWord l G Z ad _ h.2 14 (by decide)) k_X5_isWord q_724 q_5 q_722 kSC_77 rfl rfl rfl hl.1 rfl rfl (Nat.le_of_ble_eq_true rfl) dX5_atom_96 ⟨Nat.le_of_ble_eq_true rfl, Nat.le_of_ble_eq_true rfl⟩ ⟨Nat.le_of_ble_eq_true rfl, Nat.le_of_ble_eq_true rfl⟩) (fun r_33 H locs ws_30 h u_31 p_32 => ?_)
          obtain ⟨e_34, e_35⟩ := p_32
          refine y_if_eq (tgt := 108) C0 dX5_atom_99 (by decide) (fun c_36 => ?_) (fun c_36 => ?_)
          · -- 99
            refine lv_aload_n C0.1 C0.2.1 dX5_atom_108 rfl (lv_at hl 0 rfl) ?_
            refine va_ldcS C0.1 C0.2.1 C0.2.2.2.1 (sr_15 hZ) dX5_atom_109 ?_
            refine y_ci h (y_rV (As := [.ref (Z.2.1 15)]) (rest := []) C0 hZ h (c_X5_isWord l G Z ad _ h.2 15 (by decide)) k_X5_isWord q_724 q_5 q_722 kSC_77 rfl rfl rfl hl.1 rfl rfl (Nat.le_of_ble_eq_true rfl) dX5_atom_111 ⟨Nat.le_of_ble_eq_true rfl, Nat.le_of_ble_eq_true rfl⟩ ⟨Nat.le_of_ble_eq_true rfl, Nat.le_of_ble_eq_true rfl⟩) (fun r_40 H locs ws_37 h u_38 p_39 => ?_)
            obtain ⟨e_41, e_42⟩ := p_39
            refine y_if_eq (tgt := 123) C0 dX5_atom_114 (by decide) (fun c_43 => ?_) (fun c_43 => ?_)
            · -- 114
              refine lv_aload_n C0.1 C0.2.1 dX5_atom_123 rfl (lv_at hl 0 rfl) ?_
              refine va_ldcS C0.1 C0.2.1 C0.2.2.2.1 (sr_16 hZ) dX5_atom_124 ?_
              refine y_ci h (y_rV (As := [.ref (Z.2.1 16)]) (rest := []) C0 hZ h (c_X5_isWord l G Z ad _ h.2 16 (by decide)) k_X5_isWord q_724 q_5 q_722 kSC_77 rfl rfl rfl hl.1 rfl rfl (Nat.le_of_ble_eq_true rfl) dX5_atom_126 ⟨Nat.le_of_ble_eq_true rfl, Nat.le_of_ble_eq_true rfl⟩ ⟨Nat.le_of_ble_eq_true rfl, Nat.le_of_ble_eq_true rfl⟩) (fun r_47 H locs ws_44 h u_45 p_46 => ?_)
              obtain ⟨e_48, e_49⟩ := p_46
              refine y_if_eq (tgt := 138) C0 dX5_atom_129 (by decide) (fun c_50 => ?_) (fun c_50 => ?_)
              · -- 129
                refine lv_aload_n C0.1 C0.2.1 dX5_atom_138 rfl (lv_at hl 0 rfl) ?_
                refine va_ldcS C0.1 C0.2.1 C0.2.2.2.1 (sr_17 hZ) dX5_atom_139 ?_
                refine y_ci h (y_rV (As := [.ref (Z.2.1 17)]) (rest := []) C0 hZ h (c_X5_isWord l G Z ad _ h.2 17 (by decide)) k_X5_isWord q_724 q_5 q_722 kSC_77 rfl rfl rfl hl.1 rfl rfl (Nat.le_of_ble_eq_true rfl) dX5_atom_141 ⟨Nat.le_of_ble_eq_true rfl, Nat.le_of_ble_eq_true rfl⟩ ⟨Nat.le_of_ble_eq_true rfl, Nat.le_of_ble_eq_true rfl⟩) (fun r_54 H locs ws_51 h u_52 p_53 => ?_)
                obtain ⟨e_55, e_56⟩ := p_53
                refine y_if_eq (tgt := 153) C0 dX5_atom_144 (by decide) (fun c_57 => ?_) (fun c_57 => ?_)
                · -- 144
                  refine y_c1 (n := (-1)) C0 (by decide) dX5_atom_153 (fun v_58 e_59 => ?_)
                  refine lv_istore_n (lv' := [(2, .int v_58), (0, .ref (ad 77)), (1, .int a1)]) C0.1 C0.2.1 dX5_atom_154 rfl hl (by decide) rfl (fun ls hl => ?_)
                  refine lv_iload_n C0.1 C0.2.1 dX5_atom_155 rfl (lv_at hl 0 rfl) ?_
                  refine y_if_ge (tgt := 165) C0 dX5_atom_156 (by decide) (fun c_60 => ((o24_5 e_59 c_60)).elim) (fun c_60 => ?_)
                  refine lv_aload_n C0.1 C0.2.1 dX5_atom_159 rfl (lv_at hl 1 rfl) ?_
                  refine y_c1 (n := 2) C0 (by decide) dX5_atom_160 (fun v_61 e_62 => ?_)
                  refine y_cv h (y_rV (As := [.int v_61]) (rest := []) C0 hZ h (c_X5_fail l G Z ad _ h.2 v_61) k_X5_fail q_628 q_3 q_626 kSC_77 rfl rfl rfl hl.1 rfl rfl (Nat.le_of_ble_eq_true rfl) dX5_atom_161 ⟨Nat.le_of_ble_eq_true rfl, Nat.le_of_ble_eq_true rfl⟩ ⟨Nat.le_of_ble_eq_true rfl, Nat.le_of_ble_eq_true rfl⟩) (fun H locs ws_63 h u_64 p_65 => ?_)
                  rw [hQ]
                  exact y_vret C0 h (Fr.tr (Fr.tr (Fr.tr (Fr.tr (Fr.tr (Fr.tr (Fr.mono u_17 (by decide)) (Fr.mono u_24 (by decide))) (Fr.mono u_31 (by decide))) (Fr.mono u_38 (by decide))) (Fr.mono u_45 (by decide))) (Fr.mono u_52 (by decide))) (Fr.mono u_64 (by decide))) trivial dX5_atom_164
                · -- 144
                  refine y_c3 (n := 1005) C0 (by decide) dX5_atom_147 (fun v_66 e_67 => ?_)
                  refine lv_goto (tgt := 154) C0.1 C0.2.1 dX5_atom_150 (by decide) ?_
                  refine lv_istore_n (lv' := [(2, .int v_66), (0, .ref (ad 77)), (1, .int a1)]) C0.1 C0.2.1 dX5_atom_154 rfl hl (by decide) rfl (fun ls hl => ?_)
                  refine lv_iload_n C0.1 C0.2.1 dX5_atom_155 rfl (lv_at hl 0 rfl) ?_
                  refine y_if_ge (tgt := 165) C0 dX5_atom_156 (by decide) (fun c_68 => ?_) (fun c_68 => ((o24_6 e_67 c_68)).elim)
                  refine lv_aload_n C0.1 C0.2.1 dX5_atom_165 rfl (lv_at hl 1 rfl) ?_
                  refine tg_X5_law C0 h kSC_77 q_380 dX5_atom_166 (fun i_69 hi_69 => ?_)
                  refine lv_iload_n C0.1 C0.2.1 dX5_atom_169 rfl (lv_at hl 0 rfl) ?_
                  refine y_cv h (y_rV (As := [.int v_66]) (rest := []) C0 hZ h (c_X4_add l G Z ad _ h.2 i_69 hi_69 v_66) k_X4_add q_827 q_828 q_826 hi_69 rfl rfl rfl hl.1 rfl rfl (Nat.le_of_ble_eq_true rfl) dX5_atom_170 ⟨Nat.le_of_ble_eq_true rfl, Nat.le_of_ble_eq_true rfl⟩ ⟨Nat.le_of_ble_eq_true rfl, Nat.le_of_ble_eq_true rfl⟩) (fun H locs ws_70 h u_71 p_72 => ?_)
                  refine lv_aload_n C0.1 C0.2.1 dX5_atom_173 rfl (lv_at hl 1 rfl) ?_
                  refine y_cv h (y_rV (As := []) (rest := []) C0 hZ h (c_X5_advance l G Z ad _ h.2) k_X5_advance q_616 q_0 q_614 kSC_77 rfl rfl rfl hl.1 rfl rfl (Nat.le_of_ble_eq_true rfl) dX5_atom_174 ⟨Nat.le_of_ble_eq_true rfl, Nat.le_of_ble_eq_true rfl⟩ ⟨Nat.le_of_ble_eq_true rfl, Nat.le_of_ble_eq_true rfl⟩) (fun H locs ws_73 h u_74 p_75 => ?_)
                  rw [hQ]
                  exact y_vret C0 h (Fr.tr (Fr.tr (Fr.tr (Fr.tr (Fr.tr (Fr.tr (Fr.tr (Fr.mono u_17 (by decide)) (Fr.mono u_24 (by decide))) (Fr.mono u_31 (by decide))) (Fr.mono u_38 (by decide))) (Fr.mono u_45 (by decide))) (Fr.mono u_52 (by decide))) (Fr.mono u_71 (by decide))) (Fr.mono u_74 (by decide))) trivial dX5_atom_177
              · -- 129
                refine y_c3 (n := 1004) C0 (by decide) dX5_atom_132 (fun v_76 e_77 => ?_)
                refine lv_goto (tgt := 154) C0.1 C0.2.1 dX5_atom_135 (by decide) ?_
                refine lv_istore_n (lv' := [(2, .int v_76), (0, .ref (ad 77)), (1, .int a1)]) C0.1 C0.2.1 dX5_atom_154 rfl hl (by decide) rfl (fun ls hl => ?_)
                refine lv_iload_n C0.1 C0.2.1 dX5_atom_155 rfl (lv_at hl 0 rfl) ?_
                refine y_if_ge (tgt := 165) C0 dX5_atom_156 (by decide) (fun c_78 => ?_) (fun c_78 => ((o24_7 e_77 c_78)).elim)
                refine lv_aload_n C0.1 C0.2.1 dX5_atom_165 rfl (lv_at hl 1 rfl) ?_
                refine tg_X5_law C0 h kSC_77 q_380 dX5_atom_166 (fun i_79 hi_79 => ?_)
                refine lv_iload_n C0.1 C0.2.1 dX5_atom_169 rfl (lv_at hl 0 rfl) ?_
                refine y_cv h (y_rV (As := [.int v_76]) (rest := []) C0 hZ h (c_X4_add l G Z ad _ h.2 i_79 hi_79 v_76) k_X4_add q_827 q_828 q_826 hi_79 rfl rfl rfl hl.1 rfl rfl (Nat.le_of_ble_eq_true rfl) dX5_atom_170 ⟨Nat.le_of_ble_eq_true rfl, Nat.le_of_ble_eq_true rfl⟩ ⟨Nat.le_of_ble_eq_true rfl, Nat.le_of_ble_eq_true rfl⟩) (fun H locs ws_80 h u_81 p_82 => ?_)
                refine lv_aload_n C0.1 C0.2.1 dX5_atom_173 rfl (lv_at hl 1 rfl) ?_
                refine y_cv h (y_rV (As := []) (rest := []) C0 hZ h (c_X5_advance l G Z ad _ h.2) k_X5_advance q_616 q_0 q_614 kSC_77 rfl rfl rfl hl.1 rfl rfl (Nat.le_of_ble_eq_true rfl) dX5_atom_174 ⟨Nat.le_of_ble_eq_true rfl, Nat.le_of_ble_eq_true rfl⟩ ⟨Nat.le_of_ble_eq_true rfl, Nat.le_of_ble_eq_true rfl⟩) (fun H locs ws_83 h u_84 p_85 => ?_)
                rw [hQ]
                exact y_vret C0 h (Fr.tr (Fr.tr (Fr.tr (Fr.tr (Fr.tr (Fr.tr (Fr.mono u_17 (by decide)) (Fr.mono u_24 (by decide))) (Fr.mono u_31 (by decide))) (Fr.mono u_38 (by decide))) (Fr.mono u_45 (by decide))) (Fr.mono u_81 (by decide))) (Fr.mono u_84 (by decide))) trivial dX5_atom_177
            · -- 114
              refine y_c3 (n := 1003) C0 (by decide) dX5_atom_117 (fun v_86 e_87 => ?_)
              refine lv_goto (tgt := 154) C0.1 C0.2.1 dX5_atom_120 (by decide) ?_
              refine lv_istore_n (lv' := [(2, .int v_86), (0, .ref (ad 77)), (1, .int a1)]) C0.1 C0.2.1 dX5_atom_154 rfl hl (by decide) rfl (fun ls hl => ?_)
              refine lv_iload_n C0.1 C0.2.1 dX5_atom_155 rfl (lv_at hl 0 rfl) ?_
              refine y_if_ge (tgt := 165) C0 dX5_atom_156 (by decide) (fun c_88 => ?_) (fun c_88 => ((o24_8 e_87 c_88)).elim)
              refine lv_aload_n C0.1 C0.2.1 dX5_atom_165 rfl (lv_at hl 1 rfl) ?_
              refine tg_X5_law C0 h kSC_77 q_380 dX5_atom_166 (fun i_89 hi_89 => ?_)
              refine lv_iload_n C0.1 C0.2.1 dX5_atom_169 rfl (lv_at hl 0 rfl) ?_
              refine y_cv h (y_rV (As := [.int v_86]) (rest := []) C0 hZ h (c_X4_add l G Z ad _ h.2 i_89 hi_89 v_86) k_X4_add q_827 q_828 q_826 hi_89 rfl rfl rfl hl.1 rfl rfl (Nat.le_of_ble_eq_true rfl) dX5_atom_170 ⟨Nat.le_of_ble_eq_true rfl, Nat.le_of_ble_eq_true rfl⟩ ⟨Nat.le_of_ble_eq_true rfl, Nat.le_of_ble_eq_true rfl⟩) (fun H locs ws_90 h u_91 p_92 => ?_)
              refine lv_aload_n C0.1 C0.2.1 dX5_atom_173 rfl (lv_at hl 1 rfl) ?_
              refine y_cv h (y_rV (As := []) (rest := []) C0 hZ h (c_X5_advance l G Z ad _ h.2) k_X5_advance q_616 q_0 q_614 kSC_77 rfl rfl rfl hl.1 rfl rfl (Nat.le_of_ble_eq_true rfl) dX5_atom_174 ⟨Nat.le_of_ble_eq_true rfl, Nat.le_of_ble_eq_true rfl⟩ ⟨Nat.le_of_ble_eq_true rfl, Nat.le_of_ble_eq_true rfl⟩) (fun H locs ws_93 h u_94 p_95 => ?_)
              rw [hQ]
              exact y_vret C0 h (Fr.tr (Fr.tr (Fr.tr (Fr.tr (Fr.tr (Fr.mono u_17 (by decide)) (Fr.mono u_24 (by decide))) (Fr.mono u_31 (by decide))) (Fr.mono u_38 (by decide))) (Fr.mono u_91 (by decide))) (Fr.mono u_94 (by decide))) trivial dX5_atom_177
          · -- 99
            refine y_c3 (n := 1002) C0 (by decide) dX5_atom_102 (fun v_96 e_97 => ?_)
            refine lv_goto (tgt := 154) C0.1 C0.2.1 dX5_atom_105 (by decide) ?_
            refine lv_istore_n (lv' := [(2, .int v_96), (0, .ref (ad 77)), (1, .int a1)]) C0.1 C0.2.1 dX5_atom_154 rfl hl (by decide) rfl (fun ls hl => ?_)
            refine lv_iload_n C0.1 C0.2.1 dX5_atom_155 rfl (lv_at hl 0 rfl) ?_
            refine y_if_ge (tgt := 165) C0 dX5_atom_156 (by decide) (fun c_98 => ?_) (fun c_98 => ((o24_9 e_97 c_98)).elim)
            refine lv_aload_n C0.1 C0.2.1 dX5_atom_165 rfl (lv_at hl 1 rfl) ?_
            refine tg_X5_law C0 h kSC_77 q_380 dX5_atom_166 (fun i_99 hi_99 => ?_)
            refine lv_iload_n C0.1 C0.2.1 dX5_atom_169 rfl (lv_at hl 0 rfl) ?_
            refine y_cv h (y_rV (As := [.int v_96]) (rest := []) C0 hZ h (c_X4_add l G Z ad _ h.2 i_99 hi_99 v_96) k_X4_add q_827 q_828 q_826 hi_99 rfl rfl rfl hl.1 rfl rfl (Nat.le_of_ble_eq_true rfl) dX5_atom_170 ⟨Nat.le_of_ble_eq_true rfl, Nat.le_of_ble_eq_true rfl⟩ ⟨Nat.le_of_ble_eq_true rfl, Nat.le_of_ble_eq_true rfl⟩) (fun H locs ws_100 h u_101 p_102 => ?_)
            refine lv_aload_n C0.1 C0.2.1 dX5_atom_173 rfl (lv_at hl 1 rfl) ?_
            refine y_cv h (y_rV (As := []) (rest := []) C0 hZ h (c_X5_advance l G Z ad _ h.2) k_X5_advance q_616 q_0 q_614 kSC_77 rfl rfl rfl hl.1 rfl rfl (Nat.le_of_ble_eq_true rfl) dX5_atom_174 ⟨Nat.le_of_ble_eq_true rfl, Nat.le_of_ble_eq_true rfl⟩ ⟨Nat.le_of_ble_eq_true rfl, Nat.le_of_ble_eq_true rfl⟩) (fun H locs ws_103 h u_104 p_105 => ?_)
            rw [hQ]
            exact y_vret C0 h (Fr.tr (Fr.tr (Fr.tr (Fr.tr (Fr.mono u_17 (by decide)) (Fr.mono u_24 (by decide))) (Fr.mono u_31 (by decide))) (Fr.mono u_101 (by decide))) (Fr.mono u_104 (by decide))) trivial dX5_atom_177
        · -- 84
          refine y_c3 (n := 1001) C0 (by decide) dX5_atom_87 (fun v_106 e_107 => ?_)
          refine lv_goto (tgt := 154) C0.1 C0.2.1 dX5_atom_90 (by decide) ?_
          refine lv_istore_n (lv' := [(2, .int v_106), (0, .ref (ad 77)), (1, .int a1)]) C0.1 C0.2.1 dX5_atom_154 rfl hl (by decide) rfl (fun ls hl => ?_)
          refine lv_iload_n C0.1 C0.2.1 dX5_atom_155 rfl (lv_at hl 0 rfl) ?_
          refine y_if_ge (tgt := 165) C0 dX5_atom_156 (by decide) (fun c_108 => ?_) (fun c_108 => ((o24_10 e_107 c_108)).elim)
          refine lv_aload_n C0.1 C0.2.1 dX5_atom_165 rfl (lv_at hl 1 rfl) ?_
          refine tg_X5_law C0 h kSC_77 q_380 dX5_atom_166 (fun i_109 hi_109 => ?_)
          refine lv_iload_n C0.1 C0.2.1 dX5_atom_169 rfl (lv_at hl 0 rfl) ?_
          refine y_cv h (y_rV (As := [.int v_106]) (rest := []) C0 hZ h (c_X4_add l G Z ad _ h.2 i_109 hi_109 v_106) k_X4_add q_827 q_828 q_826 hi_109 rfl rfl rfl hl.1 rfl rfl (Nat.le_of_ble_eq_true rfl) dX5_atom_170 ⟨Nat.le_of_ble_eq_true rfl, Nat.le_of_ble_eq_true rfl⟩ ⟨Nat.le_of_ble_eq_true rfl, Nat.le_of_ble_eq_true rfl⟩) (fun H locs ws_110 h u_111 p_112 => ?_)
          refine lv_aload_n C0.1 C0.2.1 dX5_atom_173 rfl (lv_at hl 1 rfl) ?_
          refine y_cv h (y_rV (As := []) (rest := []) C0 hZ h (c_X5_advance l G Z ad _ h.2) k_X5_advance q_616 q_0 q_614 kSC_77 rfl rfl rfl hl.1 rfl rfl (Nat.le_of_ble_eq_true rfl) dX5_atom_174 ⟨Nat.le_of_ble_eq_true rfl, Nat.le_of_ble_eq_true rfl⟩ ⟨Nat.le_of_ble_eq_true rfl, Nat.le_of_ble_eq_true rfl⟩) (fun H locs ws_113 h u_114 p_115 => ?_)
          rw [hQ]
          exact y_vret C0 h (Fr.tr (Fr.tr (Fr.tr (Fr.mono u_17 (by decide)) (Fr.mono u_24 (by decide))) (Fr.mono u_111 (by decide))) (Fr.mono u_114 (by decide))) trivial dX5_atom_177
      · -- 69
        refine y_c3 (n := 1000) C0 (by decide) dX5_atom_72 (fun v_116 e_117 => ?_)
        refine lv_goto (tgt := 154) C0.1 C0.2.1 dX5_atom_75 (by decide) ?_
        refine lv_istore_n (lv' := [(2, .int v_116), (0, .ref (ad 77)), (1, .int a1)]) C0.1 C0.2.1 dX5_atom_154 rfl hl (by decide) rfl (fun ls hl => ?_)
        refine lv_iload_n C0.1 C0.2.1 dX5_atom_155 rfl (lv_at hl 0 rfl) ?_
        refine y_if_ge (tgt := 165) C0 dX5_atom_156 (by decide) (fun c_118 => ?_) (fun c_118 => ((o24_11 e_117 c_118)).elim)
        refine lv_aload_n C0.1 C0.2.1 dX5_atom_165 rfl (lv_at hl 1 rfl) ?_
        refine tg_X5_law C0 h kSC_77 q_380 dX5_atom_166 (fun i_119 hi_119 => ?_)
        refine lv_iload_n C0.1 C0.2.1 dX5_atom_169 rfl (lv_at hl 0 rfl) ?_
        refine y_cv h (y_rV (As := [.int v_116]) (rest := []) C0 hZ h (c_X4_add l G Z ad _ h.2 i_119 hi_119 v_116) k_X4_add q_827 q_828 q_826 hi_119 rfl rfl rfl hl.1 rfl rfl (Nat.le_of_ble_eq_true rfl) dX5_atom_170 ⟨Nat.le_of_ble_eq_true rfl, Nat.le_of_ble_eq_true rfl⟩ ⟨Nat.le_of_ble_eq_true rfl, Nat.le_of_ble_eq_true rfl⟩) (fun H locs ws_120 h u_121 p_122 => ?_)
        refine lv_aload_n C0.1 C0.2.1 dX5_atom_173 rfl (lv_at hl 1 rfl) ?_
        refine y_cv h (y_rV (As := []) (rest := []) C0 hZ h (c_X5_advance l G Z ad _ h.2) k_X5_advance q_616 q_0 q_614 kSC_77 rfl rfl rfl hl.1 rfl rfl (Nat.le_of_ble_eq_true rfl) dX5_atom_174 ⟨Nat.le_of_ble_eq_true rfl, Nat.le_of_ble_eq_true rfl⟩ ⟨Nat.le_of_ble_eq_true rfl, Nat.le_of_ble_eq_true rfl⟩) (fun H locs ws_123 h u_124 p_125 => ?_)
        rw [hQ]
        exact y_vret C0 h (Fr.tr (Fr.tr (Fr.mono u_17 (by decide)) (Fr.mono u_121 (by decide))) (Fr.mono u_124 (by decide))) trivial dX5_atom_177
    · -- 32
      refine lv_aload_n C0.1 C0.2.1 dX5_atom_35 rfl (lv_at hl 0 rfl) ?_
      refine lv_iload_n C0.1 C0.2.1 dX5_atom_36 rfl (lv_at hl 1 rfl) ?_
      refine y_ci h (y_rV (As := [.int a1]) (rest := []) C0 hZ h (c_X5_tooDeep_1 l G Z ad _ h.2 a1 (o24_65 l1 u1) (o24_66 l1 u1)) k_X5_tooDeep q_832 q_18 q_830 kSC_77 rfl rfl rfl hl.1 rfl rfl (Nat.le_of_ble_eq_true rfl) dX5_atom_37 ⟨Nat.le_of_ble_eq_true rfl, Nat.le_of_ble_eq_true rfl⟩ ⟨Nat.le_of_ble_eq_true rfl, Nat.le_of_ble_eq_true rfl⟩) (fun r_129 H locs ws_126 h u_127 p_128 => ?_)
      obtain ⟨e_130, e_131⟩ := p_128
      refine y_if_ne (tgt := 177) C0 dX5_atom_40 (by decide) (fun c_132 => ((o24_34 e_130 e_131 c_132)).elim) (fun c_132 => ?_)
      refine lv_aload_n C0.1 C0.2.1 dX5_atom_43 rfl (lv_at hl 0 rfl) ?_
      refine y_cv h (y_rV (As := []) (rest := []) C0 hZ h (c_X5_advance l G Z ad _ h.2) k_X5_advance q_616 q_0 q_614 kSC_77 rfl rfl rfl hl.1 rfl rfl (Nat.le_of_ble_eq_true rfl) dX5_atom_44 ⟨Nat.le_of_ble_eq_true rfl, Nat.le_of_ble_eq_true rfl⟩ ⟨Nat.le_of_ble_eq_true rfl, Nat.le_of_ble_eq_true rfl⟩) (fun H locs ws_133 h u_134 p_135 => ?_)
      refine lv_aload_n C0.1 C0.2.1 dX5_atom_47 rfl (lv_at hl 0 rfl) ?_
      refine lv_iload_n C0.1 C0.2.1 dX5_atom_48 rfl (lv_at hl 1 rfl) ?_
      refine y_c1 (n := 1) C0 (by decide) dX5_atom_49 (fun v_136 e_137 => ?_)
      refine y_add C0 (o24_67 l1 u1 e_137 (le_min a1) (le_max a1) (le_min v_136) (le_max v_136)) (o24_68 l1 u1 e_137 (le_min a1) (le_max a1) (le_min v_136) (le_max v_136)) dX5_atom_50 (fun v_138 e_139 => ?_)
      refine y_cv h (y_rV (As := [.int v_138]) (rest := []) C0 hZ h (c_X5_sum_2 l G Z ad _ h.2 v_138 (o24_69 l1 u1 e_137 e_139) (o24_70 l1 u1 e_137 e_139)) k_X5_sum q_816 q_15 q_814 kSC_77 rfl rfl rfl hl.1 rfl rfl (Nat.le_of_ble_eq_true rfl) dX5_atom_51 ⟨Nat.le_of_ble_eq_true rfl, Nat.le_of_ble_eq_true rfl⟩ ⟨Nat.le_of_ble_eq_true rfl, Nat.le_of_ble_eq_true rfl⟩) (fun H locs ws_140 h u_141 p_142 => ?_)
      refine lv_aload_n C0.1 C0.2.1 dX5_atom_54 rfl (lv_at hl 0 rfl) ?_
      refine y_c2 (n := 41) C0 (by decide) dX5_atom_55 (fun v_143 e_144 => ?_)
      refine y_cv h (y_rV (As := [.int v_143]) (rest := []) C0 hZ h (c_X5_sign l G Z ad _ h.2 v_143 (o24_39 e_144) (o24_40 e_144)) k_X5_sign q_812 q_14 q_810 kSC_77 rfl rfl rfl hl.1 rfl rfl (Nat.le_of_ble_eq_true rfl) dX5_atom_57 ⟨Nat.le_of_ble_eq_true rfl, Nat.le_of_ble_eq_true rfl⟩ ⟨Nat.le_of_ble_eq_true rfl, Nat.le_of_ble_eq_true rfl⟩) (fun H locs ws_145 h u_146 p_147 => ?_)
      refine lv_goto (tgt := 177) C0.1 C0.2.1 dX5_atom_60 (by decide) ?_
      rw [hQ]
      exact y_vret C0 h (Fr.tr (Fr.tr (Fr.tr (Fr.mono u_127 (by decide)) (Fr.mono u_134 (by decide))) u_141) (Fr.mono u_146 (by decide))) trivial dX5_atom_177
  · -- 5
    refine lv_aload_n C0.1 C0.2.1 dX5_atom_8 rfl (lv_at hl 0 rfl) ?_
    refine tg_X5_law C0 h kSC_77 q_380 dX5_atom_9 (fun i_148 hi_148 => ?_)
    refine lv_aload_n C0.1 C0.2.1 dX5_atom_12 rfl (lv_at hl 0 rfl) ?_
    refine tg_X5_number C0 h kSC_77 q_377 dX5_atom_13 (fun v_149 e_150 e_151 e_152 => ?_)
    refine y_cv h (y_rV (As := [.int v_149]) (rest := []) C0 hZ h (c_X4_add l G Z ad _ h.2 i_148 hi_148 v_149) k_X4_add q_827 q_828 q_826 hi_148 rfl rfl rfl hl.1 rfl rfl (Nat.le_of_ble_eq_true rfl) dX5_atom_16 ⟨Nat.le_of_ble_eq_true rfl, Nat.le_of_ble_eq_true rfl⟩ ⟨Nat.le_of_ble_eq_true rfl, Nat.le_of_ble_eq_true rfl⟩) (fun H locs ws_153 h u_154 p_155 => ?_)
    refine lv_aload_n C0.1 C0.2.1 dX5_atom_19 rfl (lv_at hl 0 rfl) ?_
    refine y_cv h (y_rV (As := []) (rest := []) C0 hZ h (c_X5_advance l G Z ad _ h.2) k_X5_advance q_616 q_0 q_614 kSC_77 rfl rfl rfl hl.1 rfl rfl (Nat.le_of_ble_eq_true rfl) dX5_atom_20 ⟨Nat.le_of_ble_eq_true rfl, Nat.le_of_ble_eq_true rfl⟩ ⟨Nat.le_of_ble_eq_true rfl, Nat.le_of_ble_eq_true rfl⟩) (fun H locs ws_156 h u_157 p_158 => ?_)
    refine lv_goto (tgt := 177) C0.1 C0.2.1 dX5_atom_23 (by decide) ?_
    rw [hQ]
    exact y_vret C0 h (Fr.tr (Fr.mono u_154 (by decide)) (Fr.mono u_157 (by decide))) trivial dX5_atom_177
set_option maxHeartbeats 4000000 in
set_option maxRecDepth 100000 in
theorem c_X5_term_1 (l : Launch) (G : GG) (Z : RZ) (ad : Nat → Nat) (ws0 : va_W) (hT : Ty G (SC tt) ad ws0) (a1 : Int32) (l1 : 1 ≤ a1.toInt) (u1 : a1.toInt ≤ 1) : Mq l yX5_term cX5_term 3 none 22 G Z [.ref (ad 77), .int a1] ws0 (PV G (SC tt) ad [2, 3, 16] ws0 (fun u => True)) := by
  refine Mq.start (by decide) (Nat.le_of_ble_eq_true rfl) ?_
  intro p e s m below meth c A ls C0 hZ h hl
  have hl : lv_has ls 3 [(0, .ref (ad 77)), (1, .int a1)] := hl
  have h : Wt G (SC tt) ad A s s.heap [] ws0 := ⟨h, hT⟩
  obtain ⟨args, hargs⟩ : ∃ z, z = ([.ref (ad 77), .int a1] : List Value).toArray := ⟨_, rfl⟩
  rw [← hargs] at C0 ⊢
  have C0 : Cx p s m args meth c RX5 cX5_term 3 none := C0
  obtain ⟨Q, hQ⟩ : ∃ z, z = MQ below ((PV G (SC tt) ad [2, 3, 16] ws0 (fun u => True)) A) args s 0 0 A := ⟨_, rfl⟩
  rw [← hQ]
  refine lv_aload_n C0.1 C0.2.1 dX5_term_0 rfl (lv_at hl 0 rfl) ?_
  refine lv_iload_n C0.1 C0.2.1 dX5_term_1 rfl (lv_at hl 1 rfl) ?_
  refine y_cv h (y_rV (As := [.int a1]) (rest := []) C0 hZ h (c_X5_atom_1 l G Z ad _ h.2 a1 (o24_65 l1 u1) (o24_66 l1 u1)) k_X5_atom q_824 q_17 q_822 kSC_77 rfl rfl rfl hl.1 rfl rfl (Nat.le_of_ble_eq_true rfl) dX5_term_2 ⟨Nat.le_of_ble_eq_true rfl, Nat.le_of_ble_eq_true rfl⟩ ⟨Nat.le_of_ble_eq_true rfl, Nat.le_of_ble_eq_true rfl⟩) (fun H locs ws_1 h u_2 p_3 => ?_)
  refine y_c1 (n := 0) C0 (by decide) dX5_term_5 (fun v_4 e_5 => ?_)
  refine lv_istore_n (lv' := [(2, .int v_4), (0, .ref (ad 77)), (1, .int a1)]) C0.1 C0.2.1 dX5_term_6 rfl hl (by decide) rfl (fun ls hl => ?_)
  have lp_9 : ∀ (n_11 : Nat) (x2_6 : Int32) (H : Heap) (locs : List Loc) (ls : Array Slot) (ws_7 : va_W), 900 - x2_6.toInt < (n_11 : Int) → 0 ≤ x2_6.toInt → x2_6.toInt ≤ 900 → Wt G (SC tt) ad A s H locs ws_7 → Fr (SC tt) [2, 3, 16] ws_1 ws_7 → lv_has ls 3 [(2, .int x2_6), (0, .ref (ad 77)), (1, .int a1)] → W p l e (rmd 22 0 0) s m args below meth c H locs 0 0 Q (F0 m 7 ls []) := by
    intro n_11
    induction n_11 with
    | zero => intro x2_6 H locs ls ws_7 hn_12 b_13 b_14 h hF_8 hl; exact ((o24_15 b_13 b_14 hn_12)).elim
    | succ n_11 ih_10 =>
      intro x2_6 H locs ls ws_7 hn_12 b_13 b_14 h hF_8 hl
      refine lv_iload_n C0.1 C0.2.1 dX5_term_7 rfl (lv_at hl 0 rfl) ?_
      refine y_c3 (n := 900) C0 (by decide) dX5_term_8 (fun v_15 e_16 => ?_)
      refine y_icmp_ge (tgt := 48) C0 dX5_term_11 (by decide) (fun c_17 => ?_) (fun c_17 => ?_)
      · -- 11
        rw [hQ]
        exact y_vret C0 h (Fr.tr u_2 hF_8) trivial dX5_term_48
      · -- 11
        refine lv_aload_n C0.1 C0.2.1 dX5_term_14 rfl (lv_at hl 1 rfl) ?_
        refine tg_X5_kind C0 h kSC_77 q_374 dX5_term_15 (fun v_18 e_19 e_20 e_21 => ?_)
        refine y_c2 (n := 42) C0 (by decide) dX5_term_18 (fun v_22 e_23 => ?_)
        refine y_icmp_ne (tgt := 48) C0 dX5_term_20 (by decide) (fun c_24 => ?_) (fun c_24 => ?_)
        · -- 20
          rw [hQ]
          exact y_vret C0 h (Fr.tr u_2 hF_8) trivial dX5_term_48
        · -- 20
          refine lv_aload_n C0.1 C0.2.1 dX5_term_23 rfl (lv_at hl 1 rfl) ?_
          refine y_cv h (y_rV (As := []) (rest := []) C0 hZ h (c_X5_advance l G Z ad _ h.2) k_X5_advance q_616 q_0 q_614 kSC_77 rfl rfl rfl hl.1 rfl rfl (Nat.le_of_ble_eq_true rfl) dX5_term_24 ⟨Nat.le_of_ble_eq_true rfl, Nat.le_of_ble_eq_true rfl⟩ ⟨Nat.le_of_ble_eq_true rfl, Nat.le_of_ble_eq_true rfl⟩) (fun H locs ws_25 h u_26 p_27 => ?_)
          refine lv_aload_n C0.1 C0.2.1 dX5_term_27 rfl (lv_at hl 1 rfl) ?_
          refine lv_iload_n C0.1 C0.2.1 dX5_term_28 rfl (lv_at hl 2 rfl) ?_
          refine y_cv h (y_rV (As := [.int a1]) (rest := []) C0 hZ h (c_X5_atom_1 l G Z ad _ h.2 a1 (o24_65 l1 u1) (o24_66 l1 u1)) k_X5_atom q_824 q_17 q_822 kSC_77 rfl rfl rfl hl.1 rfl rfl (Nat.le_of_ble_eq_true rfl) dX5_term_29 ⟨Nat.le_of_ble_eq_true rfl, Nat.le_of_ble_eq_true rfl⟩ ⟨Nat.le_of_ble_eq_true rfl, Nat.le_of_ble_eq_true rfl⟩) (fun H locs ws_28 h u_29 p_30 => ?_)
          refine lv_aload_n C0.1 C0.2.1 dX5_term_32 rfl (lv_at hl 1 rfl) ?_
          refine tg_X5_law C0 h kSC_77 q_380 dX5_term_33 (fun i_31 hi_31 => ?_)
          refine y_c3 (n := 2002) C0 (by decide) dX5_term_36 (fun v_32 e_33 => ?_)
          refine y_cv h (y_rV (As := [.int v_32]) (rest := []) C0 hZ h (c_X4_add l G Z ad _ h.2 i_31 hi_31 v_32) k_X4_add q_827 q_828 q_826 hi_31 rfl rfl rfl hl.1 rfl rfl (Nat.le_of_ble_eq_true rfl) dX5_term_39 ⟨Nat.le_of_ble_eq_true rfl, Nat.le_of_ble_eq_true rfl⟩ ⟨Nat.le_of_ble_eq_true rfl, Nat.le_of_ble_eq_true rfl⟩) (fun H locs ws_34 h u_35 p_36 => ?_)
          refine y_inc (kp := 0) (n := 1) (fun v_37 => [(2, .int v_37), (0, .ref (ad 77)), (1, .int a1)]) C0 hl rfl (by decide) (by decide) (fun _ => rfl) (o24_16 b_13 b_14 hn_12 e_16 c_17 (le_min x2_6) (le_max x2_6) (le_min v_15) (le_max v_15)) (o24_17 b_13 b_14 hn_12 e_16 c_17 (le_min x2_6) (le_max x2_6) (le_min v_15) (le_max v_15)) dX5_term_42 (fun v_37 ls e_38 hl => ?_)
          refine lv_goto (tgt := 7) C0.1 C0.2.1 dX5_term_45 (by decide) ?_
          exact ih_10 v_37 _ _ _ _ (o24_18 b_13 b_14 hn_12 e_16 c_17 e_38) (o24_19 b_13 b_14 hn_12 e_16 c_17 e_38) (o24_20 b_13 b_14 hn_12 e_16 c_17 e_38) h (Fr.tr (Fr.tr (Fr.tr hF_8 (Fr.mono u_26 (by decide))) u_29) (Fr.mono u_35 (by decide))) (lv_sub hl [0, 1, 2] rfl)
  exact lp_9 ((900 - v_4.toInt + 1).toNat) v_4 _ _ _ _ (o24_21 e_5) (o24_22 e_5) (o24_23 e_5) h Fr.rf (lv_sub hl [0, 1, 2] rfl)
set_option maxHeartbeats 4000000 in
set_option maxRecDepth 100000 in
theorem c_X5_sum_1 (l : Launch) (G : GG) (Z : RZ) (ad : Nat → Nat) (ws0 : va_W) (hT : Ty G (SC tt) ad ws0) (a1 : Int32) (l1 : 1 ≤ a1.toInt) (u1 : a1.toInt ≤ 1) : Mq l yX5_sum cX5_sum 4 none 23 G Z [.ref (ad 77), .int a1] ws0 (PV G (SC tt) ad [2, 3, 16] ws0 (fun u => True)) := by
  refine Mq.start (by decide) (Nat.le_of_ble_eq_true rfl) ?_
  intro p e s m below meth c A ls C0 hZ h hl
  have hl : lv_has ls 4 [(0, .ref (ad 77)), (1, .int a1)] := hl
  have h : Wt G (SC tt) ad A s s.heap [] ws0 := ⟨h, hT⟩
  obtain ⟨args, hargs⟩ : ∃ z, z = ([.ref (ad 77), .int a1] : List Value).toArray := ⟨_, rfl⟩
  rw [← hargs] at C0 ⊢
  have C0 : Cx p s m args meth c RX5 cX5_sum 4 none := C0
  obtain ⟨Q, hQ⟩ : ∃ z, z = MQ below ((PV G (SC tt) ad [2, 3, 16] ws0 (fun u => True)) A) args s 0 0 A := ⟨_, rfl⟩
  rw [← hQ]
  refine lv_aload_n C0.1 C0.2.1 dX5_sum_0 rfl (lv_at hl 0 rfl) ?_
  refine lv_iload_n C0.1 C0.2.1 dX5_sum_1 rfl (lv_at hl 1 rfl) ?_
  refine y_cv h (y_rV (As := [.int a1]) (rest := []) C0 hZ h (c_X5_term_1 l G Z ad _ h.2 a1 (o24_65 l1 u1) (o24_66 l1 u1)) k_X5_term q_820 q_16 q_818 kSC_77 rfl rfl rfl hl.1 rfl rfl (Nat.le_of_ble_eq_true rfl) dX5_sum_2 ⟨Nat.le_of_ble_eq_true rfl, Nat.le_of_ble_eq_true rfl⟩ ⟨Nat.le_of_ble_eq_true rfl, Nat.le_of_ble_eq_true rfl⟩) (fun H locs ws_1 h u_2 p_3 => ?_)
  refine y_c1 (n := 0) C0 (by decide) dX5_sum_5 (fun v_4 e_5 => ?_)
  refine lv_istore_n (lv' := [(2, .int v_4), (0, .ref (ad 77)), (1, .int a1)]) C0.1 C0.2.1 dX5_sum_6 rfl hl (by decide) rfl (fun ls hl => ?_)
  have lp_9 : ∀ (n_11 : Nat) (x2_6 : Int32) (H : Heap) (locs : List Loc) (ls : Array Slot) (ws_7 : va_W), 900 - x2_6.toInt < (n_11 : Int) → 0 ≤ x2_6.toInt → x2_6.toInt ≤ 900 → Wt G (SC tt) ad A s H locs ws_7 → Fr (SC tt) [2, 3, 16] ws_1 ws_7 → lv_has ls 4 [(2, .int x2_6), (0, .ref (ad 77)), (1, .int a1)] → W p l e (rmd 23 0 0) s m args below meth c H locs 0 0 Q (F0 m 7 ls []) := by
    intro n_11
    induction n_11 with
    | zero => intro x2_6 H locs ls ws_7 hn_12 b_13 b_14 h hF_8 hl; exact ((o24_15 b_13 b_14 hn_12)).elim
    | succ n_11 ih_10 =>
      intro x2_6 H locs ls ws_7 hn_12 b_13 b_14 h hF_8 hl
      refine lv_iload_n C0.1 C0.2.1 dX5_sum_7 rfl (lv_at hl 0 rfl) ?_
      refine y_c3 (n := 900) C0 (by decide) dX5_sum_8 (fun v_15 e_16 => ?_)
      refine y_icmp_ge (tgt := 74) C0 dX5_sum_11 (by decide) (fun c_17 => ?_) (fun c_17 => ?_)
      · -- 11
        rw [hQ]
        exact y_vret C0 h (Fr.tr u_2 hF_8) trivial dX5_sum_74
      · -- 11
        refine lv_aload_n C0.1 C0.2.1 dX5_sum_14 rfl (lv_at hl 1 rfl) ?_
        refine tg_X5_kind C0 h kSC_77 q_374 dX5_sum_15 (fun v_18 e_19 e_20 e_21 => ?_)
        refine y_c2 (n := 43) C0 (by decide) dX5_sum_18 (fun v_22 e_23 => ?_)
        refine y_icmp_eq (tgt := 32) C0 dX5_sum_20 (by decide) (fun c_24 => ?_) (fun c_24 => ?_)
        · -- 20
          refine lv_aload_n C0.1 C0.2.1 dX5_sum_32 rfl (lv_at hl 1 rfl) ?_
          refine tg_X5_kind C0 h kSC_77 q_374 dX5_sum_33 (fun v_25 e_26 e_27 e_28 => ?_)
          have q_29 : v_25.toInt = v_18.toInt := congrArg Int32.toInt (e_26.symm.trans (Eq.trans rfl e_19))
          refine y_c2 (n := 43) C0 (by decide) dX5_sum_36 (fun v_30 e_31 => ?_)
          refine y_icmp_ne (tgt := 47) C0 dX5_sum_38 (by decide) (fun c_32 => ((o24_24 e_23 c_24 q_29 e_31 c_32)).elim) (fun c_32 => ?_)
          refine y_c3 (n := 2000) C0 (by decide) dX5_sum_41 (fun v_33 e_34 => ?_)
          refine lv_goto (tgt := 50) C0.1 C0.2.1 dX5_sum_44 (by decide) ?_
          refine lv_istore_n (lv' := [(3, .int v_33), (2, .int x2_6), (0, .ref (ad 77)), (1, .int a1)]) C0.1 C0.2.1 dX5_sum_50 rfl hl (by decide) rfl (fun ls hl => ?_)
          refine lv_aload_n C0.1 C0.2.1 dX5_sum_51 rfl (lv_at hl 2 rfl) ?_
          refine y_cv h (y_rV (As := []) (rest := []) C0 hZ h (c_X5_advance l G Z ad _ h.2) k_X5_advance q_616 q_0 q_614 kSC_77 rfl rfl rfl hl.1 rfl rfl (Nat.le_of_ble_eq_true rfl) dX5_sum_52 ⟨Nat.le_of_ble_eq_true rfl, Nat.le_of_ble_eq_true rfl⟩ ⟨Nat.le_of_ble_eq_true rfl, Nat.le_of_ble_eq_true rfl⟩) (fun H locs ws_35 h u_36 p_37 => ?_)
          refine lv_aload_n C0.1 C0.2.1 dX5_sum_55 rfl (lv_at hl 2 rfl) ?_
          refine lv_iload_n C0.1 C0.2.1 dX5_sum_56 rfl (lv_at hl 3 rfl) ?_
          refine y_cv h (y_rV (As := [.int a1]) (rest := []) C0 hZ h (c_X5_term_1 l G Z ad _ h.2 a1 (o24_65 l1 u1) (o24_66 l1 u1)) k_X5_term q_820 q_16 q_818 kSC_77 rfl rfl rfl hl.1 rfl rfl (Nat.le_of_ble_eq_true rfl) dX5_sum_57 ⟨Nat.le_of_ble_eq_true rfl, Nat.le_of_ble_eq_true rfl⟩ ⟨Nat.le_of_ble_eq_true rfl, Nat.le_of_ble_eq_true rfl⟩) (fun H locs ws_38 h u_39 p_40 => ?_)
          refine lv_aload_n C0.1 C0.2.1 dX5_sum_60 rfl (lv_at hl 2 rfl) ?_
          refine tg_X5_law C0 h kSC_77 q_380 dX5_sum_61 (fun i_41 hi_41 => ?_)
          refine lv_iload_n C0.1 C0.2.1 dX5_sum_64 rfl (lv_at hl 0 rfl) ?_
          refine y_cv h (y_rV (As := [.int v_33]) (rest := []) C0 hZ h (c_X4_add l G Z ad _ h.2 i_41 hi_41 v_33) k_X4_add q_827 q_828 q_826 hi_41 rfl rfl rfl hl.1 rfl rfl (Nat.le_of_ble_eq_true rfl) dX5_sum_65 ⟨Nat.le_of_ble_eq_true rfl, Nat.le_of_ble_eq_true rfl⟩ ⟨Nat.le_of_ble_eq_true rfl, Nat.le_of_ble_eq_true rfl⟩) (fun H locs ws_42 h u_43 p_44 => ?_)
          refine y_inc (kp := 1) (n := 1) (fun v_45 => [(2, .int v_45), (3, .int v_33), (0, .ref (ad 77)), (1, .int a1)]) C0 hl rfl (by decide) (by decide) (fun _ => rfl) (o24_16 b_13 b_14 hn_12 e_16 c_17 (le_min x2_6) (le_max x2_6) (le_min v_15) (le_max v_15)) (o24_17 b_13 b_14 hn_12 e_16 c_17 (le_min x2_6) (le_max x2_6) (le_min v_15) (le_max v_15)) dX5_sum_68 (fun v_45 ls e_46 hl => ?_)
          refine lv_goto (tgt := 7) C0.1 C0.2.1 dX5_sum_71 (by decide) ?_
          exact ih_10 v_45 _ _ _ _ (o24_18 b_13 b_14 hn_12 e_16 c_17 e_46) (o24_19 b_13 b_14 hn_12 e_16 c_17 e_46) (o24_20 b_13 b_14 hn_12 e_16 c_17 e_46) h (Fr.tr (Fr.tr (Fr.tr hF_8 (Fr.mono u_36 (by decide))) u_39) (Fr.mono u_43 (by decide))) (lv_sub hl [0, 2, 3] rfl)
        · -- 20
          refine lv_aload_n C0.1 C0.2.1 dX5_sum_23 rfl (lv_at hl 1 rfl) ?_
          refine tg_X5_kind C0 h kSC_77 q_374 dX5_sum_24 (fun v_47 e_48 e_49 e_50 => ?_)
          have q_51 : v_47.toInt = v_18.toInt := congrArg Int32.toInt (e_48.symm.trans (Eq.trans rfl e_19))
          refine y_c2 (n := 45) C0 (by decide) dX5_sum_27 (fun v_52 e_53 => ?_)
          refine y_icmp_ne (tgt := 74) C0 dX5_sum_29 (by decide) (fun c_54 => ?_) (fun c_54 => ?_)
          · -- 29
            rw [hQ]
            exact y_vret C0 h (Fr.tr u_2 hF_8) trivial dX5_sum_74
          · -- 29
            refine lv_aload_n C0.1 C0.2.1 dX5_sum_32 rfl (lv_at hl 1 rfl) ?_
            refine tg_X5_kind C0 h kSC_77 q_374 dX5_sum_33 (fun v_55 e_56 e_57 e_58 => ?_)
            have q_59 : v_55.toInt = v_18.toInt := congrArg Int32.toInt (e_56.symm.trans (Eq.trans rfl e_19))
            refine y_c2 (n := 43) C0 (by decide) dX5_sum_36 (fun v_60 e_61 => ?_)
            refine y_icmp_ne (tgt := 47) C0 dX5_sum_38 (by decide) (fun c_62 => ?_) (fun c_62 => ((o24_25 e_23 c_24 q_51 e_53 c_54 q_59 e_61 c_62)).elim)
            refine y_c3 (n := 2001) C0 (by decide) dX5_sum_47 (fun v_63 e_64 => ?_)
            refine lv_istore_n (lv' := [(3, .int v_63), (2, .int x2_6), (0, .ref (ad 77)), (1, .int a1)]) C0.1 C0.2.1 dX5_sum_50 rfl hl (by decide) rfl (fun ls hl => ?_)
            refine lv_aload_n C0.1 C0.2.1 dX5_sum_51 rfl (lv_at hl 2 rfl) ?_
            refine y_cv h (y_rV (As := []) (rest := []) C0 hZ h (c_X5_advance l G Z ad _ h.2) k_X5_advance q_616 q_0 q_614 kSC_77 rfl rfl rfl hl.1 rfl rfl (Nat.le_of_ble_eq_true rfl) dX5_sum_52 ⟨Nat.le_of_ble_eq_true rfl, Nat.le_of_ble_eq_true rfl⟩ ⟨Nat.le_of_ble_eq_true rfl, Nat.le_of_ble_eq_true rfl⟩) (fun H locs ws_65 h u_66 p_67 => ?_)
            refine lv_aload_n C0.1 C0.2.1 dX5_sum_55 rfl (lv_at hl 2 rfl) ?_
            refine lv_iload_n C0.1 C0.2.1 dX5_sum_56 rfl (lv_at hl 3 rfl) ?_
            refine y_cv h (y_rV (As := [.int a1]) (rest := []) C0 hZ h (c_X5_term_1 l G Z ad _ h.2 a1 (o24_65 l1 u1) (o24_66 l1 u1)) k_X5_term q_820 q_16 q_818 kSC_77 rfl rfl rfl hl.1 rfl rfl (Nat.le_of_ble_eq_true rfl) dX5_sum_57 ⟨Nat.le_of_ble_eq_true rfl, Nat.le_of_ble_eq_true rfl⟩ ⟨Nat.le_of_ble_eq_true rfl, Nat.le_of_ble_eq_true rfl⟩) (fun H locs ws_68 h u_69 p_70 => ?_)
            refine lv_aload_n C0.1 C0.2.1 dX5_sum_60 rfl (lv_at hl 2 rfl) ?_
            refine tg_X5_law C0 h kSC_77 q_380 dX5_sum_61 (fun i_71 hi_71 => ?_)
            refine lv_iload_n C0.1 C0.2.1 dX5_sum_64 rfl (lv_at hl 0 rfl) ?_
            refine y_cv h (y_rV (As := [.int v_63]) (rest := []) C0 hZ h (c_X4_add l G Z ad _ h.2 i_71 hi_71 v_63) k_X4_add q_827 q_828 q_826 hi_71 rfl rfl rfl hl.1 rfl rfl (Nat.le_of_ble_eq_true rfl) dX5_sum_65 ⟨Nat.le_of_ble_eq_true rfl, Nat.le_of_ble_eq_true rfl⟩ ⟨Nat.le_of_ble_eq_true rfl, Nat.le_of_ble_eq_true rfl⟩) (fun H locs ws_72 h u_73 p_74 => ?_)
            refine y_inc (kp := 1) (n := 1) (fun v_75 => [(2, .int v_75), (3, .int v_63), (0, .ref (ad 77)), (1, .int a1)]) C0 hl rfl (by decide) (by decide) (fun _ => rfl) (o24_16 b_13 b_14 hn_12 e_16 c_17 (le_min x2_6) (le_max x2_6) (le_min v_15) (le_max v_15)) (o24_17 b_13 b_14 hn_12 e_16 c_17 (le_min x2_6) (le_max x2_6) (le_min v_15) (le_max v_15)) dX5_sum_68 (fun v_75 ls e_76 hl => ?_)
            refine lv_goto (tgt := 7) C0.1 C0.2.1 dX5_sum_71 (by decide) ?_
            exact ih_10 v_75 _ _ _ _ (o24_18 b_13 b_14 hn_12 e_16 c_17 e_76) (o24_19 b_13 b_14 hn_12 e_16 c_17 e_76) (o24_20 b_13 b_14 hn_12 e_16 c_17 e_76) h (Fr.tr (Fr.tr (Fr.tr hF_8 (Fr.mono u_66 (by decide))) u_69) (Fr.mono u_73 (by decide))) (lv_sub hl [0, 2, 3] rfl)
  exact lp_9 ((900 - v_4.toInt + 1).toNat) v_4 _ _ _ _ (o24_21 e_5) (o24_22 e_5) (o24_23 e_5) h Fr.rf (lv_sub hl [0, 1, 2] rfl)
set_option maxHeartbeats 4000000 in
set_option maxRecDepth 100000 in
theorem c_X5_unit_1 (l : Launch) (G : GG) (Z : RZ) (ad : Nat → Nat) (ws0 : va_W) (hT : Ty G (SC tt) ad ws0) (a1 : Int32) (l1 : 1 ≤ a1.toInt) (u1 : a1.toInt ≤ 1) : Mq l yX5_unit cX5_unit 3 none 24 G Z [.ref (ad 77), .int a1] ws0 (PV G (SC tt) ad [2, 3, 16] ws0 (fun u => True)) := by
  refine Mq.start (by decide) (Nat.le_of_ble_eq_true rfl) ?_
  intro p e s m below meth c A ls C0 hZ h hl
  have hl : lv_has ls 3 [(0, .ref (ad 77)), (1, .int a1)] := hl
  have h : Wt G (SC tt) ad A s s.heap [] ws0 := ⟨h, hT⟩
  obtain ⟨args, hargs⟩ : ∃ z, z = ([.ref (ad 77), .int a1] : List Value).toArray := ⟨_, rfl⟩
  rw [← hargs] at C0 ⊢
  have C0 : Cx p s m args meth c RX5 cX5_unit 3 none := C0
  obtain ⟨Q, hQ⟩ : ∃ z, z = MQ below ((PV G (SC tt) ad [2, 3, 16] ws0 (fun u => True)) A) args s 0 0 A := ⟨_, rfl⟩
  rw [← hQ]
  refine lv_aload_n C0.1 C0.2.1 dX5_unit_0 rfl (lv_at hl 0 rfl) ?_
  refine va_ldcS C0.1 C0.2.1 C0.2.2.2.1 (sr_19 hZ) dX5_unit_1 ?_
  refine y_ci h (y_rV (As := [.ref (Z.2.1 19)]) (rest := []) C0 hZ h (c_X5_isWord l G Z ad _ h.2 19 (by decide)) k_X5_isWord q_724 q_5 q_722 kSC_77 rfl rfl rfl hl.1 rfl rfl (Nat.le_of_ble_eq_true rfl) dX5_unit_3 ⟨Nat.le_of_ble_eq_true rfl, Nat.le_of_ble_eq_true rfl⟩ ⟨Nat.le_of_ble_eq_true rfl, Nat.le_of_ble_eq_true rfl⟩) (fun r_4 H locs ws_1 h u_2 p_3 => ?_)
  obtain ⟨e_5, e_6⟩ := p_3
  refine y_if_eq (tgt := 49) C0 dX5_unit_6 (by decide) (fun c_7 => ?_) (fun c_7 => ?_)
  · -- 6
    refine lv_aload_n C0.1 C0.2.1 dX5_unit_49 rfl (lv_at hl 0 rfl) ?_
    refine tg_X5_kind C0 h kSC_77 q_374 dX5_unit_50 (fun v_8 e_9 e_10 e_11 => ?_)
    refine y_c2 (n := 91) C0 (by decide) dX5_unit_53 (fun v_12 e_13 => ?_)
    refine y_icmp_ne (tgt := 86) C0 dX5_unit_55 (by decide) (fun c_14 => ?_) (fun c_14 => ?_)
    · -- 55
      refine lv_aload_n C0.1 C0.2.1 dX5_unit_86 rfl (lv_at hl 0 rfl) ?_
      refine lv_iload_n C0.1 C0.2.1 dX5_unit_87 rfl (lv_at hl 1 rfl) ?_
      refine y_cv h (y_rV (As := [.int a1]) (rest := []) C0 hZ h (c_X5_sum_1 l G Z ad _ h.2 a1 (o24_65 l1 u1) (o24_66 l1 u1)) k_X5_sum q_816 q_15 q_814 kSC_77 rfl rfl rfl hl.1 rfl rfl (Nat.le_of_ble_eq_true rfl) dX5_unit_88 ⟨Nat.le_of_ble_eq_true rfl, Nat.le_of_ble_eq_true rfl⟩ ⟨Nat.le_of_ble_eq_true rfl, Nat.le_of_ble_eq_true rfl⟩) (fun H locs ws_15 h u_16 p_17 => ?_)
      refine lv_aload_n C0.1 C0.2.1 dX5_unit_91 rfl (lv_at hl 0 rfl) ?_
      refine tg_X5_kind C0 h kSC_77 q_374 dX5_unit_92 (fun v_18 e_19 e_20 e_21 => ?_)
      refine y_c2 (n := 61) C0 (by decide) dX5_unit_95 (fun v_22 e_23 => ?_)
      refine y_icmp_ne (tgt := 106) C0 dX5_unit_97 (by decide) (fun c_24 => ?_) (fun c_24 => ?_)
      · -- 97
        refine lv_aload_n C0.1 C0.2.1 dX5_unit_106 rfl (lv_at hl 0 rfl) ?_
        refine tg_X5_kind C0 h kSC_77 q_374 dX5_unit_107 (fun v_25 e_26 e_27 e_28 => ?_)
        have q_29 : v_25.toInt = v_18.toInt := congrArg Int32.toInt (e_26.symm.trans (Eq.trans rfl e_19))
        refine y_c2 (n := 60) C0 (by decide) dX5_unit_110 (fun v_30 e_31 => ?_)
        refine y_icmp_ne (tgt := 121) C0 dX5_unit_112 (by decide) (fun c_32 => ?_) (fun c_32 => ?_)
        · -- 112
          refine lv_aload_n C0.1 C0.2.1 dX5_unit_121 rfl (lv_at hl 0 rfl) ?_
          refine tg_X5_kind C0 h kSC_77 q_374 dX5_unit_122 (fun v_33 e_34 e_35 e_36 => ?_)
          have q_37 : v_33.toInt = v_18.toInt := congrArg Int32.toInt (e_34.symm.trans (Eq.trans rfl e_19))
          refine y_c2 (n := 62) C0 (by decide) dX5_unit_125 (fun v_38 e_39 => ?_)
          refine y_icmp_ne (tgt := 136) C0 dX5_unit_127 (by decide) (fun c_40 => ?_) (fun c_40 => ?_)
          · -- 127
            refine y_c1 (n := (-1)) C0 (by decide) dX5_unit_136 (fun v_41 e_42 => ?_)
            refine lv_istore_n (lv' := [(2, .int v_41), (0, .ref (ad 77)), (1, .int a1)]) C0.1 C0.2.1 dX5_unit_137 rfl hl (by decide) rfl (fun ls hl => ?_)
            refine lv_iload_n C0.1 C0.2.1 dX5_unit_138 rfl (lv_at hl 0 rfl) ?_
            refine y_if_ge (tgt := 148) C0 dX5_unit_139 (by decide) (fun c_43 => ((o24_5 e_42 c_43)).elim) (fun c_43 => ?_)
            refine lv_aload_n C0.1 C0.2.1 dX5_unit_142 rfl (lv_at hl 1 rfl) ?_
            refine y_c1 (n := 2) C0 (by decide) dX5_unit_143 (fun v_44 e_45 => ?_)
            refine y_cv h (y_rV (As := [.int v_44]) (rest := []) C0 hZ h (c_X5_fail l G Z ad _ h.2 v_44) k_X5_fail q_628 q_3 q_626 kSC_77 rfl rfl rfl hl.1 rfl rfl (Nat.le_of_ble_eq_true rfl) dX5_unit_144 ⟨Nat.le_of_ble_eq_true rfl, Nat.le_of_ble_eq_true rfl⟩ ⟨Nat.le_of_ble_eq_true rfl, Nat.le_of_ble_eq_true rfl⟩) (fun H locs ws_46 h u_47 p_48 => ?_)
            rw [hQ]
            exact y_vret C0 h (Fr.tr (Fr.tr (Fr.mono u_2 (by decide)) u_16) (Fr.mono u_47 (by decide))) trivial dX5_unit_147
          · -- 127
            refine y_c3 (n := 2005) C0 (by decide) dX5_unit_130 (fun v_49 e_50 => ?_)
            refine lv_goto (tgt := 137) C0.1 C0.2.1 dX5_unit_133 (by decide) ?_
            refine lv_istore_n (lv' := [(2, .int v_49), (0, .ref (ad 77)), (1, .int a1)]) C0.1 C0.2.1 dX5_unit_137 rfl hl (by decide) rfl (fun ls hl => ?_)
            refine lv_iload_n C0.1 C0.2.1 dX5_unit_138 rfl (lv_at hl 0 rfl) ?_
            refine y_if_ge (tgt := 148) C0 dX5_unit_139 (by decide) (fun c_51 => ?_) (fun c_51 => ((o24_26 e_50 c_51)).elim)
            refine lv_aload_n C0.1 C0.2.1 dX5_unit_148 rfl (lv_at hl 1 rfl) ?_
            refine y_cv h (y_rV (As := []) (rest := []) C0 hZ h (c_X5_advance l G Z ad _ h.2) k_X5_advance q_616 q_0 q_614 kSC_77 rfl rfl rfl hl.1 rfl rfl (Nat.le_of_ble_eq_true rfl) dX5_unit_149 ⟨Nat.le_of_ble_eq_true rfl, Nat.le_of_ble_eq_true rfl⟩ ⟨Nat.le_of_ble_eq_true rfl, Nat.le_of_ble_eq_true rfl⟩) (fun H locs ws_52 h u_53 p_54 => ?_)
            refine lv_aload_n C0.1 C0.2.1 dX5_unit_152 rfl (lv_at hl 1 rfl) ?_
            refine lv_iload_n C0.1 C0.2.1 dX5_unit_153 rfl (lv_at hl 2 rfl) ?_
            refine y_cv h (y_rV (As := [.int a1]) (rest := []) C0 hZ h (c_X5_sum_1 l G Z ad _ h.2 a1 (o24_65 l1 u1) (o24_66 l1 u1)) k_X5_sum q_816 q_15 q_814 kSC_77 rfl rfl rfl hl.1 rfl rfl (Nat.le_of_ble_eq_true rfl) dX5_unit_154 ⟨Nat.le_of_ble_eq_true rfl, Nat.le_of_ble_eq_true rfl⟩ ⟨Nat.le_of_ble_eq_true rfl, Nat.le_of_ble_eq_true rfl⟩) (fun H locs ws_55 h u_56 p_57 => ?_)
            refine lv_aload_n C0.1 C0.2.1 dX5_unit_157 rfl (lv_at hl 1 rfl) ?_
            refine tg_X5_law C0 h kSC_77 q_380 dX5_unit_158 (fun i_58 hi_58 => ?_)
            refine lv_iload_n C0.1 C0.2.1 dX5_unit_161 rfl (lv_at hl 0 rfl) ?_
            refine y_cv h (y_rV (As := [.int v_49]) (rest := []) C0 hZ h (c_X4_add l G Z ad _ h.2 i_58 hi_58 v_49) k_X4_add q_827 q_828 q_826 hi_58 rfl rfl rfl hl.1 rfl rfl (Nat.le_of_ble_eq_true rfl) dX5_unit_162 ⟨Nat.le_of_ble_eq_true rfl, Nat.le_of_ble_eq_true rfl⟩ ⟨Nat.le_of_ble_eq_true rfl, Nat.le_of_ble_eq_true rfl⟩) (fun H locs ws_59 h u_60 p_61 => ?_)
            rw [hQ]
            exact y_vret C0 h (Fr.tr (Fr.tr (Fr.tr (Fr.tr (Fr.mono u_2 (by decide)) u_16) (Fr.mono u_53 (by decide))) u_56) (Fr.mono u_60 (by decide))) trivial dX5_unit_165
        · -- 112
          refine y_c3 (n := 2004) C0 (by decide) dX5_unit_115 (fun v_62 e_63 => ?_)
          refine lv_goto (tgt := 137) C0.1 C0.2.1 dX5_unit_118 (by decide) ?_
          refine lv_istore_n (lv' := [(2, .int v_62), (0, .ref (ad 77)), (1, .int a1)]) C0.1 C0.2.1 dX5_unit_137 rfl hl (by decide) rfl (fun ls hl => ?_)
          refine lv_iload_n C0.1 C0.2.1 dX5_unit_138 rfl (lv_at hl 0 rfl) ?_
          refine y_if_ge (tgt := 148) C0 dX5_unit_139 (by decide) (fun c_64 => ?_) (fun c_64 => ((o24_27 e_63 c_64)).elim)
          refine lv_aload_n C0.1 C0.2.1 dX5_unit_148 rfl (lv_at hl 1 rfl) ?_
          refine y_cv h (y_rV (As := []) (rest := []) C0 hZ h (c_X5_advance l G Z ad _ h.2) k_X5_advance q_616 q_0 q_614 kSC_77 rfl rfl rfl hl.1 rfl rfl (Nat.le_of_ble_eq_true rfl) dX5_unit_149 ⟨Nat.le_of_ble_eq_true rfl, Nat.le_of_ble_eq_true rfl⟩ ⟨Nat.le_of_ble_eq_true rfl, Nat.le_of_ble_eq_true rfl⟩) (fun H locs ws_65 h u_66 p_67 => ?_)
          refine lv_aload_n C0.1 C0.2.1 dX5_unit_152 rfl (lv_at hl 1 rfl) ?_
          refine lv_iload_n C0.1 C0.2.1 dX5_unit_153 rfl (lv_at hl 2 rfl) ?_
          refine y_cv h (y_rV (As := [.int a1]) (rest := []) C0 hZ h (c_X5_sum_1 l G Z ad _ h.2 a1 (o24_65 l1 u1) (o24_66 l1 u1)) k_X5_sum q_816 q_15 q_814 kSC_77 rfl rfl rfl hl.1 rfl rfl (Nat.le_of_ble_eq_true rfl) dX5_unit_154 ⟨Nat.le_of_ble_eq_true rfl, Nat.le_of_ble_eq_true rfl⟩ ⟨Nat.le_of_ble_eq_true rfl, Nat.le_of_ble_eq_true rfl⟩) (fun H locs ws_68 h u_69 p_70 => ?_)
          refine lv_aload_n C0.1 C0.2.1 dX5_unit_157 rfl (lv_at hl 1 rfl) ?_
          refine tg_X5_law C0 h kSC_77 q_380 dX5_unit_158 (fun i_71 hi_71 => ?_)
          refine lv_iload_n C0.1 C0.2.1 dX5_unit_161 rfl (lv_at hl 0 rfl) ?_
          refine y_cv h (y_rV (As := [.int v_62]) (rest := []) C0 hZ h (c_X4_add l G Z ad _ h.2 i_71 hi_71 v_62) k_X4_add q_827 q_828 q_826 hi_71 rfl rfl rfl hl.1 rfl rfl (Nat.le_of_ble_eq_true rfl) dX5_unit_162 ⟨Nat.le_of_ble_eq_true rfl, Nat.le_of_ble_eq_true rfl⟩ ⟨Nat.le_of_ble_eq_true rfl, Nat.le_of_ble_eq_true rfl⟩) (fun H locs ws_72 h u_73 p_74 => ?_)
          rw [hQ]
          exact y_vret C0 h (Fr.tr (Fr.tr (Fr.tr (Fr.tr (Fr.mono u_2 (by decide)) u_16) (Fr.mono u_66 (by decide))) u_69) (Fr.mono u_73 (by decide))) trivial dX5_unit_165
      · -- 97
        refine y_c3 (n := 2003) C0 (by decide) dX5_unit_100 (fun v_75 e_76 => ?_)
        refine lv_goto (tgt := 137) C0.1 C0.2.1 dX5_unit_103 (by decide) ?_
        refine lv_istore_n (lv' := [(2, .int v_75), (0, .ref (ad 77)), (1, .int a1)]) C0.1 C0.2.1 dX5_unit_137 rfl hl (by decide) rfl (fun ls hl => ?_)
        refine lv_iload_n C0.1 C0.2.1 dX5_unit_138 rfl (lv_at hl 0 rfl) ?_
        refine y_if_ge (tgt := 148) C0 dX5_unit_139 (by decide) (fun c_77 => ?_) (fun c_77 => ((o24_28 e_76 c_77)).elim)
        refine lv_aload_n C0.1 C0.2.1 dX5_unit_148 rfl (lv_at hl 1 rfl) ?_
        refine y_cv h (y_rV (As := []) (rest := []) C0 hZ h (c_X5_advance l G Z ad _ h.2) k_X5_advance q_616 q_0 q_614 kSC_77 rfl rfl rfl hl.1 rfl rfl (Nat.le_of_ble_eq_true rfl) dX5_unit_149 ⟨Nat.le_of_ble_eq_true rfl, Nat.le_of_ble_eq_true rfl⟩ ⟨Nat.le_of_ble_eq_true rfl, Nat.le_of_ble_eq_true rfl⟩) (fun H locs ws_78 h u_79 p_80 => ?_)
        refine lv_aload_n C0.1 C0.2.1 dX5_unit_152 rfl (lv_at hl 1 rfl) ?_
        refine lv_iload_n C0.1 C0.2.1 dX5_unit_153 rfl (lv_at hl 2 rfl) ?_
        refine y_cv h (y_rV (As := [.int a1]) (rest := []) C0 hZ h (c_X5_sum_1 l G Z ad _ h.2 a1 (o24_65 l1 u1) (o24_66 l1 u1)) k_X5_sum q_816 q_15 q_814 kSC_77 rfl rfl rfl hl.1 rfl rfl (Nat.le_of_ble_eq_true rfl) dX5_unit_154 ⟨Nat.le_of_ble_eq_true rfl, Nat.le_of_ble_eq_true rfl⟩ ⟨Nat.le_of_ble_eq_true rfl, Nat.le_of_ble_eq_true rfl⟩) (fun H locs ws_81 h u_82 p_83 => ?_)
        refine lv_aload_n C0.1 C0.2.1 dX5_unit_157 rfl (lv_at hl 1 rfl) ?_
        refine tg_X5_law C0 h kSC_77 q_380 dX5_unit_158 (fun i_84 hi_84 => ?_)
        refine lv_iload_n C0.1 C0.2.1 dX5_unit_161 rfl (lv_at hl 0 rfl) ?_
        refine y_cv h (y_rV (As := [.int v_75]) (rest := []) C0 hZ h (c_X4_add l G Z ad _ h.2 i_84 hi_84 v_75) k_X4_add q_827 q_828 q_826 hi_84 rfl rfl rfl hl.1 rfl rfl (Nat.le_of_ble_eq_true rfl) dX5_unit_162 ⟨Nat.le_of_ble_eq_true rfl, Nat.le_of_ble_eq_true rfl⟩ ⟨Nat.le_of_ble_eq_true rfl, Nat.le_of_ble_eq_true rfl⟩) (fun H locs ws_85 h u_86 p_87 => ?_)
        rw [hQ]
        exact y_vret C0 h (Fr.tr (Fr.tr (Fr.tr (Fr.tr (Fr.mono u_2 (by decide)) u_16) (Fr.mono u_79 (by decide))) u_82) (Fr.mono u_86 (by decide))) trivial dX5_unit_165
    · -- 55
      refine lv_aload_n C0.1 C0.2.1 dX5_unit_58 rfl (lv_at hl 0 rfl) ?_
      refine lv_iload_n C0.1 C0.2.1 dX5_unit_59 rfl (lv_at hl 1 rfl) ?_
      refine y_ci h (y_rV (As := [.int a1]) (rest := []) C0 hZ h (c_X5_tooDeep_1 l G Z ad _ h.2 a1 (o24_65 l1 u1) (o24_66 l1 u1)) k_X5_tooDeep q_832 q_18 q_830 kSC_77 rfl rfl rfl hl.1 rfl rfl (Nat.le_of_ble_eq_true rfl) dX5_unit_60 ⟨Nat.le_of_ble_eq_true rfl, Nat.le_of_ble_eq_true rfl⟩ ⟨Nat.le_of_ble_eq_true rfl, Nat.le_of_ble_eq_true rfl⟩) (fun r_91 H locs ws_88 h u_89 p_90 => ?_)
      obtain ⟨e_92, e_93⟩ := p_90
      refine y_if_ne (tgt := 165) C0 dX5_unit_63 (by decide) (fun c_94 => ((o24_34 e_92 e_93 c_94)).elim) (fun c_94 => ?_)
      refine lv_aload_n C0.1 C0.2.1 dX5_unit_66 rfl (lv_at hl 0 rfl) ?_
      refine y_cv h (y_rV (As := []) (rest := []) C0 hZ h (c_X5_advance l G Z ad _ h.2) k_X5_advance q_616 q_0 q_614 kSC_77 rfl rfl rfl hl.1 rfl rfl (Nat.le_of_ble_eq_true rfl) dX5_unit_67 ⟨Nat.le_of_ble_eq_true rfl, Nat.le_of_ble_eq_true rfl⟩ ⟨Nat.le_of_ble_eq_true rfl, Nat.le_of_ble_eq_true rfl⟩) (fun H locs ws_95 h u_96 p_97 => ?_)
      refine lv_aload_n C0.1 C0.2.1 dX5_unit_70 rfl (lv_at hl 0 rfl) ?_
      refine lv_iload_n C0.1 C0.2.1 dX5_unit_71 rfl (lv_at hl 1 rfl) ?_
      refine y_c1 (n := 1) C0 (by decide) dX5_unit_72 (fun v_98 e_99 => ?_)
      refine y_add C0 (o24_67 l1 u1 e_99 (le_min a1) (le_max a1) (le_min v_98) (le_max v_98)) (o24_68 l1 u1 e_99 (le_min a1) (le_max a1) (le_min v_98) (le_max v_98)) dX5_unit_73 (fun v_100 e_101 => ?_)
      refine y_cv h (y_rV (As := [.int v_100]) (rest := []) C0 hZ h (c_X5_truth_2 l G Z ad _ h.2 v_100 (o24_69 l1 u1 e_99 e_101) (o24_70 l1 u1 e_99 e_101)) k_X5_truth q_843 q_19 q_841 kSC_77 rfl rfl rfl hl.1 rfl rfl (Nat.le_of_ble_eq_true rfl) dX5_unit_74 ⟨Nat.le_of_ble_eq_true rfl, Nat.le_of_ble_eq_true rfl⟩ ⟨Nat.le_of_ble_eq_true rfl, Nat.le_of_ble_eq_true rfl⟩) (fun H locs ws_102 h u_103 p_104 => ?_)
      refine lv_aload_n C0.1 C0.2.1 dX5_unit_77 rfl (lv_at hl 0 rfl) ?_
      refine y_c2 (n := 93) C0 (by decide) dX5_unit_78 (fun v_105 e_106 => ?_)
      refine y_cv h (y_rV (As := [.int v_105]) (rest := []) C0 hZ h (c_X5_sign l G Z ad _ h.2 v_105 (o24_41 e_106) (o24_42 e_106)) k_X5_sign q_812 q_14 q_810 kSC_77 rfl rfl rfl hl.1 rfl rfl (Nat.le_of_ble_eq_true rfl) dX5_unit_80 ⟨Nat.le_of_ble_eq_true rfl, Nat.le_of_ble_eq_true rfl⟩ ⟨Nat.le_of_ble_eq_true rfl, Nat.le_of_ble_eq_true rfl⟩) (fun H locs ws_107 h u_108 p_109 => ?_)
      refine lv_goto (tgt := 165) C0.1 C0.2.1 dX5_unit_83 (by decide) ?_
      rw [hQ]
      exact y_vret C0 h (Fr.tr (Fr.tr (Fr.tr (Fr.tr (Fr.mono u_2 (by decide)) (Fr.mono u_89 (by decide))) (Fr.mono u_96 (by decide))) u_103) (Fr.mono u_108 (by decide))) trivial dX5_unit_165
  · -- 6
    refine lv_aload_n C0.1 C0.2.1 dX5_unit_9 rfl (lv_at hl 0 rfl) ?_
    refine lv_iload_n C0.1 C0.2.1 dX5_unit_10 rfl (lv_at hl 1 rfl) ?_
    refine y_ci h (y_rV (As := [.int a1]) (rest := []) C0 hZ h (c_X5_tooDeep_1 l G Z ad _ h.2 a1 (o24_65 l1 u1) (o24_66 l1 u1)) k_X5_tooDeep q_832 q_18 q_830 kSC_77 rfl rfl rfl hl.1 rfl rfl (Nat.le_of_ble_eq_true rfl) dX5_unit_11 ⟨Nat.le_of_ble_eq_true rfl, Nat.le_of_ble_eq_true rfl⟩ ⟨Nat.le_of_ble_eq_true rfl, Nat.le_of_ble_eq_true rfl⟩) (fun r_113 H locs ws_110 h u_111 p_112 => ?_)
    obtain ⟨e_114, e_115⟩ := p_112
    refine y_if_ne (tgt := 165) C0 dX5_unit_14 (by decide) (fun c_116 => ((o24_34 e_114 e_115 c_116)).elim) (fun c_116 => ?_)
    refine lv_aload_n C0.1 C0.2.1 dX5_unit_17 rfl (lv_at hl 0 rfl) ?_
    refine y_cv h (y_rV (As := []) (rest := []) C0 hZ h (c_X5_advance l G Z ad _ h.2) k_X5_advance q_616 q_0 q_614 kSC_77 rfl rfl rfl hl.1 rfl rfl (Nat.le_of_ble_eq_true rfl) dX5_unit_18 ⟨Nat.le_of_ble_eq_true rfl, Nat.le_of_ble_eq_true rfl⟩ ⟨Nat.le_of_ble_eq_true rfl, Nat.le_of_ble_eq_true rfl⟩) (fun H locs ws_117 h u_118 p_119 => ?_)
    refine lv_aload_n C0.1 C0.2.1 dX5_unit_21 rfl (lv_at hl 0 rfl) ?_
    refine lv_iload_n C0.1 C0.2.1 dX5_unit_22 rfl (lv_at hl 1 rfl) ?_
    refine y_c1 (n := 1) C0 (by decide) dX5_unit_23 (fun v_120 e_121 => ?_)
    refine y_add C0 (o24_67 l1 u1 e_121 (le_min a1) (le_max a1) (le_min v_120) (le_max v_120)) (o24_68 l1 u1 e_121 (le_min a1) (le_max a1) (le_min v_120) (le_max v_120)) dX5_unit_24 (fun v_122 e_123 => ?_)
    refine y_cv h (y_rV (As := [.int v_122]) (rest := []) C0 hZ h (c_X5_unit_2 l G Z ad _ h.2 v_122 (o24_69 l1 u1 e_121 e_123) (o24_70 l1 u1 e_121 e_123)) k_X5_unit q_851 q_21 q_849 kSC_77 rfl rfl rfl hl.1 rfl rfl (Nat.le_of_ble_eq_true rfl) dX5_unit_25 ⟨Nat.le_of_ble_eq_true rfl, Nat.le_of_ble_eq_true rfl⟩ ⟨Nat.le_of_ble_eq_true rfl, Nat.le_of_ble_eq_true rfl⟩) (fun H locs ws_124 h u_125 p_126 => ?_)
    refine lv_aload_n C0.1 C0.2.1 dX5_unit_28 rfl (lv_at hl 0 rfl) ?_
    refine tg_X5_law C0 h kSC_77 q_380 dX5_unit_29 (fun i_127 hi_127 => ?_)
    refine y_c1 (n := 0) C0 (by decide) dX5_unit_32 (fun v_128 e_129 => ?_)
    refine y_cv h (y_rV (As := [.int v_128]) (rest := []) C0 hZ h (c_X4_add l G Z ad _ h.2 i_127 hi_127 v_128) k_X4_add q_827 q_828 q_826 hi_127 rfl rfl rfl hl.1 rfl rfl (Nat.le_of_ble_eq_true rfl) dX5_unit_33 ⟨Nat.le_of_ble_eq_true rfl, Nat.le_of_ble_eq_true rfl⟩ ⟨Nat.le_of_ble_eq_true rfl, Nat.le_of_ble_eq_true rfl⟩) (fun H locs ws_130 h u_131 p_132 => ?_)
    refine lv_aload_n C0.1 C0.2.1 dX5_unit_36 rfl (lv_at hl 0 rfl) ?_
    refine tg_X5_law C0 h kSC_77 q_380 dX5_unit_37 (fun i_133 hi_133 => ?_)
    refine y_c3 (n := 2003) C0 (by decide) dX5_unit_40 (fun v_134 e_135 => ?_)
    refine y_cv h (y_rV (As := [.int v_134]) (rest := []) C0 hZ h (c_X4_add l G Z ad _ h.2 i_133 hi_133 v_134) k_X4_add q_827 q_828 q_826 hi_133 rfl rfl rfl hl.1 rfl rfl (Nat.le_of_ble_eq_true rfl) dX5_unit_43 ⟨Nat.le_of_ble_eq_true rfl, Nat.le_of_ble_eq_true rfl⟩ ⟨Nat.le_of_ble_eq_true rfl, Nat.le_of_ble_eq_true rfl⟩) (fun H locs ws_136 h u_137 p_138 => ?_)
    refine lv_goto (tgt := 165) C0.1 C0.2.1 dX5_unit_46 (by decide) ?_
    rw [hQ]
    exact y_vret C0 h (Fr.tr (Fr.tr (Fr.tr (Fr.tr (Fr.tr (Fr.mono u_2 (by decide)) (Fr.mono u_111 (by decide))) (Fr.mono u_118 (by decide))) u_125) (Fr.mono u_131 (by decide))) (Fr.mono u_137 (by decide))) trivial dX5_unit_165
set_option maxHeartbeats 4000000 in
set_option maxRecDepth 100000 in
theorem c_X5_both_1 (l : Launch) (G : GG) (Z : RZ) (ad : Nat → Nat) (ws0 : va_W) (hT : Ty G (SC tt) ad ws0) (a1 : Int32) (l1 : 1 ≤ a1.toInt) (u1 : a1.toInt ≤ 1) : Mq l yX5_both cX5_both 3 none 25 G Z [.ref (ad 77), .int a1] ws0 (PV G (SC tt) ad [2, 3, 16] ws0 (fun u => True)) := by
  refine Mq.start (by decide) (Nat.le_of_ble_eq_true rfl) ?_
  intro p e s m below meth c A ls C0 hZ h hl
  have hl : lv_has ls 3 [(0, .ref (ad 77)), (1, .int a1)] := hl
  have h : Wt G (SC tt) ad A s s.heap [] ws0 := ⟨h, hT⟩
  obtain ⟨args, hargs⟩ : ∃ z, z = ([.ref (ad 77), .int a1] : List Value).toArray := ⟨_, rfl⟩
  rw [← hargs] at C0 ⊢
  have C0 : Cx p s m args meth c RX5 cX5_both 3 none := C0
  obtain ⟨Q, hQ⟩ : ∃ z, z = MQ below ((PV G (SC tt) ad [2, 3, 16] ws0 (fun u => True)) A) args s 0 0 A := ⟨_, rfl⟩
  rw [← hQ]
  refine lv_aload_n C0.1 C0.2.1 dX5_both_0 rfl (lv_at hl 0 rfl) ?_
  refine lv_iload_n C0.1 C0.2.1 dX5_both_1 rfl (lv_at hl 1 rfl) ?_
  refine y_cv h (y_rV (As := [.int a1]) (rest := []) C0 hZ h (c_X5_unit_1 l G Z ad _ h.2 a1 (o24_65 l1 u1) (o24_66 l1 u1)) k_X5_unit q_851 q_21 q_849 kSC_77 rfl rfl rfl hl.1 rfl rfl (Nat.le_of_ble_eq_true rfl) dX5_both_2 ⟨Nat.le_of_ble_eq_true rfl, Nat.le_of_ble_eq_true rfl⟩ ⟨Nat.le_of_ble_eq_true rfl, Nat.le_of_ble_eq_true rfl⟩) (fun H locs ws_1 h u_2 p_3 => ?_)
  refine y_c1 (n := 0) C0 (by decide) dX5_both_5 (fun v_4 e_5 => ?_)
  refine lv_istore_n (lv' := [(2, .int v_4), (0, .ref (ad 77)), (1, .int a1)]) C0.1 C0.2.1 dX5_both_6 rfl hl (by decide) rfl (fun ls hl => ?_)
  have lp_9 : ∀ (n_11 : Nat) (x2_6 : Int32) (H : Heap) (locs : List Loc) (ls : Array Slot) (ws_7 : va_W), 900 - x2_6.toInt < (n_11 : Int) → 0 ≤ x2_6.toInt → x2_6.toInt ≤ 900 → Wt G (SC tt) ad A s H locs ws_7 → Fr (SC tt) [2, 3, 16] ws_1 ws_7 → lv_has ls 3 [(2, .int x2_6), (0, .ref (ad 77)), (1, .int a1)] → W p l e (rmd 25 0 0) s m args below meth c H locs 0 0 Q (F0 m 7 ls []) := by
    intro n_11
    induction n_11 with
    | zero => intro x2_6 H locs ls ws_7 hn_12 b_13 b_14 h hF_8 hl; exact ((o24_15 b_13 b_14 hn_12)).elim
    | succ n_11 ih_10 =>
      intro x2_6 H locs ls ws_7 hn_12 b_13 b_14 h hF_8 hl
      refine lv_iload_n C0.1 C0.2.1 dX5_both_7 rfl (lv_at hl 0 rfl) ?_
      refine y_c3 (n := 900) C0 (by decide) dX5_both_8 (fun v_15 e_16 => ?_)
      refine y_icmp_ge (tgt := 48) C0 dX5_both_11 (by decide) (fun c_17 => ?_) (fun c_17 => ?_)
      · -- 11
        rw [hQ]
        exact y_vret C0 h (Fr.tr u_2 hF_8) trivial dX5_both_48
      · -- 11
        refine lv_aload_n C0.1 C0.2.1 dX5_both_14 rfl (lv_at hl 1 rfl) ?_
        refine va_ldcS C0.1 C0.2.1 C0.2.2.2.1 (sr_20 hZ) dX5_both_15 ?_
        refine y_ci h (y_rV (As := [.ref (Z.2.1 20)]) (rest := []) C0 hZ h (c_X5_isWord l G Z ad _ h.2 20 (by decide)) k_X5_isWord q_724 q_5 q_722 kSC_77 rfl rfl rfl hl.1 rfl rfl (Nat.le_of_ble_eq_true rfl) dX5_both_17 ⟨Nat.le_of_ble_eq_true rfl, Nat.le_of_ble_eq_true rfl⟩ ⟨Nat.le_of_ble_eq_true rfl, Nat.le_of_ble_eq_true rfl⟩) (fun r_21 H locs ws_18 h u_19 p_20 => ?_)
        obtain ⟨e_22, e_23⟩ := p_20
        refine y_if_eq (tgt := 48) C0 dX5_both_20 (by decide) (fun c_24 => ?_) (fun c_24 => ?_)
        · -- 20
          rw [hQ]
          exact y_vret C0 h (Fr.tr (Fr.tr u_2 hF_8) (Fr.mono u_19 (by decide))) trivial dX5_both_48
        · -- 20
          refine lv_aload_n C0.1 C0.2.1 dX5_both_23 rfl (lv_at hl 1 rfl) ?_
          refine y_cv h (y_rV (As := []) (rest := []) C0 hZ h (c_X5_advance l G Z ad _ h.2) k_X5_advance q_616 q_0 q_614 kSC_77 rfl rfl rfl hl.1 rfl rfl (Nat.le_of_ble_eq_true rfl) dX5_both_24 ⟨Nat.le_of_ble_eq_true rfl, Nat.le_of_ble_eq_true rfl⟩ ⟨Nat.le_of_ble_eq_true rfl, Nat.le_of_ble_eq_true rfl⟩) (fun H locs ws_25 h u_26 p_27 => ?_)
          refine lv_aload_n C0.1 C0.2.1 dX5_both_27 rfl (lv_at hl 1 rfl) ?_
          refine lv_iload_n C0.1 C0.2.1 dX5_both_28 rfl (lv_at hl 2 rfl) ?_
          refine y_cv h (y_rV (As := [.int a1]) (rest := []) C0 hZ h (c_X5_unit_1 l G Z ad _ h.2 a1 (o24_65 l1 u1) (o24_66 l1 u1)) k_X5_unit q_851 q_21 q_849 kSC_77 rfl rfl rfl hl.1 rfl rfl (Nat.le_of_ble_eq_true rfl) dX5_both_29 ⟨Nat.le_of_ble_eq_true rfl, Nat.le_of_ble_eq_true rfl⟩ ⟨Nat.le_of_ble_eq_true rfl, Nat.le_of_ble_eq_true rfl⟩) (fun H locs ws_28 h u_29 p_30 => ?_)
          refine lv_aload_n C0.1 C0.2.1 dX5_both_32 rfl (lv_at hl 1 rfl) ?_
          refine tg_X5_law C0 h kSC_77 q_380 dX5_both_33 (fun i_31 hi_31 => ?_)
          refine y_c3 (n := 2006) C0 (by decide) dX5_both_36 (fun v_32 e_33 => ?_)
          refine y_cv h (y_rV (As := [.int v_32]) (rest := []) C0 hZ h (c_X4_add l G Z ad _ h.2 i_31 hi_31 v_32) k_X4_add q_827 q_828 q_826 hi_31 rfl rfl rfl hl.1 rfl rfl (Nat.le_of_ble_eq_true rfl) dX5_both_39 ⟨Nat.le_of_ble_eq_true rfl, Nat.le_of_ble_eq_true rfl⟩ ⟨Nat.le_of_ble_eq_true rfl, Nat.le_of_ble_eq_true rfl⟩) (fun H locs ws_34 h u_35 p_36 => ?_)
          refine y_inc (kp := 0) (n := 1) (fun v_37 => [(2, .int v_37), (0, .ref (ad 77)), (1, .int a1)]) C0 hl rfl (by decide) (by decide) (fun _ => rfl) (o24_16 b_13 b_14 hn_12 e_16 c_17 (le_min x2_6) (le_max x2_6) (le_min v_15) (le_max v_15)) (o24_17 b_13 b_14 hn_12 e_16 c_17 (le_min x2_6) (le_max x2_6) (le_min v_15) (le_max v_15)) dX5_both_42 (fun v_37 ls e_38 hl => ?_)
          refine lv_goto (tgt := 7) C0.1 C0.2.1 dX5_both_45 (by decide) ?_
          exact ih_10 v_37 _ _ _ _ (o24_18 b_13 b_14 hn_12 e_16 c_17 e_38) (o24_19 b_13 b_14 hn_12 e_16 c_17 e_38) (o24_20 b_13 b_14 hn_12 e_16 c_17 e_38) h (Fr.tr (Fr.tr (Fr.tr (Fr.tr hF_8 (Fr.mono u_19 (by decide))) (Fr.mono u_26 (by decide))) u_29) (Fr.mono u_35 (by decide))) (lv_sub hl [0, 1, 2] rfl)
  exact lp_9 ((900 - v_4.toInt + 1).toNat) v_4 _ _ _ _ (o24_21 e_5) (o24_22 e_5) (o24_23 e_5) h Fr.rf (lv_sub hl [0, 1, 2] rfl)
set_option maxHeartbeats 4000000 in
set_option maxRecDepth 100000 in
theorem c_X5_truth_1 (l : Launch) (G : GG) (Z : RZ) (ad : Nat → Nat) (ws0 : va_W) (hT : Ty G (SC tt) ad ws0) (a1 : Int32) (l1 : 1 ≤ a1.toInt) (u1 : a1.toInt ≤ 1) : Mq l yX5_truth cX5_truth 3 none 26 G Z [.ref (ad 77), .int a1] ws0 (PV G (SC tt) ad [2, 3, 16] ws0 (fun u => True)) := by
  refine Mq.start (by decide) (Nat.le_of_ble_eq_true rfl) ?_
  intro p e s m below meth c A ls C0 hZ h hl
  have hl : lv_has ls 3 [(0, .ref (ad 77)), (1, .int a1)] := hl
  have h : Wt G (SC tt) ad A s s.heap [] ws0 := ⟨h, hT⟩
  obtain ⟨args, hargs⟩ : ∃ z, z = ([.ref (ad 77), .int a1] : List Value).toArray := ⟨_, rfl⟩
  rw [← hargs] at C0 ⊢
  have C0 : Cx p s m args meth c RX5 cX5_truth 3 none := C0
  obtain ⟨Q, hQ⟩ : ∃ z, z = MQ below ((PV G (SC tt) ad [2, 3, 16] ws0 (fun u => True)) A) args s 0 0 A := ⟨_, rfl⟩
  rw [← hQ]
  refine lv_aload_n C0.1 C0.2.1 dX5_truth_0 rfl (lv_at hl 0 rfl) ?_
  refine lv_iload_n C0.1 C0.2.1 dX5_truth_1 rfl (lv_at hl 1 rfl) ?_
  refine y_cv h (y_rV (As := [.int a1]) (rest := []) C0 hZ h (c_X5_both_1 l G Z ad _ h.2 a1 (o24_65 l1 u1) (o24_66 l1 u1)) k_X5_both q_847 q_20 q_845 kSC_77 rfl rfl rfl hl.1 rfl rfl (Nat.le_of_ble_eq_true rfl) dX5_truth_2 ⟨Nat.le_of_ble_eq_true rfl, Nat.le_of_ble_eq_true rfl⟩ ⟨Nat.le_of_ble_eq_true rfl, Nat.le_of_ble_eq_true rfl⟩) (fun H locs ws_1 h u_2 p_3 => ?_)
  refine y_c1 (n := 0) C0 (by decide) dX5_truth_5 (fun v_4 e_5 => ?_)
  refine lv_istore_n (lv' := [(2, .int v_4), (0, .ref (ad 77)), (1, .int a1)]) C0.1 C0.2.1 dX5_truth_6 rfl hl (by decide) rfl (fun ls hl => ?_)
  have lp_9 : ∀ (n_11 : Nat) (x2_6 : Int32) (H : Heap) (locs : List Loc) (ls : Array Slot) (ws_7 : va_W), 900 - x2_6.toInt < (n_11 : Int) → 0 ≤ x2_6.toInt → x2_6.toInt ≤ 900 → Wt G (SC tt) ad A s H locs ws_7 → Fr (SC tt) [2, 3, 16] ws_1 ws_7 → lv_has ls 3 [(2, .int x2_6), (0, .ref (ad 77)), (1, .int a1)] → W p l e (rmd 26 0 0) s m args below meth c H locs 0 0 Q (F0 m 7 ls []) := by
    intro n_11
    induction n_11 with
    | zero => intro x2_6 H locs ls ws_7 hn_12 b_13 b_14 h hF_8 hl; exact ((o24_15 b_13 b_14 hn_12)).elim
    | succ n_11 ih_10 =>
      intro x2_6 H locs ls ws_7 hn_12 b_13 b_14 h hF_8 hl
      refine lv_iload_n C0.1 C0.2.1 dX5_truth_7 rfl (lv_at hl 0 rfl) ?_
      refine y_c3 (n := 900) C0 (by decide) dX5_truth_8 (fun v_15 e_16 => ?_)
      refine y_icmp_ge (tgt := 48) C0 dX5_truth_11 (by decide) (fun c_17 => ?_) (fun c_17 => ?_)
      · -- 11
        rw [hQ]
        exact y_vret C0 h (Fr.tr u_2 hF_8) trivial dX5_truth_48
      · -- 11
        refine lv_aload_n C0.1 C0.2.1 dX5_truth_14 rfl (lv_at hl 1 rfl) ?_
        refine va_ldcS C0.1 C0.2.1 C0.2.2.2.1 (sr_21 hZ) dX5_truth_15 ?_
        refine y_ci h (y_rV (As := [.ref (Z.2.1 21)]) (rest := []) C0 hZ h (c_X5_isWord l G Z ad _ h.2 21 (by decide)) k_X5_isWord q_724 q_5 q_722 kSC_77 rfl rfl rfl hl.1 rfl rfl (Nat.le_of_ble_eq_true rfl) dX5_truth_17 ⟨Nat.le_of_ble_eq_true rfl, Nat.le_of_ble_eq_true rfl⟩ ⟨Nat.le_of_ble_eq_true rfl, Nat.le_of_ble_eq_true rfl⟩) (fun r_21 H locs ws_18 h u_19 p_20 => ?_)
        obtain ⟨e_22, e_23⟩ := p_20
        refine y_if_eq (tgt := 48) C0 dX5_truth_20 (by decide) (fun c_24 => ?_) (fun c_24 => ?_)
        · -- 20
          rw [hQ]
          exact y_vret C0 h (Fr.tr (Fr.tr u_2 hF_8) (Fr.mono u_19 (by decide))) trivial dX5_truth_48
        · -- 20
          refine lv_aload_n C0.1 C0.2.1 dX5_truth_23 rfl (lv_at hl 1 rfl) ?_
          refine y_cv h (y_rV (As := []) (rest := []) C0 hZ h (c_X5_advance l G Z ad _ h.2) k_X5_advance q_616 q_0 q_614 kSC_77 rfl rfl rfl hl.1 rfl rfl (Nat.le_of_ble_eq_true rfl) dX5_truth_24 ⟨Nat.le_of_ble_eq_true rfl, Nat.le_of_ble_eq_true rfl⟩ ⟨Nat.le_of_ble_eq_true rfl, Nat.le_of_ble_eq_true rfl⟩) (fun H locs ws_25 h u_26 p_27 => ?_)
          refine lv_aload_n C0.1 C0.2.1 dX5_truth_27 rfl (lv_at hl 1 rfl) ?_
          refine lv_iload_n C0.1 C0.2.1 dX5_truth_28 rfl (lv_at hl 2 rfl) ?_
          refine y_cv h (y_rV (As := [.int a1]) (rest := []) C0 hZ h (c_X5_both_1 l G Z ad _ h.2 a1 (o24_65 l1 u1) (o24_66 l1 u1)) k_X5_both q_847 q_20 q_845 kSC_77 rfl rfl rfl hl.1 rfl rfl (Nat.le_of_ble_eq_true rfl) dX5_truth_29 ⟨Nat.le_of_ble_eq_true rfl, Nat.le_of_ble_eq_true rfl⟩ ⟨Nat.le_of_ble_eq_true rfl, Nat.le_of_ble_eq_true rfl⟩) (fun H locs ws_28 h u_29 p_30 => ?_)
          refine lv_aload_n C0.1 C0.2.1 dX5_truth_32 rfl (lv_at hl 1 rfl) ?_
          refine tg_X5_law C0 h kSC_77 q_380 dX5_truth_33 (fun i_31 hi_31 => ?_)
          refine y_c3 (n := 2007) C0 (by decide) dX5_truth_36 (fun v_32 e_33 => ?_)
          refine y_cv h (y_rV (As := [.int v_32]) (rest := []) C0 hZ h (c_X4_add l G Z ad _ h.2 i_31 hi_31 v_32) k_X4_add q_827 q_828 q_826 hi_31 rfl rfl rfl hl.1 rfl rfl (Nat.le_of_ble_eq_true rfl) dX5_truth_39 ⟨Nat.le_of_ble_eq_true rfl, Nat.le_of_ble_eq_true rfl⟩ ⟨Nat.le_of_ble_eq_true rfl, Nat.le_of_ble_eq_true rfl⟩) (fun H locs ws_34 h u_35 p_36 => ?_)
          refine y_inc (kp := 0) (n := 1) (fun v_37 => [(2, .int v_37), (0, .ref (ad 77)), (1, .int a1)]) C0 hl rfl (by decide) (by decide) (fun _ => rfl) (o24_16 b_13 b_14 hn_12 e_16 c_17 (le_min x2_6) (le_max x2_6) (le_min v_15) (le_max v_15)) (o24_17 b_13 b_14 hn_12 e_16 c_17 (le_min x2_6) (le_max x2_6) (le_min v_15) (le_max v_15)) dX5_truth_42 (fun v_37 ls e_38 hl => ?_)
          refine lv_goto (tgt := 7) C0.1 C0.2.1 dX5_truth_45 (by decide) ?_
          exact ih_10 v_37 _ _ _ _ (o24_18 b_13 b_14 hn_12 e_16 c_17 e_38) (o24_19 b_13 b_14 hn_12 e_16 c_17 e_38) (o24_20 b_13 b_14 hn_12 e_16 c_17 e_38) h (Fr.tr (Fr.tr (Fr.tr (Fr.tr hF_8 (Fr.mono u_19 (by decide))) (Fr.mono u_26 (by decide))) u_29) (Fr.mono u_35 (by decide))) (lv_sub hl [0, 1, 2] rfl)
  exact lp_9 ((900 - v_4.toInt + 1).toNat) v_4 _ _ _ _ (o24_21 e_5) (o24_22 e_5) (o24_23 e_5) h Fr.rf (lv_sub hl [0, 1, 2] rfl)
set_option maxHeartbeats 4000000 in
set_option maxRecDepth 100000 in
theorem c_X5_tooDeep_0 (l : Launch) (G : GG) (Z : RZ) (ad : Nat → Nat) (ws0 : va_W) (hT : Ty G (SC tt) ad ws0) (a1 : Int32) (l1 : 0 ≤ a1.toInt) (u1 : a1.toInt ≤ 0) : Mq l yX5_tooDeep cX5_tooDeep 2 (some .boolean) 1 G Z [.ref (ad 77), .int a1] ws0 (PI G (SC tt) ad [] ws0 (fun r u => (0 ≤ r.toInt) ∧ (r.toInt ≤ 0))) := by
  refine Mq.start (by decide) (Nat.le_of_ble_eq_true rfl) ?_
  intro p e s m below meth c A ls C0 hZ h hl
  have hl : lv_has ls 2 [(0, .ref (ad 77)), (1, .int a1)] := hl
  have h : Wt G (SC tt) ad A s s.heap [] ws0 := ⟨h, hT⟩
  obtain ⟨args, hargs⟩ : ∃ z, z = ([.ref (ad 77), .int a1] : List Value).toArray := ⟨_, rfl⟩
  rw [← hargs] at C0 ⊢
  have C0 : Cx p s m args meth c RX5 cX5_tooDeep 2 (some .boolean) := C0
  obtain ⟨Q, hQ⟩ : ∃ z, z = MQ below ((PI G (SC tt) ad [] ws0 (fun r u => (0 ≤ r.toInt) ∧ (r.toInt ≤ 0))) A) args s 0 0 A := ⟨_, rfl⟩
  rw [← hQ]
  refine lv_iload_n C0.1 C0.2.1 dX5_tooDeep_0 rfl (lv_at hl 1 rfl) ?_
  refine y_c2 (n := 6) C0 (by decide) dX5_tooDeep_1 (fun v_1 e_2 => ?_)
  refine y_icmp_lt (tgt := 13) C0 dX5_tooDeep_3 (by decide) (fun c_3 => ?_) (fun c_3 => ((o24_71 l1 u1 e_2 c_3)).elim)
  refine y_c1 (n := 0) C0 (by decide) dX5_tooDeep_13 (fun v_4 e_5 => ?_)
  rw [hQ]
  exact y_zret C0 h (o24_22 e_5) (o24_31 e_5) Fr.rf ⟨(o24_22 e_5), (o24_30 e_5)⟩ dX5_tooDeep_14
set_option maxHeartbeats 4000000 in
set_option maxRecDepth 100000 in
theorem c_X5_atom_0 (l : Launch) (G : GG) (Z : RZ) (ad : Nat → Nat) (ws0 : va_W) (hT : Ty G (SC tt) ad ws0) (a1 : Int32) (l1 : 0 ≤ a1.toInt) (u1 : a1.toInt ≤ 0) : Mq l yX5_atom cX5_atom 3 none 24 G Z [.ref (ad 77), .int a1] ws0 (PV G (SC tt) ad [2, 3, 16] ws0 (fun u => True)) := by
  refine Mq.start (by decide) (Nat.le_of_ble_eq_true rfl) ?_
  intro p e s m below meth c A ls C0 hZ h hl
  have hl : lv_has ls 3 [(0, .ref (ad 77)), (1, .int a1)] := hl
  have h : Wt G (SC tt) ad A s s.heap [] ws0 := ⟨h, hT⟩
  obtain ⟨args, hargs⟩ : ∃ z, z = ([.ref (ad 77), .int a1] : List Value).toArray := ⟨_, rfl⟩
  rw [← hargs] at C0 ⊢
  have C0 : Cx p s m args meth c RX5 cX5_atom 3 none := C0
  obtain ⟨Q, hQ⟩ : ∃ z, z = MQ below ((PV G (SC tt) ad [2, 3, 16] ws0 (fun u => True)) A) args s 0 0 A := ⟨_, rfl⟩
  rw [← hQ]
  refine lv_aload_n C0.1 C0.2.1 dX5_atom_0 rfl (lv_at hl 0 rfl) ?_
  refine tg_X5_kind C0 h kSC_77 q_374 dX5_atom_1 (fun v_1 e_2 e_3 e_4 => ?_)
  refine y_c1 (n := 2) C0 (by decide) dX5_atom_4 (fun v_5 e_6 => ?_)
  refine y_icmp_ne (tgt := 26) C0 dX5_atom_5 (by decide) (fun c_7 => ?_) (fun c_7 => ?_)
  · -- 5
    refine lv_aload_n C0.1 C0.2.1 dX5_atom_26 rfl (lv_at hl 0 rfl) ?_
    refine tg_X5_kind C0 h kSC_77 q_374 dX5_atom_27 (fun v_8 e_9 e_10 e_11 => ?_)
    have q_12 : v_8.toInt = v_1.toInt := congrArg Int32.toInt (e_9.symm.trans (Eq.trans rfl e_2))
    refine y_c2 (n := 40) C0 (by decide) dX5_atom_30 (fun v_13 e_14 => ?_)
    refine y_icmp_ne (tgt := 63) C0 dX5_atom_32 (by decide) (fun c_15 => ?_) (fun c_15 => ?_)
    · -- 32
      refine lv_aload_n C0.1 C0.2.1 dX5_atom_63 rfl (lv_at hl 0 rfl) ?_
      refine va_ldcS C0.1 C0.2.1 C0.2.2.2.1 (sr_12 hZ) dX5_atom_64 ?_
      refine y_ci h (y_rV (As := [.ref (Z.2.1 12)]) (rest := []) C0 hZ h (c_X5_isWord l G Z ad _ h.2 12 (by decide)) k_X5_isWord q_724 q_5 q_722 kSC_77 rfl rfl rfl hl.1 rfl rfl (Nat.le_of_ble_eq_true rfl) dX5_atom_66 ⟨Nat.le_of_ble_eq_true rfl, Nat.le_of_ble_eq_true rfl⟩ ⟨Nat.le_of_ble_eq_true rfl, Nat.le_of_ble_eq_true rfl⟩) (fun r_19 H locs ws_16 h u_17 p_18 => ?_)
      obtain ⟨e_20, e_21⟩ := p_18
      refine y_if_eq (tgt := 78) C0 dX5_atom_69 (by decide) (fun c_22 => ?_) (fun c_22 => ?_)
      · -- 69
        refine lv_aload_n C0.1 C0.2.1 dX5_atom_78 rfl (lv_at hl 0 rfl) ?_
        refine va_ldcS C0.1 C0.2.1 C0.2.2.2.1 (sr_13 hZ) dX5_atom_79 ?_
        refine y_ci h (y_rV (As := [.ref (Z.2.1 13)]) (rest := []) C0 hZ h (c_X5_isWord l G Z ad _ h.2 13 (by decide)) k_X5_isWord q_724 q_5 q_722 kSC_77 rfl rfl rfl hl.1 rfl rfl (Nat.le_of_ble_eq_true rfl) dX5_atom_81 ⟨Nat.le_of_ble_eq_true rfl, Nat.le_of_ble_eq_true rfl⟩ ⟨Nat.le_of_ble_eq_true rfl, Nat.le_of_ble_eq_true rfl⟩) (fun r_26 H locs ws_23 h u_24 p_25 => ?_)
        obtain ⟨e_27, e_28⟩ := p_25
        refine y_if_eq (tgt := 93) C0 dX5_atom_84 (by decide) (fun c_29 => ?_) (fun c_29 => ?_)
        · -- 84
          refine lv_aload_n C0.1 C0.2.1 dX5_atom_93 rfl (lv_at hl 0 rfl) ?_
          refine va_ldcS C0.1 C0.2.1 C0.2.2.2.1 (sr_14 hZ) dX5_atom_94 ?_
          refine y_ci h (y_rV (As := [.ref (Z.2.1 14)]) (rest := []) C0 hZ h (c_X5_isWord l G Z ad _ h.2 14 (by decide)) k_X5_isWord q_724 q_5 q_722 kSC_77 rfl rfl rfl hl.1 rfl rfl (Nat.le_of_ble_eq_true rfl) dX5_atom_96 ⟨Nat.le_of_ble_eq_true rfl, Nat.le_of_ble_eq_true rfl⟩ ⟨Nat.le_of_ble_eq_true rfl, Nat.le_of_ble_eq_true rfl⟩) (fun r_33 H locs ws_30 h u_31 p_32 => ?_)
          obtain ⟨e_34, e_35⟩ := p_32
          refine y_if_eq (tgt := 108) C0 dX5_atom_99 (by decide) (fun c_36 => ?_) (fun c_36 => ?_)
          · -- 99
            refine lv_aload_n C0.1 C0.2.1 dX5_atom_108 rfl (lv_at hl 0 rfl) ?_
            refine va_ldcS C0.1 C0.2.1 C0.2.2.2.1 (sr_15 hZ) dX5_atom_109 ?_
            refine y_ci h (y_rV (As := [.ref (Z.2.1 15)]) (rest := []) C0 hZ h (c_X5_isWord l G Z ad _ h.2 15 (by decide)) k_X5_isWord q_724 q_5 q_722 kSC_77 rfl rfl rfl hl.1 rfl rfl (Nat.le_of_ble_eq_true rfl) dX5_atom_111 ⟨Nat.le_of_ble_eq_true rfl, Nat.le_of_ble_eq_true rfl⟩ ⟨Nat.le_of_ble_eq_true rfl, Nat.le_of_ble_eq_true rfl⟩) (fun r_40 H locs ws_37 h u_38 p_39 => ?_)
            obtain ⟨e_41, e_42⟩ := p_39
            refine y_if_eq (tgt := 123) C0 dX5_atom_114 (by decide) (fun c_43 => ?_) (fun c_43 => ?_)
            · -- 114
              refine lv_aload_n C0.1 C0.2.1 dX5_atom_123 rfl (lv_at hl 0 rfl) ?_
              refine va_ldcS C0.1 C0.2.1 C0.2.2.2.1 (sr_16 hZ) dX5_atom_124 ?_
              refine y_ci h (y_rV (As := [.ref (Z.2.1 16)]) (rest := []) C0 hZ h (c_X5_isWord l G Z ad _ h.2 16 (by decide)) k_X5_isWord q_724 q_5 q_722 kSC_77 rfl rfl rfl hl.1 rfl rfl (Nat.le_of_ble_eq_true rfl) dX5_atom_126 ⟨Nat.le_of_ble_eq_true rfl, Nat.le_of_ble_eq_true rfl⟩ ⟨Nat.le_of_ble_eq_true rfl, Nat.le_of_ble_eq_true rfl⟩) (fun r_47 H locs ws_44 h u_45 p_46 => ?_)
              obtain ⟨e_48, e_49⟩ := p_46
              refine y_if_eq (tgt := 138) C0 dX5_atom_129 (by decide) (fun c_50 => ?_) (fun c_50 => ?_)
              · -- 129
                refine lv_aload_n C0.1 C0.2.1 dX5_atom_138 rfl (lv_at hl 0 rfl) ?_
                refine va_ldcS C0.1 C0.2.1 C0.2.2.2.1 (sr_17 hZ) dX5_atom_139 ?_
                refine y_ci h (y_rV (As := [.ref (Z.2.1 17)]) (rest := []) C0 hZ h (c_X5_isWord l G Z ad _ h.2 17 (by decide)) k_X5_isWord q_724 q_5 q_722 kSC_77 rfl rfl rfl hl.1 rfl rfl (Nat.le_of_ble_eq_true rfl) dX5_atom_141 ⟨Nat.le_of_ble_eq_true rfl, Nat.le_of_ble_eq_true rfl⟩ ⟨Nat.le_of_ble_eq_true rfl, Nat.le_of_ble_eq_true rfl⟩) (fun r_54 H locs ws_51 h u_52 p_53 => ?_)
                obtain ⟨e_55, e_56⟩ := p_53
                refine y_if_eq (tgt := 153) C0 dX5_atom_144 (by decide) (fun c_57 => ?_) (fun c_57 => ?_)
                · -- 144
                  refine y_c1 (n := (-1)) C0 (by decide) dX5_atom_153 (fun v_58 e_59 => ?_)
                  refine lv_istore_n (lv' := [(2, .int v_58), (0, .ref (ad 77)), (1, .int a1)]) C0.1 C0.2.1 dX5_atom_154 rfl hl (by decide) rfl (fun ls hl => ?_)
                  refine lv_iload_n C0.1 C0.2.1 dX5_atom_155 rfl (lv_at hl 0 rfl) ?_
                  refine y_if_ge (tgt := 165) C0 dX5_atom_156 (by decide) (fun c_60 => ((o24_5 e_59 c_60)).elim) (fun c_60 => ?_)
                  refine lv_aload_n C0.1 C0.2.1 dX5_atom_159 rfl (lv_at hl 1 rfl) ?_
                  refine y_c1 (n := 2) C0 (by decide) dX5_atom_160 (fun v_61 e_62 => ?_)
                  refine y_cv h (y_rV (As := [.int v_61]) (rest := []) C0 hZ h (c_X5_fail l G Z ad _ h.2 v_61) k_X5_fail q_628 q_3 q_626 kSC_77 rfl rfl rfl hl.1 rfl rfl (Nat.le_of_ble_eq_true rfl) dX5_atom_161 ⟨Nat.le_of_ble_eq_true rfl, Nat.le_of_ble_eq_true rfl⟩ ⟨Nat.le_of_ble_eq_true rfl, Nat.le_of_ble_eq_true rfl⟩) (fun H locs ws_63 h u_64 p_65 => ?_)
                  rw [hQ]
                  exact y_vret C0 h (Fr.tr (Fr.tr (Fr.tr (Fr.tr (Fr.tr (Fr.tr (Fr.mono u_17 (by decide)) (Fr.mono u_24 (by decide))) (Fr.mono u_31 (by decide))) (Fr.mono u_38 (by decide))) (Fr.mono u_45 (by decide))) (Fr.mono u_52 (by decide))) (Fr.mono u_64 (by decide))) trivial dX5_atom_164
                · -- 144
                  refine y_c3 (n := 1005) C0 (by decide) dX5_atom_147 (fun v_66 e_67 => ?_)
                  refine lv_goto (tgt := 154) C0.1 C0.2.1 dX5_atom_150 (by decide) ?_
                  refine lv_istore_n (lv' := [(2, .int v_66), (0, .ref (ad 77)), (1, .int a1)]) C0.1 C0.2.1 dX5_atom_154 rfl hl (by decide) rfl (fun ls hl => ?_)
                  refine lv_iload_n C0.1 C0.2.1 dX5_atom_155 rfl (lv_at hl 0 rfl) ?_
                  refine y_if_ge (tgt := 165) C0 dX5_atom_156 (by decide) (fun c_68 => ?_) (fun c_68 => ((o24_6 e_67 c_68)).elim)
                  refine lv_aload_n C0.1 C0.2.1 dX5_atom_165 rfl (lv_at hl 1 rfl) ?_
                  refine tg_X5_law C0 h kSC_77 q_380 dX5_atom_166 (fun i_69 hi_69 => ?_)
                  refine lv_iload_n C0.1 C0.2.1 dX5_atom_169 rfl (lv_at hl 0 rfl) ?_
                  refine y_cv h (y_rV (As := [.int v_66]) (rest := []) C0 hZ h (c_X4_add l G Z ad _ h.2 i_69 hi_69 v_66) k_X4_add q_827 q_828 q_826 hi_69 rfl rfl rfl hl.1 rfl rfl (Nat.le_of_ble_eq_true rfl) dX5_atom_170 ⟨Nat.le_of_ble_eq_true rfl, Nat.le_of_ble_eq_true rfl⟩ ⟨Nat.le_of_ble_eq_true rfl, Nat.le_of_ble_eq_true rfl⟩) (fun H locs ws_70 h u_71 p_72 => ?_)
                  refine lv_aload_n C0.1 C0.2.1 dX5_atom_173 rfl (lv_at hl 1 rfl) ?_
                  refine y_cv h (y_rV (As := []) (rest := []) C0 hZ h (c_X5_advance l G Z ad _ h.2) k_X5_advance q_616 q_0 q_614 kSC_77 rfl rfl rfl hl.1 rfl rfl (Nat.le_of_ble_eq_true rfl) dX5_atom_174 ⟨Nat.le_of_ble_eq_true rfl, Nat.le_of_ble_eq_true rfl⟩ ⟨Nat.le_of_ble_eq_true rfl, Nat.le_of_ble_eq_true rfl⟩) (fun H locs ws_73 h u_74 p_75 => ?_)
                  rw [hQ]
                  exact y_vret C0 h (Fr.tr (Fr.tr (Fr.tr (Fr.tr (Fr.tr (Fr.tr (Fr.tr (Fr.mono u_17 (by decide)) (Fr.mono u_24 (by decide))) (Fr.mono u_31 (by decide))) (Fr.mono u_38 (by decide))) (Fr.mono u_45 (by decide))) (Fr.mono u_52 (by decide))) (Fr.mono u_71 (by decide))) (Fr.mono u_74 (by decide))) trivial dX5_atom_177
              · -- 129
                refine y_c3 (n := 1004) C0 (by decide) dX5_atom_132 (fun v_76 e_77 => ?_)
                refine lv_goto (tgt := 154) C0.1 C0.2.1 dX5_atom_135 (by decide) ?_
                refine lv_istore_n (lv' := [(2, .int v_76), (0, .ref (ad 77)), (1, .int a1)]) C0.1 C0.2.1 dX5_atom_154 rfl hl (by decide) rfl (fun ls hl => ?_)
                refine lv_iload_n C0.1 C0.2.1 dX5_atom_155 rfl (lv_at hl 0 rfl) ?_
                refine y_if_ge (tgt := 165) C0 dX5_atom_156 (by decide) (fun c_78 => ?_) (fun c_78 => ((o24_7 e_77 c_78)).elim)
                refine lv_aload_n C0.1 C0.2.1 dX5_atom_165 rfl (lv_at hl 1 rfl) ?_
                refine tg_X5_law C0 h kSC_77 q_380 dX5_atom_166 (fun i_79 hi_79 => ?_)
                refine lv_iload_n C0.1 C0.2.1 dX5_atom_169 rfl (lv_at hl 0 rfl) ?_
                refine y_cv h (y_rV (As := [.int v_76]) (rest := []) C0 hZ h (c_X4_add l G Z ad _ h.2 i_79 hi_79 v_76) k_X4_add q_827 q_828 q_826 hi_79 rfl rfl rfl hl.1 rfl rfl (Nat.le_of_ble_eq_true rfl) dX5_atom_170 ⟨Nat.le_of_ble_eq_true rfl, Nat.le_of_ble_eq_true rfl⟩ ⟨Nat.le_of_ble_eq_true rfl, Nat.le_of_ble_eq_true rfl⟩) (fun H locs ws_80 h u_81 p_82 => ?_)
                refine lv_aload_n C0.1 C0.2.1 dX5_atom_173 rfl (lv_at hl 1 rfl) ?_
                refine y_cv h (y_rV (As := []) (rest := []) C0 hZ h (c_X5_advance l G Z ad _ h.2) k_X5_advance q_616 q_0 q_614 kSC_77 rfl rfl rfl hl.1 rfl rfl (Nat.le_of_ble_eq_true rfl) dX5_atom_174 ⟨Nat.le_of_ble_eq_true rfl, Nat.le_of_ble_eq_true rfl⟩ ⟨Nat.le_of_ble_eq_true rfl, Nat.le_of_ble_eq_true rfl⟩) (fun H locs ws_83 h u_84 p_85 => ?_)
                rw [hQ]
                exact y_vret C0 h (Fr.tr (Fr.tr (Fr.tr (Fr.tr (Fr.tr (Fr.tr (Fr.mono u_17 (by decide)) (Fr.mono u_24 (by decide))) (Fr.mono u_31 (by decide))) (Fr.mono u_38 (by decide))) (Fr.mono u_45 (by decide))) (Fr.mono u_81 (by decide))) (Fr.mono u_84 (by decide))) trivial dX5_atom_177
            · -- 114
              refine y_c3 (n := 1003) C0 (by decide) dX5_atom_117 (fun v_86 e_87 => ?_)
              refine lv_goto (tgt := 154) C0.1 C0.2.1 dX5_atom_120 (by decide) ?_
              refine lv_istore_n (lv' := [(2, .int v_86), (0, .ref (ad 77)), (1, .int a1)]) C0.1 C0.2.1 dX5_atom_154 rfl hl (by decide) rfl (fun ls hl => ?_)
              refine lv_iload_n C0.1 C0.2.1 dX5_atom_155 rfl (lv_at hl 0 rfl) ?_
              refine y_if_ge (tgt := 165) C0 dX5_atom_156 (by decide) (fun c_88 => ?_) (fun c_88 => ((o24_8 e_87 c_88)).elim)
              refine lv_aload_n C0.1 C0.2.1 dX5_atom_165 rfl (lv_at hl 1 rfl) ?_
              refine tg_X5_law C0 h kSC_77 q_380 dX5_atom_166 (fun i_89 hi_89 => ?_)
              refine lv_iload_n C0.1 C0.2.1 dX5_atom_169 rfl (lv_at hl 0 rfl) ?_
              refine y_cv h (y_rV (As := [.int v_86]) (rest := []) C0 hZ h (c_X4_add l G Z ad _ h.2 i_89 hi_89 v_86) k_X4_add q_827 q_828 q_826 hi_89 rfl rfl rfl hl.1 rfl rfl (Nat.le_of_ble_eq_true rfl) dX5_atom_170 ⟨Nat.le_of_ble_eq_true rfl, Nat.le_of_ble_eq_true rfl⟩ ⟨Nat.le_of_ble_eq_true rfl, Nat.le_of_ble_eq_true rfl⟩) (fun H locs ws_90 h u_91 p_92 => ?_)
              refine lv_aload_n C0.1 C0.2.1 dX5_atom_173 rfl (lv_at hl 1 rfl) ?_
              refine y_cv h (y_rV (As := []) (rest := []) C0 hZ h (c_X5_advance l G Z ad _ h.2) k_X5_advance q_616 q_0 q_614 kSC_77 rfl rfl rfl hl.1 rfl rfl (Nat.le_of_ble_eq_true rfl) dX5_atom_174 ⟨Nat.le_of_ble_eq_true rfl, Nat.le_of_ble_eq_true rfl⟩ ⟨Nat.le_of_ble_eq_true rfl, Nat.le_of_ble_eq_true rfl⟩) (fun H locs ws_93 h u_94 p_95 => ?_)
              rw [hQ]
              exact y_vret C0 h (Fr.tr (Fr.tr (Fr.tr (Fr.tr (Fr.tr (Fr.mono u_17 (by decide)) (Fr.mono u_24 (by decide))) (Fr.mono u_31 (by decide))) (Fr.mono u_38 (by decide))) (Fr.mono u_91 (by decide))) (Fr.mono u_94 (by decide))) trivial dX5_atom_177
          · -- 99
            refine y_c3 (n := 1002) C0 (by decide) dX5_atom_102 (fun v_96 e_97 => ?_)
            refine lv_goto (tgt := 154) C0.1 C0.2.1 dX5_atom_105 (by decide) ?_
            refine lv_istore_n (lv' := [(2, .int v_96), (0, .ref (ad 77)), (1, .int a1)]) C0.1 C0.2.1 dX5_atom_154 rfl hl (by decide) rfl (fun ls hl => ?_)
            refine lv_iload_n C0.1 C0.2.1 dX5_atom_155 rfl (lv_at hl 0 rfl) ?_
            refine y_if_ge (tgt := 165) C0 dX5_atom_156 (by decide) (fun c_98 => ?_) (fun c_98 => ((o24_9 e_97 c_98)).elim)
            refine lv_aload_n C0.1 C0.2.1 dX5_atom_165 rfl (lv_at hl 1 rfl) ?_
            refine tg_X5_law C0 h kSC_77 q_380 dX5_atom_166 (fun i_99 hi_99 => ?_)
            refine lv_iload_n C0.1 C0.2.1 dX5_atom_169 rfl (lv_at hl 0 rfl) ?_
            refine y_cv h (y_rV (As := [.int v_96]) (rest := []) C0 hZ h (c_X4_add l G Z ad _ h.2 i_99 hi_99 v_96) k_X4_add q_827 q_828 q_826 hi_99 rfl rfl rfl hl.1 rfl rfl (Nat.le_of_ble_eq_true rfl) dX5_atom_170 ⟨Nat.le_of_ble_eq_true rfl, Nat.le_of_ble_eq_true rfl⟩ ⟨Nat.le_of_ble_eq_true rfl, Nat.le_of_ble_eq_true rfl⟩) (fun H locs ws_100 h u_101 p_102 => ?_)
            refine lv_aload_n C0.1 C0.2.1 dX5_atom_173 rfl (lv_at hl 1 rfl) ?_
            refine y_cv h (y_rV (As := []) (rest := []) C0 hZ h (c_X5_advance l G Z ad _ h.2) k_X5_advance q_616 q_0 q_614 kSC_77 rfl rfl rfl hl.1 rfl rfl (Nat.le_of_ble_eq_true rfl) dX5_atom_174 ⟨Nat.le_of_ble_eq_true rfl, Nat.le_of_ble_eq_true rfl⟩ ⟨Nat.le_of_ble_eq_true rfl, Nat.le_of_ble_eq_true rfl⟩) (fun H locs ws_103 h u_104 p_105 => ?_)
            rw [hQ]
            exact y_vret C0 h (Fr.tr (Fr.tr (Fr.tr (Fr.tr (Fr.mono u_17 (by decide)) (Fr.mono u_24 (by decide))) (Fr.mono u_31 (by decide))) (Fr.mono u_101 (by decide))) (Fr.mono u_104 (by decide))) trivial dX5_atom_177
        · -- 84
          refine y_c3 (n := 1001) C0 (by decide) dX5_atom_87 (fun v_106 e_107 => ?_)
          refine lv_goto (tgt := 154) C0.1 C0.2.1 dX5_atom_90 (by decide) ?_
          refine lv_istore_n (lv' := [(2, .int v_106), (0, .ref (ad 77)), (1, .int a1)]) C0.1 C0.2.1 dX5_atom_154 rfl hl (by decide) rfl (fun ls hl => ?_)
          refine lv_iload_n C0.1 C0.2.1 dX5_atom_155 rfl (lv_at hl 0 rfl) ?_
          refine y_if_ge (tgt := 165) C0 dX5_atom_156 (by decide) (fun c_108 => ?_) (fun c_108 => ((o24_10 e_107 c_108)).elim)
          refine lv_aload_n C0.1 C0.2.1 dX5_atom_165 rfl (lv_at hl 1 rfl) ?_
          refine tg_X5_law C0 h kSC_77 q_380 dX5_atom_166 (fun i_109 hi_109 => ?_)
          refine lv_iload_n C0.1 C0.2.1 dX5_atom_169 rfl (lv_at hl 0 rfl) ?_
          refine y_cv h (y_rV (As := [.int v_106]) (rest := []) C0 hZ h (c_X4_add l G Z ad _ h.2 i_109 hi_109 v_106) k_X4_add q_827 q_828 q_826 hi_109 rfl rfl rfl hl.1 rfl rfl (Nat.le_of_ble_eq_true rfl) dX5_atom_170 ⟨Nat.le_of_ble_eq_true rfl, Nat.le_of_ble_eq_true rfl⟩ ⟨Nat.le_of_ble_eq_true rfl, Nat.le_of_ble_eq_true rfl⟩) (fun H locs ws_110 h u_111 p_112 => ?_)
          refine lv_aload_n C0.1 C0.2.1 dX5_atom_173 rfl (lv_at hl 1 rfl) ?_
          refine y_cv h (y_rV (As := []) (rest := []) C0 hZ h (c_X5_advance l G Z ad _ h.2) k_X5_advance q_616 q_0 q_614 kSC_77 rfl rfl rfl hl.1 rfl rfl (Nat.le_of_ble_eq_true rfl) dX5_atom_174 ⟨Nat.le_of_ble_eq_true rfl, Nat.le_of_ble_eq_true rfl⟩ ⟨Nat.le_of_ble_eq_true rfl, Nat.le_of_ble_eq_true rfl⟩) (fun H locs ws_113 h u_114 p_115 => ?_)
          rw [hQ]
          exact y_vret C0 h (Fr.tr (Fr.tr (Fr.tr (Fr.mono u_17 (by decide)) (Fr.mono u_24 (by decide))) (Fr.mono u_111 (by decide))) (Fr.mono u_114 (by decide))) trivial dX5_atom_177
      · -- 69
        refine y_c3 (n := 1000) C0 (by decide) dX5_atom_72 (fun v_116 e_117 => ?_)
        refine lv_goto (tgt := 154) C0.1 C0.2.1 dX5_atom_75 (by decide) ?_
        refine lv_istore_n (lv' := [(2, .int v_116), (0, .ref (ad 77)), (1, .int a1)]) C0.1 C0.2.1 dX5_atom_154 rfl hl (by decide) rfl (fun ls hl => ?_)
        refine lv_iload_n C0.1 C0.2.1 dX5_atom_155 rfl (lv_at hl 0 rfl) ?_
        refine y_if_ge (tgt := 165) C0 dX5_atom_156 (by decide) (fun c_118 => ?_) (fun c_118 => ((o24_11 e_117 c_118)).elim)
        refine lv_aload_n C0.1 C0.2.1 dX5_atom_165 rfl (lv_at hl 1 rfl) ?_
        refine tg_X5_law C0 h kSC_77 q_380 dX5_atom_166 (fun i_119 hi_119 => ?_)
        refine lv_iload_n C0.1 C0.2.1 dX5_atom_169 rfl (lv_at hl 0 rfl) ?_
        refine y_cv h (y_rV (As := [.int v_116]) (rest := []) C0 hZ h (c_X4_add l G Z ad _ h.2 i_119 hi_119 v_116) k_X4_add q_827 q_828 q_826 hi_119 rfl rfl rfl hl.1 rfl rfl (Nat.le_of_ble_eq_true rfl) dX5_atom_170 ⟨Nat.le_of_ble_eq_true rfl, Nat.le_of_ble_eq_true rfl⟩ ⟨Nat.le_of_ble_eq_true rfl, Nat.le_of_ble_eq_true rfl⟩) (fun H locs ws_120 h u_121 p_122 => ?_)
        refine lv_aload_n C0.1 C0.2.1 dX5_atom_173 rfl (lv_at hl 1 rfl) ?_
        refine y_cv h (y_rV (As := []) (rest := []) C0 hZ h (c_X5_advance l G Z ad _ h.2) k_X5_advance q_616 q_0 q_614 kSC_77 rfl rfl rfl hl.1 rfl rfl (Nat.le_of_ble_eq_true rfl) dX5_atom_174 ⟨Nat.le_of_ble_eq_true rfl, Nat.le_of_ble_eq_true rfl⟩ ⟨Nat.le_of_ble_eq_true rfl, Nat.le_of_ble_eq_true rfl⟩) (fun H locs ws_123 h u_124 p_125 => ?_)
        rw [hQ]
        exact y_vret C0 h (Fr.tr (Fr.tr (Fr.mono u_17 (by decide)) (Fr.mono u_121 (by decide))) (Fr.mono u_124 (by decide))) trivial dX5_atom_177
    · -- 32
      refine lv_aload_n C0.1 C0.2.1 dX5_atom_35 rfl (lv_at hl 0 rfl) ?_
      refine lv_iload_n C0.1 C0.2.1 dX5_atom_36 rfl (lv_at hl 1 rfl) ?_
      refine y_ci h (y_rV (As := [.int a1]) (rest := []) C0 hZ h (c_X5_tooDeep_0 l G Z ad _ h.2 a1 (o24_72 l1 u1) (o24_73 l1 u1)) k_X5_tooDeep q_832 q_18 q_830 kSC_77 rfl rfl rfl hl.1 rfl rfl (Nat.le_of_ble_eq_true rfl) dX5_atom_37 ⟨Nat.le_of_ble_eq_true rfl, Nat.le_of_ble_eq_true rfl⟩ ⟨Nat.le_of_ble_eq_true rfl, Nat.le_of_ble_eq_true rfl⟩) (fun r_129 H locs ws_126 h u_127 p_128 => ?_)
      obtain ⟨e_130, e_131⟩ := p_128
      refine y_if_ne (tgt := 177) C0 dX5_atom_40 (by decide) (fun c_132 => ((o24_34 e_130 e_131 c_132)).elim) (fun c_132 => ?_)
      refine lv_aload_n C0.1 C0.2.1 dX5_atom_43 rfl (lv_at hl 0 rfl) ?_
      refine y_cv h (y_rV (As := []) (rest := []) C0 hZ h (c_X5_advance l G Z ad _ h.2) k_X5_advance q_616 q_0 q_614 kSC_77 rfl rfl rfl hl.1 rfl rfl (Nat.le_of_ble_eq_true rfl) dX5_atom_44 ⟨Nat.le_of_ble_eq_true rfl, Nat.le_of_ble_eq_true rfl⟩ ⟨Nat.le_of_ble_eq_true rfl, Nat.le_of_ble_eq_true rfl⟩) (fun H locs ws_133 h u_134 p_135 => ?_)
      refine lv_aload_n C0.1 C0.2.1 dX5_atom_47 rfl (lv_at hl 0 rfl) ?_
      refine lv_iload_n C0.1 C0.2.1 dX5_atom_48 rfl (lv_at hl 1 rfl) ?_
      refine y_c1 (n := 1) C0 (by decide) dX5_atom_49 (fun v_136 e_137 => ?_)
      refine y_add C0 (o24_74 l1 u1 e_137 (le_min a1) (le_max a1) (le_min v_136) (le_max v_136)) (o24_75 l1 u1 e_137 (le_min a1) (le_max a1) (le_min v_136) (le_max v_136)) dX5_atom_50 (fun v_138 e_139 => ?_)
      refine y_cv h (y_rV (As := [.int v_138]) (rest := []) C0 hZ h (c_X5_sum_1 l G Z ad _ h.2 v_138 (o24_76 l1 u1 e_137 e_139) (o24_77 l1 u1 e_137 e_139)) k_X5_sum q_816 q_15 q_814 kSC_77 rfl rfl rfl hl.1 rfl rfl (Nat.le_of_ble_eq_true rfl) dX5_atom_51 ⟨Nat.le_of_ble_eq_true rfl, Nat.le_of_ble_eq_true rfl⟩ ⟨Nat.le_of_ble_eq_true rfl, Nat.le_of_ble_eq_true rfl⟩) (fun H locs ws_140 h u_141 p_142 => ?_)
      refine lv_aload_n C0.1 C0.2.1 dX5_atom_54 rfl (lv_at hl 0 rfl) ?_
      refine y_c2 (n := 41) C0 (by decide) dX5_atom_55 (fun v_143 e_144 => ?_)
      refine y_cv h (y_rV (As := [.int v_143]) (rest := []) C0 hZ h (c_X5_sign l G Z ad _ h.2 v_143 (o24_39 e_144) (o24_40 e_144)) k_X5_sign q_812 q_14 q_810 kSC_77 rfl rfl rfl hl.1 rfl rfl (Nat.le_of_ble_eq_true rfl) dX5_atom_57 ⟨Nat.le_of_ble_eq_true rfl, Nat.le_of_ble_eq_true rfl⟩ ⟨Nat.le_of_ble_eq_true rfl, Nat.le_of_ble_eq_true rfl⟩) (fun H locs ws_145 h u_146 p_147 => ?_)
      refine lv_goto (tgt := 177) C0.1 C0.2.1 dX5_atom_60 (by decide) ?_
      rw [hQ]
      exact y_vret C0 h (Fr.tr (Fr.tr (Fr.tr (Fr.mono u_127 (by decide)) (Fr.mono u_134 (by decide))) u_141) (Fr.mono u_146 (by decide))) trivial dX5_atom_177
  · -- 5
    refine lv_aload_n C0.1 C0.2.1 dX5_atom_8 rfl (lv_at hl 0 rfl) ?_
    refine tg_X5_law C0 h kSC_77 q_380 dX5_atom_9 (fun i_148 hi_148 => ?_)
    refine lv_aload_n C0.1 C0.2.1 dX5_atom_12 rfl (lv_at hl 0 rfl) ?_
    refine tg_X5_number C0 h kSC_77 q_377 dX5_atom_13 (fun v_149 e_150 e_151 e_152 => ?_)
    refine y_cv h (y_rV (As := [.int v_149]) (rest := []) C0 hZ h (c_X4_add l G Z ad _ h.2 i_148 hi_148 v_149) k_X4_add q_827 q_828 q_826 hi_148 rfl rfl rfl hl.1 rfl rfl (Nat.le_of_ble_eq_true rfl) dX5_atom_16 ⟨Nat.le_of_ble_eq_true rfl, Nat.le_of_ble_eq_true rfl⟩ ⟨Nat.le_of_ble_eq_true rfl, Nat.le_of_ble_eq_true rfl⟩) (fun H locs ws_153 h u_154 p_155 => ?_)
    refine lv_aload_n C0.1 C0.2.1 dX5_atom_19 rfl (lv_at hl 0 rfl) ?_
    refine y_cv h (y_rV (As := []) (rest := []) C0 hZ h (c_X5_advance l G Z ad _ h.2) k_X5_advance q_616 q_0 q_614 kSC_77 rfl rfl rfl hl.1 rfl rfl (Nat.le_of_ble_eq_true rfl) dX5_atom_20 ⟨Nat.le_of_ble_eq_true rfl, Nat.le_of_ble_eq_true rfl⟩ ⟨Nat.le_of_ble_eq_true rfl, Nat.le_of_ble_eq_true rfl⟩) (fun H locs ws_156 h u_157 p_158 => ?_)
    refine lv_goto (tgt := 177) C0.1 C0.2.1 dX5_atom_23 (by decide) ?_
    rw [hQ]
    exact y_vret C0 h (Fr.tr (Fr.mono u_154 (by decide)) (Fr.mono u_157 (by decide))) trivial dX5_atom_177
set_option maxHeartbeats 4000000 in
set_option maxRecDepth 100000 in
theorem c_X5_term_0 (l : Launch) (G : GG) (Z : RZ) (ad : Nat → Nat) (ws0 : va_W) (hT : Ty G (SC tt) ad ws0) (a1 : Int32) (l1 : 0 ≤ a1.toInt) (u1 : a1.toInt ≤ 0) : Mq l yX5_term cX5_term 3 none 25 G Z [.ref (ad 77), .int a1] ws0 (PV G (SC tt) ad [2, 3, 16] ws0 (fun u => True)) := by
  refine Mq.start (by decide) (Nat.le_of_ble_eq_true rfl) ?_
  intro p e s m below meth c A ls C0 hZ h hl
  have hl : lv_has ls 3 [(0, .ref (ad 77)), (1, .int a1)] := hl
  have h : Wt G (SC tt) ad A s s.heap [] ws0 := ⟨h, hT⟩
  obtain ⟨args, hargs⟩ : ∃ z, z = ([.ref (ad 77), .int a1] : List Value).toArray := ⟨_, rfl⟩
  rw [← hargs] at C0 ⊢
  have C0 : Cx p s m args meth c RX5 cX5_term 3 none := C0
  obtain ⟨Q, hQ⟩ : ∃ z, z = MQ below ((PV G (SC tt) ad [2, 3, 16] ws0 (fun u => True)) A) args s 0 0 A := ⟨_, rfl⟩
  rw [← hQ]
  refine lv_aload_n C0.1 C0.2.1 dX5_term_0 rfl (lv_at hl 0 rfl) ?_
  refine lv_iload_n C0.1 C0.2.1 dX5_term_1 rfl (lv_at hl 1 rfl) ?_
  refine y_cv h (y_rV (As := [.int a1]) (rest := []) C0 hZ h (c_X5_atom_0 l G Z ad _ h.2 a1 (o24_72 l1 u1) (o24_73 l1 u1)) k_X5_atom q_824 q_17 q_822 kSC_77 rfl rfl rfl hl.1 rfl rfl (Nat.le_of_ble_eq_true rfl) dX5_term_2 ⟨Nat.le_of_ble_eq_true rfl, Nat.le_of_ble_eq_true rfl⟩ ⟨Nat.le_of_ble_eq_true rfl, Nat.le_of_ble_eq_true rfl⟩) (fun H locs ws_1 h u_2 p_3 => ?_)
  refine y_c1 (n := 0) C0 (by decide) dX5_term_5 (fun v_4 e_5 => ?_)
  refine lv_istore_n (lv' := [(2, .int v_4), (0, .ref (ad 77)), (1, .int a1)]) C0.1 C0.2.1 dX5_term_6 rfl hl (by decide) rfl (fun ls hl => ?_)
  have lp_9 : ∀ (n_11 : Nat) (x2_6 : Int32) (H : Heap) (locs : List Loc) (ls : Array Slot) (ws_7 : va_W), 900 - x2_6.toInt < (n_11 : Int) → 0 ≤ x2_6.toInt → x2_6.toInt ≤ 900 → Wt G (SC tt) ad A s H locs ws_7 → Fr (SC tt) [2, 3, 16] ws_1 ws_7 → lv_has ls 3 [(2, .int x2_6), (0, .ref (ad 77)), (1, .int a1)] → W p l e (rmd 25 0 0) s m args below meth c H locs 0 0 Q (F0 m 7 ls []) := by
    intro n_11
    induction n_11 with
    | zero => intro x2_6 H locs ls ws_7 hn_12 b_13 b_14 h hF_8 hl; exact ((o24_15 b_13 b_14 hn_12)).elim
    | succ n_11 ih_10 =>
      intro x2_6 H locs ls ws_7 hn_12 b_13 b_14 h hF_8 hl
      refine lv_iload_n C0.1 C0.2.1 dX5_term_7 rfl (lv_at hl 0 rfl) ?_
      refine y_c3 (n := 900) C0 (by decide) dX5_term_8 (fun v_15 e_16 => ?_)
      refine y_icmp_ge (tgt := 48) C0 dX5_term_11 (by decide) (fun c_17 => ?_) (fun c_17 => ?_)
      · -- 11
        rw [hQ]
        exact y_vret C0 h (Fr.tr u_2 hF_8) trivial dX5_term_48
      · -- 11
        refine lv_aload_n C0.1 C0.2.1 dX5_term_14 rfl (lv_at hl 1 rfl) ?_
        refine tg_X5_kind C0 h kSC_77 q_374 dX5_term_15 (fun v_18 e_19 e_20 e_21 => ?_)
        refine y_c2 (n := 42) C0 (by decide) dX5_term_18 (fun v_22 e_23 => ?_)
        refine y_icmp_ne (tgt := 48) C0 dX5_term_20 (by decide) (fun c_24 => ?_) (fun c_24 => ?_)
        · -- 20
          rw [hQ]
          exact y_vret C0 h (Fr.tr u_2 hF_8) trivial dX5_term_48
        · -- 20
          refine lv_aload_n C0.1 C0.2.1 dX5_term_23 rfl (lv_at hl 1 rfl) ?_
          refine y_cv h (y_rV (As := []) (rest := []) C0 hZ h (c_X5_advance l G Z ad _ h.2) k_X5_advance q_616 q_0 q_614 kSC_77 rfl rfl rfl hl.1 rfl rfl (Nat.le_of_ble_eq_true rfl) dX5_term_24 ⟨Nat.le_of_ble_eq_true rfl, Nat.le_of_ble_eq_true rfl⟩ ⟨Nat.le_of_ble_eq_true rfl, Nat.le_of_ble_eq_true rfl⟩) (fun H locs ws_25 h u_26 p_27 => ?_)
          refine lv_aload_n C0.1 C0.2.1 dX5_term_27 rfl (lv_at hl 1 rfl) ?_
          refine lv_iload_n C0.1 C0.2.1 dX5_term_28 rfl (lv_at hl 2 rfl) ?_
          refine y_cv h (y_rV (As := [.int a1]) (rest := []) C0 hZ h (c_X5_atom_0 l G Z ad _ h.2 a1 (o24_72 l1 u1) (o24_73 l1 u1)) k_X5_atom q_824 q_17 q_822 kSC_77 rfl rfl rfl hl.1 rfl rfl (Nat.le_of_ble_eq_true rfl) dX5_term_29 ⟨Nat.le_of_ble_eq_true rfl, Nat.le_of_ble_eq_true rfl⟩ ⟨Nat.le_of_ble_eq_true rfl, Nat.le_of_ble_eq_true rfl⟩) (fun H locs ws_28 h u_29 p_30 => ?_)
          refine lv_aload_n C0.1 C0.2.1 dX5_term_32 rfl (lv_at hl 1 rfl) ?_
          refine tg_X5_law C0 h kSC_77 q_380 dX5_term_33 (fun i_31 hi_31 => ?_)
          refine y_c3 (n := 2002) C0 (by decide) dX5_term_36 (fun v_32 e_33 => ?_)
          refine y_cv h (y_rV (As := [.int v_32]) (rest := []) C0 hZ h (c_X4_add l G Z ad _ h.2 i_31 hi_31 v_32) k_X4_add q_827 q_828 q_826 hi_31 rfl rfl rfl hl.1 rfl rfl (Nat.le_of_ble_eq_true rfl) dX5_term_39 ⟨Nat.le_of_ble_eq_true rfl, Nat.le_of_ble_eq_true rfl⟩ ⟨Nat.le_of_ble_eq_true rfl, Nat.le_of_ble_eq_true rfl⟩) (fun H locs ws_34 h u_35 p_36 => ?_)
          refine y_inc (kp := 0) (n := 1) (fun v_37 => [(2, .int v_37), (0, .ref (ad 77)), (1, .int a1)]) C0 hl rfl (by decide) (by decide) (fun _ => rfl) (o24_16 b_13 b_14 hn_12 e_16 c_17 (le_min x2_6) (le_max x2_6) (le_min v_15) (le_max v_15)) (o24_17 b_13 b_14 hn_12 e_16 c_17 (le_min x2_6) (le_max x2_6) (le_min v_15) (le_max v_15)) dX5_term_42 (fun v_37 ls e_38 hl => ?_)
          refine lv_goto (tgt := 7) C0.1 C0.2.1 dX5_term_45 (by decide) ?_
          exact ih_10 v_37 _ _ _ _ (o24_18 b_13 b_14 hn_12 e_16 c_17 e_38) (o24_19 b_13 b_14 hn_12 e_16 c_17 e_38) (o24_20 b_13 b_14 hn_12 e_16 c_17 e_38) h (Fr.tr (Fr.tr (Fr.tr hF_8 (Fr.mono u_26 (by decide))) u_29) (Fr.mono u_35 (by decide))) (lv_sub hl [0, 1, 2] rfl)
  exact lp_9 ((900 - v_4.toInt + 1).toNat) v_4 _ _ _ _ (o24_21 e_5) (o24_22 e_5) (o24_23 e_5) h Fr.rf (lv_sub hl [0, 1, 2] rfl)
set_option maxHeartbeats 4000000 in
set_option maxRecDepth 100000 in
theorem c_X5_sum_0 (l : Launch) (G : GG) (Z : RZ) (ad : Nat → Nat) (ws0 : va_W) (hT : Ty G (SC tt) ad ws0) (a1 : Int32) (l1 : 0 ≤ a1.toInt) (u1 : a1.toInt ≤ 0) : Mq l yX5_sum cX5_sum 4 none 26 G Z [.ref (ad 77), .int a1] ws0 (PV G (SC tt) ad [2, 3, 16] ws0 (fun u => True)) := by
  refine Mq.start (by decide) (Nat.le_of_ble_eq_true rfl) ?_
  intro p e s m below meth c A ls C0 hZ h hl
  have hl : lv_has ls 4 [(0, .ref (ad 77)), (1, .int a1)] := hl
  have h : Wt G (SC tt) ad A s s.heap [] ws0 := ⟨h, hT⟩
  obtain ⟨args, hargs⟩ : ∃ z, z = ([.ref (ad 77), .int a1] : List Value).toArray := ⟨_, rfl⟩
  rw [← hargs] at C0 ⊢
  have C0 : Cx p s m args meth c RX5 cX5_sum 4 none := C0
  obtain ⟨Q, hQ⟩ : ∃ z, z = MQ below ((PV G (SC tt) ad [2, 3, 16] ws0 (fun u => True)) A) args s 0 0 A := ⟨_, rfl⟩
  rw [← hQ]
  refine lv_aload_n C0.1 C0.2.1 dX5_sum_0 rfl (lv_at hl 0 rfl) ?_
  refine lv_iload_n C0.1 C0.2.1 dX5_sum_1 rfl (lv_at hl 1 rfl) ?_
  refine y_cv h (y_rV (As := [.int a1]) (rest := []) C0 hZ h (c_X5_term_0 l G Z ad _ h.2 a1 (o24_72 l1 u1) (o24_73 l1 u1)) k_X5_term q_820 q_16 q_818 kSC_77 rfl rfl rfl hl.1 rfl rfl (Nat.le_of_ble_eq_true rfl) dX5_sum_2 ⟨Nat.le_of_ble_eq_true rfl, Nat.le_of_ble_eq_true rfl⟩ ⟨Nat.le_of_ble_eq_true rfl, Nat.le_of_ble_eq_true rfl⟩) (fun H locs ws_1 h u_2 p_3 => ?_)
  refine y_c1 (n := 0) C0 (by decide) dX5_sum_5 (fun v_4 e_5 => ?_)
  refine lv_istore_n (lv' := [(2, .int v_4), (0, .ref (ad 77)), (1, .int a1)]) C0.1 C0.2.1 dX5_sum_6 rfl hl (by decide) rfl (fun ls hl => ?_)
  have lp_9 : ∀ (n_11 : Nat) (x2_6 : Int32) (H : Heap) (locs : List Loc) (ls : Array Slot) (ws_7 : va_W), 900 - x2_6.toInt < (n_11 : Int) → 0 ≤ x2_6.toInt → x2_6.toInt ≤ 900 → Wt G (SC tt) ad A s H locs ws_7 → Fr (SC tt) [2, 3, 16] ws_1 ws_7 → lv_has ls 4 [(2, .int x2_6), (0, .ref (ad 77)), (1, .int a1)] → W p l e (rmd 26 0 0) s m args below meth c H locs 0 0 Q (F0 m 7 ls []) := by
    intro n_11
    induction n_11 with
    | zero => intro x2_6 H locs ls ws_7 hn_12 b_13 b_14 h hF_8 hl; exact ((o24_15 b_13 b_14 hn_12)).elim
    | succ n_11 ih_10 =>
      intro x2_6 H locs ls ws_7 hn_12 b_13 b_14 h hF_8 hl
      refine lv_iload_n C0.1 C0.2.1 dX5_sum_7 rfl (lv_at hl 0 rfl) ?_
      refine y_c3 (n := 900) C0 (by decide) dX5_sum_8 (fun v_15 e_16 => ?_)
      refine y_icmp_ge (tgt := 74) C0 dX5_sum_11 (by decide) (fun c_17 => ?_) (fun c_17 => ?_)
      · -- 11
        rw [hQ]
        exact y_vret C0 h (Fr.tr u_2 hF_8) trivial dX5_sum_74
      · -- 11
        refine lv_aload_n C0.1 C0.2.1 dX5_sum_14 rfl (lv_at hl 1 rfl) ?_
        refine tg_X5_kind C0 h kSC_77 q_374 dX5_sum_15 (fun v_18 e_19 e_20 e_21 => ?_)
        refine y_c2 (n := 43) C0 (by decide) dX5_sum_18 (fun v_22 e_23 => ?_)
        refine y_icmp_eq (tgt := 32) C0 dX5_sum_20 (by decide) (fun c_24 => ?_) (fun c_24 => ?_)
        · -- 20
          refine lv_aload_n C0.1 C0.2.1 dX5_sum_32 rfl (lv_at hl 1 rfl) ?_
          refine tg_X5_kind C0 h kSC_77 q_374 dX5_sum_33 (fun v_25 e_26 e_27 e_28 => ?_)
          have q_29 : v_25.toInt = v_18.toInt := congrArg Int32.toInt (e_26.symm.trans (Eq.trans rfl e_19))
          refine y_c2 (n := 43) C0 (by decide) dX5_sum_36 (fun v_30 e_31 => ?_)
          refine y_icmp_ne (tgt := 47) C0 dX5_sum_38 (by decide) (fun c_32 => ((o24_24 e_23 c_24 q_29 e_31 c_32)).elim) (fun c_32 => ?_)
          refine y_c3 (n := 2000) C0 (by decide) dX5_sum_41 (fun v_33 e_34 => ?_)
          refine lv_goto (tgt := 50) C0.1 C0.2.1 dX5_sum_44 (by decide) ?_
          refine lv_istore_n (lv' := [(3, .int v_33), (2, .int x2_6), (0, .ref (ad 77)), (1, .int a1)]) C0.1 C0.2.1 dX5_sum_50 rfl hl (by decide) rfl (fun ls hl => ?_)
          refine lv_aload_n C0.1 C0.2.1 dX5_sum_51 rfl (lv_at hl 2 rfl) ?_
          refine y_cv h (y_rV (As := []) (rest := []) C0 hZ h (c_X5_advance l G Z ad _ h.2) k_X5_advance q_616 q_0 q_614 kSC_77 rfl rfl rfl hl.1 rfl rfl (Nat.le_of_ble_eq_true rfl) dX5_sum_52 ⟨Nat.le_of_ble_eq_true rfl, Nat.le_of_ble_eq_true rfl⟩ ⟨Nat.le_of_ble_eq_true rfl, Nat.le_of_ble_eq_true rfl⟩) (fun H locs ws_35 h u_36 p_37 => ?_)
          refine lv_aload_n C0.1 C0.2.1 dX5_sum_55 rfl (lv_at hl 2 rfl) ?_
          refine lv_iload_n C0.1 C0.2.1 dX5_sum_56 rfl (lv_at hl 3 rfl) ?_
          refine y_cv h (y_rV (As := [.int a1]) (rest := []) C0 hZ h (c_X5_term_0 l G Z ad _ h.2 a1 (o24_72 l1 u1) (o24_73 l1 u1)) k_X5_term q_820 q_16 q_818 kSC_77 rfl rfl rfl hl.1 rfl rfl (Nat.le_of_ble_eq_true rfl) dX5_sum_57 ⟨Nat.le_of_ble_eq_true rfl, Nat.le_of_ble_eq_true rfl⟩ ⟨Nat.le_of_ble_eq_true rfl, Nat.le_of_ble_eq_true rfl⟩) (fun H locs ws_38 h u_39 p_40 => ?_)
          refine lv_aload_n C0.1 C0.2.1 dX5_sum_60 rfl (lv_at hl 2 rfl) ?_
          refine tg_X5_law C0 h kSC_77 q_380 dX5_sum_61 (fun i_41 hi_41 => ?_)
          refine lv_iload_n C0.1 C0.2.1 dX5_sum_64 rfl (lv_at hl 0 rfl) ?_
          refine y_cv h (y_rV (As := [.int v_33]) (rest := []) C0 hZ h (c_X4_add l G Z ad _ h.2 i_41 hi_41 v_33) k_X4_add q_827 q_828 q_826 hi_41 rfl rfl rfl hl.1 rfl rfl (Nat.le_of_ble_eq_true rfl) dX5_sum_65 ⟨Nat.le_of_ble_eq_true rfl, Nat.le_of_ble_eq_true rfl⟩ ⟨Nat.le_of_ble_eq_true rfl, Nat.le_of_ble_eq_true rfl⟩) (fun H locs ws_42 h u_43 p_44 => ?_)
          refine y_inc (kp := 1) (n := 1) (fun v_45 => [(2, .int v_45), (3, .int v_33), (0, .ref (ad 77)), (1, .int a1)]) C0 hl rfl (by decide) (by decide) (fun _ => rfl) (o24_16 b_13 b_14 hn_12 e_16 c_17 (le_min x2_6) (le_max x2_6) (le_min v_15) (le_max v_15)) (o24_17 b_13 b_14 hn_12 e_16 c_17 (le_min x2_6) (le_max x2_6) (le_min v_15) (le_max v_15)) dX5_sum_68 (fun v_45 ls e_46 hl => ?_)
          refine lv_goto (tgt := 7) C0.1 C0.2.1 dX5_sum_71 (by decide) ?_
          exact ih_10 v_45 _ _ _ _ (o24_18 b_13 b_14 hn_12 e_16 c_17 e_46) (o24_19 b_13 b_14 hn_12 e_16 c_17 e_46) (o24_20 b_13 b_14 hn_12 e_16 c_17 e_46) h (Fr.tr (Fr.tr (Fr.tr hF_8 (Fr.mono u_36 (by decide))) u_39) (Fr.mono u_43 (by decide))) (lv_sub hl [0, 2, 3] rfl)
        · -- 20
          refine lv_aload_n C0.1 C0.2.1 dX5_sum_23 rfl (lv_at hl 1 rfl) ?_
          refine tg_X5_kind C0 h kSC_77 q_374 dX5_sum_24 (fun v_47 e_48 e_49 e_50 => ?_)
          have q_51 : v_47.toInt = v_18.toInt := congrArg Int32.toInt (e_48.symm.trans (Eq.trans rfl e_19))
          refine y_c2 (n := 45) C0 (by decide) dX5_sum_27 (fun v_52 e_53 => ?_)
          refine y_icmp_ne (tgt := 74) C0 dX5_sum_29 (by decide) (fun c_54 => ?_) (fun c_54 => ?_)
          · -- 29
            rw [hQ]
            exact y_vret C0 h (Fr.tr u_2 hF_8) trivial dX5_sum_74
          · -- 29
            refine lv_aload_n C0.1 C0.2.1 dX5_sum_32 rfl (lv_at hl 1 rfl) ?_
            refine tg_X5_kind C0 h kSC_77 q_374 dX5_sum_33 (fun v_55 e_56 e_57 e_58 => ?_)
            have q_59 : v_55.toInt = v_18.toInt := congrArg Int32.toInt (e_56.symm.trans (Eq.trans rfl e_19))
            refine y_c2 (n := 43) C0 (by decide) dX5_sum_36 (fun v_60 e_61 => ?_)
            refine y_icmp_ne (tgt := 47) C0 dX5_sum_38 (by decide) (fun c_62 => ?_) (fun c_62 => ((o24_25 e_23 c_24 q_51 e_53 c_54 q_59 e_61 c_62)).elim)
            refine y_c3 (n := 2001) C0 (by decide) dX5_sum_47 (fun v_63 e_64 => ?_)
            refine lv_istore_n (lv' := [(3, .int v_63), (2, .int x2_6), (0, .ref (ad 77)), (1, .int a1)]) C0.1 C0.2.1 dX5_sum_50 rfl hl (by decide) rfl (fun ls hl => ?_)
            refine lv_aload_n C0.1 C0.2.1 dX5_sum_51 rfl (lv_at hl 2 rfl) ?_
            refine y_cv h (y_rV (As := []) (rest := []) C0 hZ h (c_X5_advance l G Z ad _ h.2) k_X5_advance q_616 q_0 q_614 kSC_77 rfl rfl rfl hl.1 rfl rfl (Nat.le_of_ble_eq_true rfl) dX5_sum_52 ⟨Nat.le_of_ble_eq_true rfl, Nat.le_of_ble_eq_true rfl⟩ ⟨Nat.le_of_ble_eq_true rfl, Nat.le_of_ble_eq_true rfl⟩) (fun H locs ws_65 h u_66 p_67 => ?_)
            refine lv_aload_n C0.1 C0.2.1 dX5_sum_55 rfl (lv_at hl 2 rfl) ?_
            refine lv_iload_n C0.1 C0.2.1 dX5_sum_56 rfl (lv_at hl 3 rfl) ?_
            refine y_cv h (y_rV (As := [.int a1]) (rest := []) C0 hZ h (c_X5_term_0 l G Z ad _ h.2 a1 (o24_72 l1 u1) (o24_73 l1 u1)) k_X5_term q_820 q_16 q_818 kSC_77 rfl rfl rfl hl.1 rfl rfl (Nat.le_of_ble_eq_true rfl) dX5_sum_57 ⟨Nat.le_of_ble_eq_true rfl, Nat.le_of_ble_eq_true rfl⟩ ⟨Nat.le_of_ble_eq_true rfl, Nat.le_of_ble_eq_true rfl⟩) (fun H locs ws_68 h u_69 p_70 => ?_)
            refine lv_aload_n C0.1 C0.2.1 dX5_sum_60 rfl (lv_at hl 2 rfl) ?_
            refine tg_X5_law C0 h kSC_77 q_380 dX5_sum_61 (fun i_71 hi_71 => ?_)
            refine lv_iload_n C0.1 C0.2.1 dX5_sum_64 rfl (lv_at hl 0 rfl) ?_
            refine y_cv h (y_rV (As := [.int v_63]) (rest := []) C0 hZ h (c_X4_add l G Z ad _ h.2 i_71 hi_71 v_63) k_X4_add q_827 q_828 q_826 hi_71 rfl rfl rfl hl.1 rfl rfl (Nat.le_of_ble_eq_true rfl) dX5_sum_65 ⟨Nat.le_of_ble_eq_true rfl, Nat.le_of_ble_eq_true rfl⟩ ⟨Nat.le_of_ble_eq_true rfl, Nat.le_of_ble_eq_true rfl⟩) (fun H locs ws_72 h u_73 p_74 => ?_)
            refine y_inc (kp := 1) (n := 1) (fun v_75 => [(2, .int v_75), (3, .int v_63), (0, .ref (ad 77)), (1, .int a1)]) C0 hl rfl (by decide) (by decide) (fun _ => rfl) (o24_16 b_13 b_14 hn_12 e_16 c_17 (le_min x2_6) (le_max x2_6) (le_min v_15) (le_max v_15)) (o24_17 b_13 b_14 hn_12 e_16 c_17 (le_min x2_6) (le_max x2_6) (le_min v_15) (le_max v_15)) dX5_sum_68 (fun v_75 ls e_76 hl => ?_)
            refine lv_goto (tgt := 7) C0.1 C0.2.1 dX5_sum_71 (by decide) ?_
            exact ih_10 v_75 _ _ _ _ (o24_18 b_13 b_14 hn_12 e_16 c_17 e_76) (o24_19 b_13 b_14 hn_12 e_16 c_17 e_76) (o24_20 b_13 b_14 hn_12 e_16 c_17 e_76) h (Fr.tr (Fr.tr (Fr.tr hF_8 (Fr.mono u_66 (by decide))) u_69) (Fr.mono u_73 (by decide))) (lv_sub hl [0, 2, 3] rfl)
  exact lp_9 ((900 - v_4.toInt + 1).toNat) v_4 _ _ _ _ (o24_21 e_5) (o24_22 e_5) (o24_23 e_5) h Fr.rf (lv_sub hl [0, 1, 2] rfl)
set_option maxHeartbeats 4000000 in
set_option maxRecDepth 100000 in
theorem c_X5_unit_0 (l : Launch) (G : GG) (Z : RZ) (ad : Nat → Nat) (ws0 : va_W) (hT : Ty G (SC tt) ad ws0) (a1 : Int32) (l1 : 0 ≤ a1.toInt) (u1 : a1.toInt ≤ 0) : Mq l yX5_unit cX5_unit 3 none 27 G Z [.ref (ad 77), .int a1] ws0 (PV G (SC tt) ad [2, 3, 16] ws0 (fun u => True)) := by
  refine Mq.start (by decide) (Nat.le_of_ble_eq_true rfl) ?_
  intro p e s m below meth c A ls C0 hZ h hl
  have hl : lv_has ls 3 [(0, .ref (ad 77)), (1, .int a1)] := hl
  have h : Wt G (SC tt) ad A s s.heap [] ws0 := ⟨h, hT⟩
  obtain ⟨args, hargs⟩ : ∃ z, z = ([.ref (ad 77), .int a1] : List Value).toArray := ⟨_, rfl⟩
  rw [← hargs] at C0 ⊢
  have C0 : Cx p s m args meth c RX5 cX5_unit 3 none := C0
  obtain ⟨Q, hQ⟩ : ∃ z, z = MQ below ((PV G (SC tt) ad [2, 3, 16] ws0 (fun u => True)) A) args s 0 0 A := ⟨_, rfl⟩
  rw [← hQ]
  refine lv_aload_n C0.1 C0.2.1 dX5_unit_0 rfl (lv_at hl 0 rfl) ?_
  refine va_ldcS C0.1 C0.2.1 C0.2.2.2.1 (sr_19 hZ) dX5_unit_1 ?_
  refine y_ci h (y_rV (As := [.ref (Z.2.1 19)]) (rest := []) C0 hZ h (c_X5_isWord l G Z ad _ h.2 19 (by decide)) k_X5_isWord q_724 q_5 q_722 kSC_77 rfl rfl rfl hl.1 rfl rfl (Nat.le_of_ble_eq_true rfl) dX5_unit_3 ⟨Nat.le_of_ble_eq_true rfl, Nat.le_of_ble_eq_true rfl⟩ ⟨Nat.le_of_ble_eq_true rfl, Nat.le_of_ble_eq_true rfl⟩) (fun r_4 H locs ws_1 h u_2 p_3 => ?_)
  obtain ⟨e_5, e_6⟩ := p_3
  refine y_if_eq (tgt := 49) C0 dX5_unit_6 (by decide) (fun c_7 => ?_) (fun c_7 => ?_)
  · -- 6
    refine lv_aload_n C0.1 C0.2.1 dX5_unit_49 rfl (lv_at hl 0 rfl) ?_
    refine tg_X5_kind C0 h kSC_77 q_374 dX5_unit_50 (fun v_8 e_9 e_10 e_11 => ?_)
    refine y_c2 (n := 91) C0 (by decide) dX5_unit_53 (fun v_12 e_13 => ?_)
    refine y_icmp_ne (tgt := 86) C0 dX5_unit_55 (by decide) (fun c_14 => ?_) (fun c_14 => ?_)
    · -- 55
      refine lv_aload_n C0.1 C0.2.1 dX5_unit_86 rfl (lv_at hl 0 rfl) ?_
      refine lv_iload_n C0.1 C0.2.1 dX5_unit_87 rfl (lv_at hl 1 rfl) ?_
      refine y_cv h (y_rV (As := [.int a1]) (rest := []) C0 hZ h (c_X5_sum_0 l G Z ad _ h.2 a1 (o24_72 l1 u1) (o24_73 l1 u1)) k_X5_sum q_816 q_15 q_814 kSC_77 rfl rfl rfl hl.1 rfl rfl (Nat.le_of_ble_eq_true rfl) dX5_unit_88 ⟨Nat.le_of_ble_eq_true rfl, Nat.le_of_ble_eq_true rfl⟩ ⟨Nat.le_of_ble_eq_true rfl, Nat.le_of_ble_eq_true rfl⟩) (fun H locs ws_15 h u_16 p_17 => ?_)
      refine lv_aload_n C0.1 C0.2.1 dX5_unit_91 rfl (lv_at hl 0 rfl) ?_
      refine tg_X5_kind C0 h kSC_77 q_374 dX5_unit_92 (fun v_18 e_19 e_20 e_21 => ?_)
      refine y_c2 (n := 61) C0 (by decide) dX5_unit_95 (fun v_22 e_23 => ?_)
      refine y_icmp_ne (tgt := 106) C0 dX5_unit_97 (by decide) (fun c_24 => ?_) (fun c_24 => ?_)
      · -- 97
        refine lv_aload_n C0.1 C0.2.1 dX5_unit_106 rfl (lv_at hl 0 rfl) ?_
        refine tg_X5_kind C0 h kSC_77 q_374 dX5_unit_107 (fun v_25 e_26 e_27 e_28 => ?_)
        have q_29 : v_25.toInt = v_18.toInt := congrArg Int32.toInt (e_26.symm.trans (Eq.trans rfl e_19))
        refine y_c2 (n := 60) C0 (by decide) dX5_unit_110 (fun v_30 e_31 => ?_)
        refine y_icmp_ne (tgt := 121) C0 dX5_unit_112 (by decide) (fun c_32 => ?_) (fun c_32 => ?_)
        · -- 112
          refine lv_aload_n C0.1 C0.2.1 dX5_unit_121 rfl (lv_at hl 0 rfl) ?_
          refine tg_X5_kind C0 h kSC_77 q_374 dX5_unit_122 (fun v_33 e_34 e_35 e_36 => ?_)
          have q_37 : v_33.toInt = v_18.toInt := congrArg Int32.toInt (e_34.symm.trans (Eq.trans rfl e_19))
          refine y_c2 (n := 62) C0 (by decide) dX5_unit_125 (fun v_38 e_39 => ?_)
          refine y_icmp_ne (tgt := 136) C0 dX5_unit_127 (by decide) (fun c_40 => ?_) (fun c_40 => ?_)
          · -- 127
            refine y_c1 (n := (-1)) C0 (by decide) dX5_unit_136 (fun v_41 e_42 => ?_)
            refine lv_istore_n (lv' := [(2, .int v_41), (0, .ref (ad 77)), (1, .int a1)]) C0.1 C0.2.1 dX5_unit_137 rfl hl (by decide) rfl (fun ls hl => ?_)
            refine lv_iload_n C0.1 C0.2.1 dX5_unit_138 rfl (lv_at hl 0 rfl) ?_
            refine y_if_ge (tgt := 148) C0 dX5_unit_139 (by decide) (fun c_43 => ((o24_5 e_42 c_43)).elim) (fun c_43 => ?_)
            refine lv_aload_n C0.1 C0.2.1 dX5_unit_142 rfl (lv_at hl 1 rfl) ?_
            refine y_c1 (n := 2) C0 (by decide) dX5_unit_143 (fun v_44 e_45 => ?_)
            refine y_cv h (y_rV (As := [.int v_44]) (rest := []) C0 hZ h (c_X5_fail l G Z ad _ h.2 v_44) k_X5_fail q_628 q_3 q_626 kSC_77 rfl rfl rfl hl.1 rfl rfl (Nat.le_of_ble_eq_true rfl) dX5_unit_144 ⟨Nat.le_of_ble_eq_true rfl, Nat.le_of_ble_eq_true rfl⟩ ⟨Nat.le_of_ble_eq_true rfl, Nat.le_of_ble_eq_true rfl⟩) (fun H locs ws_46 h u_47 p_48 => ?_)
            rw [hQ]
            exact y_vret C0 h (Fr.tr (Fr.tr (Fr.mono u_2 (by decide)) u_16) (Fr.mono u_47 (by decide))) trivial dX5_unit_147
          · -- 127
            refine y_c3 (n := 2005) C0 (by decide) dX5_unit_130 (fun v_49 e_50 => ?_)
            refine lv_goto (tgt := 137) C0.1 C0.2.1 dX5_unit_133 (by decide) ?_
            refine lv_istore_n (lv' := [(2, .int v_49), (0, .ref (ad 77)), (1, .int a1)]) C0.1 C0.2.1 dX5_unit_137 rfl hl (by decide) rfl (fun ls hl => ?_)
            refine lv_iload_n C0.1 C0.2.1 dX5_unit_138 rfl (lv_at hl 0 rfl) ?_
            refine y_if_ge (tgt := 148) C0 dX5_unit_139 (by decide) (fun c_51 => ?_) (fun c_51 => ((o24_26 e_50 c_51)).elim)
            refine lv_aload_n C0.1 C0.2.1 dX5_unit_148 rfl (lv_at hl 1 rfl) ?_
            refine y_cv h (y_rV (As := []) (rest := []) C0 hZ h (c_X5_advance l G Z ad _ h.2) k_X5_advance q_616 q_0 q_614 kSC_77 rfl rfl rfl hl.1 rfl rfl (Nat.le_of_ble_eq_true rfl) dX5_unit_149 ⟨Nat.le_of_ble_eq_true rfl, Nat.le_of_ble_eq_true rfl⟩ ⟨Nat.le_of_ble_eq_true rfl, Nat.le_of_ble_eq_true rfl⟩) (fun H locs ws_52 h u_53 p_54 => ?_)
            refine lv_aload_n C0.1 C0.2.1 dX5_unit_152 rfl (lv_at hl 1 rfl) ?_
            refine lv_iload_n C0.1 C0.2.1 dX5_unit_153 rfl (lv_at hl 2 rfl) ?_
            refine y_cv h (y_rV (As := [.int a1]) (rest := []) C0 hZ h (c_X5_sum_0 l G Z ad _ h.2 a1 (o24_72 l1 u1) (o24_73 l1 u1)) k_X5_sum q_816 q_15 q_814 kSC_77 rfl rfl rfl hl.1 rfl rfl (Nat.le_of_ble_eq_true rfl) dX5_unit_154 ⟨Nat.le_of_ble_eq_true rfl, Nat.le_of_ble_eq_true rfl⟩ ⟨Nat.le_of_ble_eq_true rfl, Nat.le_of_ble_eq_true rfl⟩) (fun H locs ws_55 h u_56 p_57 => ?_)
            refine lv_aload_n C0.1 C0.2.1 dX5_unit_157 rfl (lv_at hl 1 rfl) ?_
            refine tg_X5_law C0 h kSC_77 q_380 dX5_unit_158 (fun i_58 hi_58 => ?_)
            refine lv_iload_n C0.1 C0.2.1 dX5_unit_161 rfl (lv_at hl 0 rfl) ?_
            refine y_cv h (y_rV (As := [.int v_49]) (rest := []) C0 hZ h (c_X4_add l G Z ad _ h.2 i_58 hi_58 v_49) k_X4_add q_827 q_828 q_826 hi_58 rfl rfl rfl hl.1 rfl rfl (Nat.le_of_ble_eq_true rfl) dX5_unit_162 ⟨Nat.le_of_ble_eq_true rfl, Nat.le_of_ble_eq_true rfl⟩ ⟨Nat.le_of_ble_eq_true rfl, Nat.le_of_ble_eq_true rfl⟩) (fun H locs ws_59 h u_60 p_61 => ?_)
            rw [hQ]
            exact y_vret C0 h (Fr.tr (Fr.tr (Fr.tr (Fr.tr (Fr.mono u_2 (by decide)) u_16) (Fr.mono u_53 (by decide))) u_56) (Fr.mono u_60 (by decide))) trivial dX5_unit_165
        · -- 112
          refine y_c3 (n := 2004) C0 (by decide) dX5_unit_115 (fun v_62 e_63 => ?_)
          refine lv_goto (tgt := 137) C0.1 C0.2.1 dX5_unit_118 (by decide) ?_
          refine lv_istore_n (lv' := [(2, .int v_62), (0, .ref (ad 77)), (1, .int a1)]) C0.1 C0.2.1 dX5_unit_137 rfl hl (by decide) rfl (fun ls hl => ?_)
          refine lv_iload_n C0.1 C0.2.1 dX5_unit_138 rfl (lv_at hl 0 rfl) ?_
          refine y_if_ge (tgt := 148) C0 dX5_unit_139 (by decide) (fun c_64 => ?_) (fun c_64 => ((o24_27 e_63 c_64)).elim)
          refine lv_aload_n C0.1 C0.2.1 dX5_unit_148 rfl (lv_at hl 1 rfl) ?_
          refine y_cv h (y_rV (As := []) (rest := []) C0 hZ h (c_X5_advance l G Z ad _ h.2) k_X5_advance q_616 q_0 q_614 kSC_77 rfl rfl rfl hl.1 rfl rfl (Nat.le_of_ble_eq_true rfl) dX5_unit_149 ⟨Nat.le_of_ble_eq_true rfl, Nat.le_of_ble_eq_true rfl⟩ ⟨Nat.le_of_ble_eq_true rfl, Nat.le_of_ble_eq_true rfl⟩) (fun H locs ws_65 h u_66 p_67 => ?_)
          refine lv_aload_n C0.1 C0.2.1 dX5_unit_152 rfl (lv_at hl 1 rfl) ?_
          refine lv_iload_n C0.1 C0.2.1 dX5_unit_153 rfl (lv_at hl 2 rfl) ?_
          refine y_cv h (y_rV (As := [.int a1]) (rest := []) C0 hZ h (c_X5_sum_0 l G Z ad _ h.2 a1 (o24_72 l1 u1) (o24_73 l1 u1)) k_X5_sum q_816 q_15 q_814 kSC_77 rfl rfl rfl hl.1 rfl rfl (Nat.le_of_ble_eq_true rfl) dX5_unit_154 ⟨Nat.le_of_ble_eq_true rfl, Nat.le_of_ble_eq_true rfl⟩ ⟨Nat.le_of_ble_eq_true rfl, Nat.le_of_ble_eq_true rfl⟩) (fun H locs ws_68 h u_69 p_70 => ?_)
          refine lv_aload_n C0.1 C0.2.1 dX5_unit_157 rfl (lv_at hl 1 rfl) ?_
          refine tg_X5_law C0 h kSC_77 q_380 dX5_unit_158 (fun i_71 hi_71 => ?_)
          refine lv_iload_n C0.1 C0.2.1 dX5_unit_161 rfl (lv_at hl 0 rfl) ?_
          refine y_cv h (y_rV (As := [.int v_62]) (rest := []) C0 hZ h (c_X4_add l G Z ad _ h.2 i_71 hi_71 v_62) k_X4_add q_827 q_828 q_826 hi_71 rfl rfl rfl hl.1 rfl rfl (Nat.le_of_ble_eq_true rfl) dX5_unit_162 ⟨Nat.le_of_ble_eq_true rfl, Nat.le_of_ble_eq_true rfl⟩ ⟨Nat.le_of_ble_eq_true rfl, Nat.le_of_ble_eq_true rfl⟩) (fun H locs ws_72 h u_73 p_74 => ?_)
          rw [hQ]
          exact y_vret C0 h (Fr.tr (Fr.tr (Fr.tr (Fr.tr (Fr.mono u_2 (by decide)) u_16) (Fr.mono u_66 (by decide))) u_69) (Fr.mono u_73 (by decide))) trivial dX5_unit_165
      · -- 97
        refine y_c3 (n := 2003) C0 (by decide) dX5_unit_100 (fun v_75 e_76 => ?_)
        refine lv_goto (tgt := 137) C0.1 C0.2.1 dX5_unit_103 (by decide) ?_
        refine lv_istore_n (lv' := [(2, .int v_75), (0, .ref (ad 77)), (1, .int a1)]) C0.1 C0.2.1 dX5_unit_137 rfl hl (by decide) rfl (fun ls hl => ?_)
        refine lv_iload_n C0.1 C0.2.1 dX5_unit_138 rfl (lv_at hl 0 rfl) ?_
        refine y_if_ge (tgt := 148) C0 dX5_unit_139 (by decide) (fun c_77 => ?_) (fun c_77 => ((o24_28 e_76 c_77)).elim)
        refine lv_aload_n C0.1 C0.2.1 dX5_unit_148 rfl (lv_at hl 1 rfl) ?_
        refine y_cv h (y_rV (As := []) (rest := []) C0 hZ h (c_X5_advance l G Z ad _ h.2) k_X5_advance q_616 q_0 q_614 kSC_77 rfl rfl rfl hl.1 rfl rfl (Nat.le_of_ble_eq_true rfl) dX5_unit_149 ⟨Nat.le_of_ble_eq_true rfl, Nat.le_of_ble_eq_true rfl⟩ ⟨Nat.le_of_ble_eq_true rfl, Nat.le_of_ble_eq_true rfl⟩) (fun H locs ws_78 h u_79 p_80 => ?_)
        refine lv_aload_n C0.1 C0.2.1 dX5_unit_152 rfl (lv_at hl 1 rfl) ?_
        refine lv_iload_n C0.1 C0.2.1 dX5_unit_153 rfl (lv_at hl 2 rfl) ?_
        refine y_cv h (y_rV (As := [.int a1]) (rest := []) C0 hZ h (c_X5_sum_0 l G Z ad _ h.2 a1 (o24_72 l1 u1) (o24_73 l1 u1)) k_X5_sum q_816 q_15 q_814 kSC_77 rfl rfl rfl hl.1 rfl rfl (Nat.le_of_ble_eq_true rfl) dX5_unit_154 ⟨Nat.le_of_ble_eq_true rfl, Nat.le_of_ble_eq_true rfl⟩ ⟨Nat.le_of_ble_eq_true rfl, Nat.le_of_ble_eq_true rfl⟩) (fun H locs ws_81 h u_82 p_83 => ?_)
        refine lv_aload_n C0.1 C0.2.1 dX5_unit_157 rfl (lv_at hl 1 rfl) ?_
        refine tg_X5_law C0 h kSC_77 q_380 dX5_unit_158 (fun i_84 hi_84 => ?_)
        refine lv_iload_n C0.1 C0.2.1 dX5_unit_161 rfl (lv_at hl 0 rfl) ?_
        refine y_cv h (y_rV (As := [.int v_75]) (rest := []) C0 hZ h (c_X4_add l G Z ad _ h.2 i_84 hi_84 v_75) k_X4_add q_827 q_828 q_826 hi_84 rfl rfl rfl hl.1 rfl rfl (Nat.le_of_ble_eq_true rfl) dX5_unit_162 ⟨Nat.le_of_ble_eq_true rfl, Nat.le_of_ble_eq_true rfl⟩ ⟨Nat.le_of_ble_eq_true rfl, Nat.le_of_ble_eq_true rfl⟩) (fun H locs ws_85 h u_86 p_87 => ?_)
        rw [hQ]
        exact y_vret C0 h (Fr.tr (Fr.tr (Fr.tr (Fr.tr (Fr.mono u_2 (by decide)) u_16) (Fr.mono u_79 (by decide))) u_82) (Fr.mono u_86 (by decide))) trivial dX5_unit_165
    · -- 55
      refine lv_aload_n C0.1 C0.2.1 dX5_unit_58 rfl (lv_at hl 0 rfl) ?_
      refine lv_iload_n C0.1 C0.2.1 dX5_unit_59 rfl (lv_at hl 1 rfl) ?_
      refine y_ci h (y_rV (As := [.int a1]) (rest := []) C0 hZ h (c_X5_tooDeep_0 l G Z ad _ h.2 a1 (o24_72 l1 u1) (o24_73 l1 u1)) k_X5_tooDeep q_832 q_18 q_830 kSC_77 rfl rfl rfl hl.1 rfl rfl (Nat.le_of_ble_eq_true rfl) dX5_unit_60 ⟨Nat.le_of_ble_eq_true rfl, Nat.le_of_ble_eq_true rfl⟩ ⟨Nat.le_of_ble_eq_true rfl, Nat.le_of_ble_eq_true rfl⟩) (fun r_91 H locs ws_88 h u_89 p_90 => ?_)
      obtain ⟨e_92, e_93⟩ := p_90
      refine y_if_ne (tgt := 165) C0 dX5_unit_63 (by decide) (fun c_94 => ((o24_34 e_92 e_93 c_94)).elim) (fun c_94 => ?_)
      refine lv_aload_n C0.1 C0.2.1 dX5_unit_66 rfl (lv_at hl 0 rfl) ?_
      refine y_cv h (y_rV (As := []) (rest := []) C0 hZ h (c_X5_advance l G Z ad _ h.2) k_X5_advance q_616 q_0 q_614 kSC_77 rfl rfl rfl hl.1 rfl rfl (Nat.le_of_ble_eq_true rfl) dX5_unit_67 ⟨Nat.le_of_ble_eq_true rfl, Nat.le_of_ble_eq_true rfl⟩ ⟨Nat.le_of_ble_eq_true rfl, Nat.le_of_ble_eq_true rfl⟩) (fun H locs ws_95 h u_96 p_97 => ?_)
      refine lv_aload_n C0.1 C0.2.1 dX5_unit_70 rfl (lv_at hl 0 rfl) ?_
      refine lv_iload_n C0.1 C0.2.1 dX5_unit_71 rfl (lv_at hl 1 rfl) ?_
      refine y_c1 (n := 1) C0 (by decide) dX5_unit_72 (fun v_98 e_99 => ?_)
      refine y_add C0 (o24_74 l1 u1 e_99 (le_min a1) (le_max a1) (le_min v_98) (le_max v_98)) (o24_75 l1 u1 e_99 (le_min a1) (le_max a1) (le_min v_98) (le_max v_98)) dX5_unit_73 (fun v_100 e_101 => ?_)
      refine y_cv h (y_rV (As := [.int v_100]) (rest := []) C0 hZ h (c_X5_truth_1 l G Z ad _ h.2 v_100 (o24_76 l1 u1 e_99 e_101) (o24_77 l1 u1 e_99 e_101)) k_X5_truth q_843 q_19 q_841 kSC_77 rfl rfl rfl hl.1 rfl rfl (Nat.le_of_ble_eq_true rfl) dX5_unit_74 ⟨Nat.le_of_ble_eq_true rfl, Nat.le_of_ble_eq_true rfl⟩ ⟨Nat.le_of_ble_eq_true rfl, Nat.le_of_ble_eq_true rfl⟩) (fun H locs ws_102 h u_103 p_104 => ?_)
      refine lv_aload_n C0.1 C0.2.1 dX5_unit_77 rfl (lv_at hl 0 rfl) ?_
      refine y_c2 (n := 93) C0 (by decide) dX5_unit_78 (fun v_105 e_106 => ?_)
      refine y_cv h (y_rV (As := [.int v_105]) (rest := []) C0 hZ h (c_X5_sign l G Z ad _ h.2 v_105 (o24_41 e_106) (o24_42 e_106)) k_X5_sign q_812 q_14 q_810 kSC_77 rfl rfl rfl hl.1 rfl rfl (Nat.le_of_ble_eq_true rfl) dX5_unit_80 ⟨Nat.le_of_ble_eq_true rfl, Nat.le_of_ble_eq_true rfl⟩ ⟨Nat.le_of_ble_eq_true rfl, Nat.le_of_ble_eq_true rfl⟩) (fun H locs ws_107 h u_108 p_109 => ?_)
      refine lv_goto (tgt := 165) C0.1 C0.2.1 dX5_unit_83 (by decide) ?_
      rw [hQ]
      exact y_vret C0 h (Fr.tr (Fr.tr (Fr.tr (Fr.tr (Fr.mono u_2 (by decide)) (Fr.mono u_89 (by decide))) (Fr.mono u_96 (by decide))) u_103) (Fr.mono u_108 (by decide))) trivial dX5_unit_165
  · -- 6
    refine lv_aload_n C0.1 C0.2.1 dX5_unit_9 rfl (lv_at hl 0 rfl) ?_
    refine lv_iload_n C0.1 C0.2.1 dX5_unit_10 rfl (lv_at hl 1 rfl) ?_
    refine y_ci h (y_rV (As := [.int a1]) (rest := []) C0 hZ h (c_X5_tooDeep_0 l G Z ad _ h.2 a1 (o24_72 l1 u1) (o24_73 l1 u1)) k_X5_tooDeep q_832 q_18 q_830 kSC_77 rfl rfl rfl hl.1 rfl rfl (Nat.le_of_ble_eq_true rfl) dX5_unit_11 ⟨Nat.le_of_ble_eq_true rfl, Nat.le_of_ble_eq_true rfl⟩ ⟨Nat.le_of_ble_eq_true rfl, Nat.le_of_ble_eq_true rfl⟩) (fun r_113 H locs ws_110 h u_111 p_112 => ?_)
    obtain ⟨e_114, e_115⟩ := p_112
    refine y_if_ne (tgt := 165) C0 dX5_unit_14 (by decide) (fun c_116 => ((o24_34 e_114 e_115 c_116)).elim) (fun c_116 => ?_)
    refine lv_aload_n C0.1 C0.2.1 dX5_unit_17 rfl (lv_at hl 0 rfl) ?_
    refine y_cv h (y_rV (As := []) (rest := []) C0 hZ h (c_X5_advance l G Z ad _ h.2) k_X5_advance q_616 q_0 q_614 kSC_77 rfl rfl rfl hl.1 rfl rfl (Nat.le_of_ble_eq_true rfl) dX5_unit_18 ⟨Nat.le_of_ble_eq_true rfl, Nat.le_of_ble_eq_true rfl⟩ ⟨Nat.le_of_ble_eq_true rfl, Nat.le_of_ble_eq_true rfl⟩) (fun H locs ws_117 h u_118 p_119 => ?_)
    refine lv_aload_n C0.1 C0.2.1 dX5_unit_21 rfl (lv_at hl 0 rfl) ?_
    refine lv_iload_n C0.1 C0.2.1 dX5_unit_22 rfl (lv_at hl 1 rfl) ?_
    refine y_c1 (n := 1) C0 (by decide) dX5_unit_23 (fun v_120 e_121 => ?_)
    refine y_add C0 (o24_74 l1 u1 e_121 (le_min a1) (le_max a1) (le_min v_120) (le_max v_120)) (o24_75 l1 u1 e_121 (le_min a1) (le_max a1) (le_min v_120) (le_max v_120)) dX5_unit_24 (fun v_122 e_123 => ?_)
    refine y_cv h (y_rV (As := [.int v_122]) (rest := []) C0 hZ h (c_X5_unit_1 l G Z ad _ h.2 v_122 (o24_76 l1 u1 e_121 e_123) (o24_77 l1 u1 e_121 e_123)) k_X5_unit q_851 q_21 q_849 kSC_77 rfl rfl rfl hl.1 rfl rfl (Nat.le_of_ble_eq_true rfl) dX5_unit_25 ⟨Nat.le_of_ble_eq_true rfl, Nat.le_of_ble_eq_true rfl⟩ ⟨Nat.le_of_ble_eq_true rfl, Nat.le_of_ble_eq_true rfl⟩) (fun H locs ws_124 h u_125 p_126 => ?_)
    refine lv_aload_n C0.1 C0.2.1 dX5_unit_28 rfl (lv_at hl 0 rfl) ?_
    refine tg_X5_law C0 h kSC_77 q_380 dX5_unit_29 (fun i_127 hi_127 => ?_)
    refine y_c1 (n := 0) C0 (by decide) dX5_unit_32 (fun v_128 e_129 => ?_)
    refine y_cv h (y_rV (As := [.int v_128]) (rest := []) C0 hZ h (c_X4_add l G Z ad _ h.2 i_127 hi_127 v_128) k_X4_add q_827 q_828 q_826 hi_127 rfl rfl rfl hl.1 rfl rfl (Nat.le_of_ble_eq_true rfl) dX5_unit_33 ⟨Nat.le_of_ble_eq_true rfl, Nat.le_of_ble_eq_true rfl⟩ ⟨Nat.le_of_ble_eq_true rfl, Nat.le_of_ble_eq_true rfl⟩) (fun H locs ws_130 h u_131 p_132 => ?_)
    refine lv_aload_n C0.1 C0.2.1 dX5_unit_36 rfl (lv_at hl 0 rfl) ?_
    refine tg_X5_law C0 h kSC_77 q_380 dX5_unit_37 (fun i_133 hi_133 => ?_)
    refine y_c3 (n := 2003) C0 (by decide) dX5_unit_40 (fun v_134 e_135 => ?_)
    refine y_cv h (y_rV (As := [.int v_134]) (rest := []) C0 hZ h (c_X4_add l G Z ad _ h.2 i_133 hi_133 v_134) k_X4_add q_827 q_828 q_826 hi_133 rfl rfl rfl hl.1 rfl rfl (Nat.le_of_ble_eq_true rfl) dX5_unit_43 ⟨Nat.le_of_ble_eq_true rfl, Nat.le_of_ble_eq_true rfl⟩ ⟨Nat.le_of_ble_eq_true rfl, Nat.le_of_ble_eq_true rfl⟩) (fun H locs ws_136 h u_137 p_138 => ?_)
    refine lv_goto (tgt := 165) C0.1 C0.2.1 dX5_unit_46 (by decide) ?_
    rw [hQ]
    exact y_vret C0 h (Fr.tr (Fr.tr (Fr.tr (Fr.tr (Fr.tr (Fr.mono u_2 (by decide)) (Fr.mono u_111 (by decide))) (Fr.mono u_118 (by decide))) u_125) (Fr.mono u_131 (by decide))) (Fr.mono u_137 (by decide))) trivial dX5_unit_165
set_option maxHeartbeats 4000000 in
set_option maxRecDepth 100000 in
theorem c_X5_both_0 (l : Launch) (G : GG) (Z : RZ) (ad : Nat → Nat) (ws0 : va_W) (hT : Ty G (SC tt) ad ws0) (a1 : Int32) (l1 : 0 ≤ a1.toInt) (u1 : a1.toInt ≤ 0) : Mq l yX5_both cX5_both 3 none 28 G Z [.ref (ad 77), .int a1] ws0 (PV G (SC tt) ad [2, 3, 16] ws0 (fun u => True)) := by
  refine Mq.start (by decide) (Nat.le_of_ble_eq_true rfl) ?_
  intro p e s m below meth c A ls C0 hZ h hl
  have hl : lv_has ls 3 [(0, .ref (ad 77)), (1, .int a1)] := hl
  have h : Wt G (SC tt) ad A s s.heap [] ws0 := ⟨h, hT⟩
  obtain ⟨args, hargs⟩ : ∃ z, z = ([.ref (ad 77), .int a1] : List Value).toArray := ⟨_, rfl⟩
  rw [← hargs] at C0 ⊢
  have C0 : Cx p s m args meth c RX5 cX5_both 3 none := C0
  obtain ⟨Q, hQ⟩ : ∃ z, z = MQ below ((PV G (SC tt) ad [2, 3, 16] ws0 (fun u => True)) A) args s 0 0 A := ⟨_, rfl⟩
  rw [← hQ]
  refine lv_aload_n C0.1 C0.2.1 dX5_both_0 rfl (lv_at hl 0 rfl) ?_
  refine lv_iload_n C0.1 C0.2.1 dX5_both_1 rfl (lv_at hl 1 rfl) ?_
  refine y_cv h (y_rV (As := [.int a1]) (rest := []) C0 hZ h (c_X5_unit_0 l G Z ad _ h.2 a1 (o24_72 l1 u1) (o24_73 l1 u1)) k_X5_unit q_851 q_21 q_849 kSC_77 rfl rfl rfl hl.1 rfl rfl (Nat.le_of_ble_eq_true rfl) dX5_both_2 ⟨Nat.le_of_ble_eq_true rfl, Nat.le_of_ble_eq_true rfl⟩ ⟨Nat.le_of_ble_eq_true rfl, Nat.le_of_ble_eq_true rfl⟩) (fun H locs ws_1 h u_2 p_3 => ?_)
  refine y_c1 (n := 0) C0 (by decide) dX5_both_5 (fun v_4 e_5 => ?_)
  refine lv_istore_n (lv' := [(2, .int v_4), (0, .ref (ad 77)), (1, .int a1)]) C0.1 C0.2.1 dX5_both_6 rfl hl (by decide) rfl (fun ls hl => ?_)
  have lp_9 : ∀ (n_11 : Nat) (x2_6 : Int32) (H : Heap) (locs : List Loc) (ls : Array Slot) (ws_7 : va_W), 900 - x2_6.toInt < (n_11 : Int) → 0 ≤ x2_6.toInt → x2_6.toInt ≤ 900 → Wt G (SC tt) ad A s H locs ws_7 → Fr (SC tt) [2, 3, 16] ws_1 ws_7 → lv_has ls 3 [(2, .int x2_6), (0, .ref (ad 77)), (1, .int a1)] → W p l e (rmd 28 0 0) s m args below meth c H locs 0 0 Q (F0 m 7 ls []) := by
    intro n_11
    induction n_11 with
    | zero => intro x2_6 H locs ls ws_7 hn_12 b_13 b_14 h hF_8 hl; exact ((o24_15 b_13 b_14 hn_12)).elim
    | succ n_11 ih_10 =>
      intro x2_6 H locs ls ws_7 hn_12 b_13 b_14 h hF_8 hl
      refine lv_iload_n C0.1 C0.2.1 dX5_both_7 rfl (lv_at hl 0 rfl) ?_
      refine y_c3 (n := 900) C0 (by decide) dX5_both_8 (fun v_15 e_16 => ?_)
      refine y_icmp_ge (tgt := 48) C0 dX5_both_11 (by decide) (fun c_17 => ?_) (fun c_17 => ?_)
      · -- 11
        rw [hQ]
        exact y_vret C0 h (Fr.tr u_2 hF_8) trivial dX5_both_48
      · -- 11
        refine lv_aload_n C0.1 C0.2.1 dX5_both_14 rfl (lv_at hl 1 rfl) ?_
        refine va_ldcS C0.1 C0.2.1 C0.2.2.2.1 (sr_20 hZ) dX5_both_15 ?_
        refine y_ci h (y_rV (As := [.ref (Z.2.1 20)]) (rest := []) C0 hZ h (c_X5_isWord l G Z ad _ h.2 20 (by decide)) k_X5_isWord q_724 q_5 q_722 kSC_77 rfl rfl rfl hl.1 rfl rfl (Nat.le_of_ble_eq_true rfl) dX5_both_17 ⟨Nat.le_of_ble_eq_true rfl, Nat.le_of_ble_eq_true rfl⟩ ⟨Nat.le_of_ble_eq_true rfl, Nat.le_of_ble_eq_true rfl⟩) (fun r_21 H locs ws_18 h u_19 p_20 => ?_)
        obtain ⟨e_22, e_23⟩ := p_20
        refine y_if_eq (tgt := 48) C0 dX5_both_20 (by decide) (fun c_24 => ?_) (fun c_24 => ?_)
        · -- 20
          rw [hQ]
          exact y_vret C0 h (Fr.tr (Fr.tr u_2 hF_8) (Fr.mono u_19 (by decide))) trivial dX5_both_48
        · -- 20
          refine lv_aload_n C0.1 C0.2.1 dX5_both_23 rfl (lv_at hl 1 rfl) ?_
          refine y_cv h (y_rV (As := []) (rest := []) C0 hZ h (c_X5_advance l G Z ad _ h.2) k_X5_advance q_616 q_0 q_614 kSC_77 rfl rfl rfl hl.1 rfl rfl (Nat.le_of_ble_eq_true rfl) dX5_both_24 ⟨Nat.le_of_ble_eq_true rfl, Nat.le_of_ble_eq_true rfl⟩ ⟨Nat.le_of_ble_eq_true rfl, Nat.le_of_ble_eq_true rfl⟩) (fun H locs ws_25 h u_26 p_27 => ?_)
          refine lv_aload_n C0.1 C0.2.1 dX5_both_27 rfl (lv_at hl 1 rfl) ?_
          refine lv_iload_n C0.1 C0.2.1 dX5_both_28 rfl (lv_at hl 2 rfl) ?_
          refine y_cv h (y_rV (As := [.int a1]) (rest := []) C0 hZ h (c_X5_unit_0 l G Z ad _ h.2 a1 (o24_72 l1 u1) (o24_73 l1 u1)) k_X5_unit q_851 q_21 q_849 kSC_77 rfl rfl rfl hl.1 rfl rfl (Nat.le_of_ble_eq_true rfl) dX5_both_29 ⟨Nat.le_of_ble_eq_true rfl, Nat.le_of_ble_eq_true rfl⟩ ⟨Nat.le_of_ble_eq_true rfl, Nat.le_of_ble_eq_true rfl⟩) (fun H locs ws_28 h u_29 p_30 => ?_)
          refine lv_aload_n C0.1 C0.2.1 dX5_both_32 rfl (lv_at hl 1 rfl) ?_
          refine tg_X5_law C0 h kSC_77 q_380 dX5_both_33 (fun i_31 hi_31 => ?_)
          refine y_c3 (n := 2006) C0 (by decide) dX5_both_36 (fun v_32 e_33 => ?_)
          refine y_cv h (y_rV (As := [.int v_32]) (rest := []) C0 hZ h (c_X4_add l G Z ad _ h.2 i_31 hi_31 v_32) k_X4_add q_827 q_828 q_826 hi_31 rfl rfl rfl hl.1 rfl rfl (Nat.le_of_ble_eq_true rfl) dX5_both_39 ⟨Nat.le_of_ble_eq_true rfl, Nat.le_of_ble_eq_true rfl⟩ ⟨Nat.le_of_ble_eq_true rfl, Nat.le_of_ble_eq_true rfl⟩) (fun H locs ws_34 h u_35 p_36 => ?_)
          refine y_inc (kp := 0) (n := 1) (fun v_37 => [(2, .int v_37), (0, .ref (ad 77)), (1, .int a1)]) C0 hl rfl (by decide) (by decide) (fun _ => rfl) (o24_16 b_13 b_14 hn_12 e_16 c_17 (le_min x2_6) (le_max x2_6) (le_min v_15) (le_max v_15)) (o24_17 b_13 b_14 hn_12 e_16 c_17 (le_min x2_6) (le_max x2_6) (le_min v_15) (le_max v_15)) dX5_both_42 (fun v_37 ls e_38 hl => ?_)
          refine lv_goto (tgt := 7) C0.1 C0.2.1 dX5_both_45 (by decide) ?_
          exact ih_10 v_37 _ _ _ _ (o24_18 b_13 b_14 hn_12 e_16 c_17 e_38) (o24_19 b_13 b_14 hn_12 e_16 c_17 e_38) (o24_20 b_13 b_14 hn_12 e_16 c_17 e_38) h (Fr.tr (Fr.tr (Fr.tr (Fr.tr hF_8 (Fr.mono u_19 (by decide))) (Fr.mono u_26 (by decide))) u_29) (Fr.mono u_35 (by decide))) (lv_sub hl [0, 1, 2] rfl)
  exact lp_9 ((900 - v_4.toInt + 1).toNat) v_4 _ _ _ _ (o24_21 e_5) (o24_22 e_5) (o24_23 e_5) h Fr.rf (lv_sub hl [0, 1, 2] rfl)
set_option maxHeartbeats 4000000 in
set_option maxRecDepth 100000 in
theorem c_X5_truth_0 (l : Launch) (G : GG) (Z : RZ) (ad : Nat → Nat) (ws0 : va_W) (hT : Ty G (SC tt) ad ws0) (a1 : Int32) (l1 : 0 ≤ a1.toInt) (u1 : a1.toInt ≤ 0) : Mq l yX5_truth cX5_truth 3 none 29 G Z [.ref (ad 77), .int a1] ws0 (PV G (SC tt) ad [2, 3, 16] ws0 (fun u => True)) := by
  refine Mq.start (by decide) (Nat.le_of_ble_eq_true rfl) ?_
  intro p e s m below meth c A ls C0 hZ h hl
  have hl : lv_has ls 3 [(0, .ref (ad 77)), (1, .int a1)] := hl
  have h : Wt G (SC tt) ad A s s.heap [] ws0 := ⟨h, hT⟩
  obtain ⟨args, hargs⟩ : ∃ z, z = ([.ref (ad 77), .int a1] : List Value).toArray := ⟨_, rfl⟩
  rw [← hargs] at C0 ⊢
  have C0 : Cx p s m args meth c RX5 cX5_truth 3 none := C0
  obtain ⟨Q, hQ⟩ : ∃ z, z = MQ below ((PV G (SC tt) ad [2, 3, 16] ws0 (fun u => True)) A) args s 0 0 A := ⟨_, rfl⟩
  rw [← hQ]
  refine lv_aload_n C0.1 C0.2.1 dX5_truth_0 rfl (lv_at hl 0 rfl) ?_
  refine lv_iload_n C0.1 C0.2.1 dX5_truth_1 rfl (lv_at hl 1 rfl) ?_
  refine y_cv h (y_rV (As := [.int a1]) (rest := []) C0 hZ h (c_X5_both_0 l G Z ad _ h.2 a1 (o24_72 l1 u1) (o24_73 l1 u1)) k_X5_both q_847 q_20 q_845 kSC_77 rfl rfl rfl hl.1 rfl rfl (Nat.le_of_ble_eq_true rfl) dX5_truth_2 ⟨Nat.le_of_ble_eq_true rfl, Nat.le_of_ble_eq_true rfl⟩ ⟨Nat.le_of_ble_eq_true rfl, Nat.le_of_ble_eq_true rfl⟩) (fun H locs ws_1 h u_2 p_3 => ?_)
  refine y_c1 (n := 0) C0 (by decide) dX5_truth_5 (fun v_4 e_5 => ?_)
  refine lv_istore_n (lv' := [(2, .int v_4), (0, .ref (ad 77)), (1, .int a1)]) C0.1 C0.2.1 dX5_truth_6 rfl hl (by decide) rfl (fun ls hl => ?_)
  have lp_9 : ∀ (n_11 : Nat) (x2_6 : Int32) (H : Heap) (locs : List Loc) (ls : Array Slot) (ws_7 : va_W), 900 - x2_6.toInt < (n_11 : Int) → 0 ≤ x2_6.toInt → x2_6.toInt ≤ 900 → Wt G (SC tt) ad A s H locs ws_7 → Fr (SC tt) [2, 3, 16] ws_1 ws_7 → lv_has ls 3 [(2, .int x2_6), (0, .ref (ad 77)), (1, .int a1)] → W p l e (rmd 29 0 0) s m args below meth c H locs 0 0 Q (F0 m 7 ls []) := by
    intro n_11
    induction n_11 with
    | zero => intro x2_6 H locs ls ws_7 hn_12 b_13 b_14 h hF_8 hl; exact ((o24_15 b_13 b_14 hn_12)).elim
    | succ n_11 ih_10 =>
      intro x2_6 H locs ls ws_7 hn_12 b_13 b_14 h hF_8 hl
      refine lv_iload_n C0.1 C0.2.1 dX5_truth_7 rfl (lv_at hl 0 rfl) ?_
      refine y_c3 (n := 900) C0 (by decide) dX5_truth_8 (fun v_15 e_16 => ?_)
      refine y_icmp_ge (tgt := 48) C0 dX5_truth_11 (by decide) (fun c_17 => ?_) (fun c_17 => ?_)
      · -- 11
        rw [hQ]
        exact y_vret C0 h (Fr.tr u_2 hF_8) trivial dX5_truth_48
      · -- 11
        refine lv_aload_n C0.1 C0.2.1 dX5_truth_14 rfl (lv_at hl 1 rfl) ?_
        refine va_ldcS C0.1 C0.2.1 C0.2.2.2.1 (sr_21 hZ) dX5_truth_15 ?_
        refine y_ci h (y_rV (As := [.ref (Z.2.1 21)]) (rest := []) C0 hZ h (c_X5_isWord l G Z ad _ h.2 21 (by decide)) k_X5_isWord q_724 q_5 q_722 kSC_77 rfl rfl rfl hl.1 rfl rfl (Nat.le_of_ble_eq_true rfl) dX5_truth_17 ⟨Nat.le_of_ble_eq_true rfl, Nat.le_of_ble_eq_true rfl⟩ ⟨Nat.le_of_ble_eq_true rfl, Nat.le_of_ble_eq_true rfl⟩) (fun r_21 H locs ws_18 h u_19 p_20 => ?_)
        obtain ⟨e_22, e_23⟩ := p_20
        refine y_if_eq (tgt := 48) C0 dX5_truth_20 (by decide) (fun c_24 => ?_) (fun c_24 => ?_)
        · -- 20
          rw [hQ]
          exact y_vret C0 h (Fr.tr (Fr.tr u_2 hF_8) (Fr.mono u_19 (by decide))) trivial dX5_truth_48
        · -- 20
          refine lv_aload_n C0.1 C0.2.1 dX5_truth_23 rfl (lv_at hl 1 rfl) ?_
          refine y_cv h (y_rV (As := []) (rest := []) C0 hZ h (c_X5_advance l G Z ad _ h.2) k_X5_advance q_616 q_0 q_614 kSC_77 rfl rfl rfl hl.1 rfl rfl (Nat.le_of_ble_eq_true rfl) dX5_truth_24 ⟨Nat.le_of_ble_eq_true rfl, Nat.le_of_ble_eq_true rfl⟩ ⟨Nat.le_of_ble_eq_true rfl, Nat.le_of_ble_eq_true rfl⟩) (fun H locs ws_25 h u_26 p_27 => ?_)
          refine lv_aload_n C0.1 C0.2.1 dX5_truth_27 rfl (lv_at hl 1 rfl) ?_
          refine lv_iload_n C0.1 C0.2.1 dX5_truth_28 rfl (lv_at hl 2 rfl) ?_
          refine y_cv h (y_rV (As := [.int a1]) (rest := []) C0 hZ h (c_X5_both_0 l G Z ad _ h.2 a1 (o24_72 l1 u1) (o24_73 l1 u1)) k_X5_both q_847 q_20 q_845 kSC_77 rfl rfl rfl hl.1 rfl rfl (Nat.le_of_ble_eq_true rfl) dX5_truth_29 ⟨Nat.le_of_ble_eq_true rfl, Nat.le_of_ble_eq_true rfl⟩ ⟨Nat.le_of_ble_eq_true rfl, Nat.le_of_ble_eq_true rfl⟩) (fun H locs ws_28 h u_29 p_30 => ?_)
          refine lv_aload_n C0.1 C0.2.1 dX5_truth_32 rfl (lv_at hl 1 rfl) ?_
          refine tg_X5_law C0 h kSC_77 q_380 dX5_truth_33 (fun i_31 hi_31 => ?_)
          refine y_c3 (n := 2007) C0 (by decide) dX5_truth_36 (fun v_32 e_33 => ?_)
          refine y_cv h (y_rV (As := [.int v_32]) (rest := []) C0 hZ h (c_X4_add l G Z ad _ h.2 i_31 hi_31 v_32) k_X4_add q_827 q_828 q_826 hi_31 rfl rfl rfl hl.1 rfl rfl (Nat.le_of_ble_eq_true rfl) dX5_truth_39 ⟨Nat.le_of_ble_eq_true rfl, Nat.le_of_ble_eq_true rfl⟩ ⟨Nat.le_of_ble_eq_true rfl, Nat.le_of_ble_eq_true rfl⟩) (fun H locs ws_34 h u_35 p_36 => ?_)
          refine y_inc (kp := 0) (n := 1) (fun v_37 => [(2, .int v_37), (0, .ref (ad 77)), (1, .int a1)]) C0 hl rfl (by decide) (by decide) (fun _ => rfl) (o24_16 b_13 b_14 hn_12 e_16 c_17 (le_min x2_6) (le_max x2_6) (le_min v_15) (le_max v_15)) (o24_17 b_13 b_14 hn_12 e_16 c_17 (le_min x2_6) (le_max x2_6) (le_min v_15) (le_max v_15)) dX5_truth_42 (fun v_37 ls e_38 hl => ?_)
          refine lv_goto (tgt := 7) C0.1 C0.2.1 dX5_truth_45 (by decide) ?_
          exact ih_10 v_37 _ _ _ _ (o24_18 b_13 b_14 hn_12 e_16 c_17 e_38) (o24_19 b_13 b_14 hn_12 e_16 c_17 e_38) (o24_20 b_13 b_14 hn_12 e_16 c_17 e_38) h (Fr.tr (Fr.tr (Fr.tr (Fr.tr hF_8 (Fr.mono u_19 (by decide))) (Fr.mono u_26 (by decide))) u_29) (Fr.mono u_35 (by decide))) (lv_sub hl [0, 1, 2] rfl)
  exact lp_9 ((900 - v_4.toInt + 1).toNat) v_4 _ _ _ _ (o24_21 e_5) (o24_22 e_5) (o24_23 e_5) h Fr.rf (lv_sub hl [0, 1, 2] rfl)
