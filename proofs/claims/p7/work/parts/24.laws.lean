theorem dX5_atom_0 : decode cX5_atom 0 = .ok (.aload_n 0, 1) := by decide +kernel
theorem dX5_atom_1 : decode cX5_atom 1 = .ok (.getfield 50, 3) := by decide +kernel
theorem dX5_atom_4 : decode cX5_atom 4 = .ok (.iconst 2, 1) := by decide +kernel
theorem dX5_atom_5 : decode cX5_atom 5 = .ok (.if_icmp .ne 21, 3) := by decide +kernel
theorem dX5_atom_8 : decode cX5_atom 8 = .ok (.aload_n 0, 1) := by decide +kernel
theorem dX5_atom_9 : decode cX5_atom 9 = .ok (.getfield 29, 3) := by decide +kernel
theorem dX5_atom_12 : decode cX5_atom 12 = .ok (.aload_n 0, 1) := by decide +kernel
theorem dX5_atom_13 : decode cX5_atom 13 = .ok (.getfield 73, 3) := by decide +kernel
theorem dX5_atom_16 : decode cX5_atom 16 = .ok (.invokevirtual 199, 3) := by decide +kernel
theorem dX5_atom_19 : decode cX5_atom 19 = .ok (.aload_n 0, 1) := by decide +kernel
theorem dX5_atom_20 : decode cX5_atom 20 = .ok (.invokevirtual 47, 3) := by decide +kernel
theorem dX5_atom_23 : decode cX5_atom 23 = .ok (.goto 154, 3) := by decide +kernel
theorem dX5_atom_26 : decode cX5_atom 26 = .ok (.aload_n 0, 1) := by decide +kernel
theorem dX5_atom_27 : decode cX5_atom 27 = .ok (.getfield 50, 3) := by decide +kernel
theorem dX5_atom_30 : decode cX5_atom 30 = .ok (.bipush 40, 2) := by decide +kernel
theorem dX5_atom_32 : decode cX5_atom 32 = .ok (.if_icmp .ne 31, 3) := by decide +kernel
theorem dX5_atom_35 : decode cX5_atom 35 = .ok (.aload_n 0, 1) := by decide +kernel
theorem dX5_atom_36 : decode cX5_atom 36 = .ok (.iload_n 1, 1) := by decide +kernel
theorem dX5_atom_37 : decode cX5_atom 37 = .ok (.invokevirtual 209, 3) := by decide +kernel
theorem dX5_atom_40 : decode cX5_atom 40 = .ok (.ifCond .ne 137, 3) := by decide +kernel
theorem dX5_atom_43 : decode cX5_atom 43 = .ok (.aload_n 0, 1) := by decide +kernel
theorem dX5_atom_44 : decode cX5_atom 44 = .ok (.invokevirtual 47, 3) := by decide +kernel
theorem dX5_atom_47 : decode cX5_atom 47 = .ok (.aload_n 0, 1) := by decide +kernel
theorem dX5_atom_48 : decode cX5_atom 48 = .ok (.iload_n 1, 1) := by decide +kernel
theorem dX5_atom_49 : decode cX5_atom 49 = .ok (.iconst 1, 1) := by decide +kernel
theorem dX5_atom_50 : decode cX5_atom 50 = .ok (.iadd, 1) := by decide +kernel
theorem dX5_atom_51 : decode cX5_atom 51 = .ok (.invokevirtual 124, 3) := by decide +kernel
theorem dX5_atom_54 : decode cX5_atom 54 = .ok (.aload_n 0, 1) := by decide +kernel
theorem dX5_atom_55 : decode cX5_atom 55 = .ok (.bipush 41, 2) := by decide +kernel
theorem dX5_atom_57 : decode cX5_atom 57 = .ok (.invokevirtual 56, 3) := by decide +kernel
theorem dX5_atom_60 : decode cX5_atom 60 = .ok (.goto 117, 3) := by decide +kernel
theorem dX5_atom_63 : decode cX5_atom 63 = .ok (.aload_n 0, 1) := by decide +kernel
theorem dX5_atom_64 : decode cX5_atom 64 = .ok (.ldc 218, 2) := by decide +kernel
theorem dX5_atom_66 : decode cX5_atom 66 = .ok (.invokevirtual 96, 3) := by decide +kernel
theorem dX5_atom_69 : decode cX5_atom 69 = .ok (.ifCond .eq 9, 3) := by decide +kernel
theorem dX5_atom_72 : decode cX5_atom 72 = .ok (.sipush 1000, 3) := by decide +kernel
theorem dX5_atom_75 : decode cX5_atom 75 = .ok (.goto 79, 3) := by decide +kernel
theorem dX5_atom_78 : decode cX5_atom 78 = .ok (.aload_n 0, 1) := by decide +kernel
theorem dX5_atom_79 : decode cX5_atom 79 = .ok (.ldc 220, 2) := by decide +kernel
theorem dX5_atom_81 : decode cX5_atom 81 = .ok (.invokevirtual 96, 3) := by decide +kernel
theorem dX5_atom_84 : decode cX5_atom 84 = .ok (.ifCond .eq 9, 3) := by decide +kernel
theorem dX5_atom_87 : decode cX5_atom 87 = .ok (.sipush 1001, 3) := by decide +kernel
theorem dX5_atom_90 : decode cX5_atom 90 = .ok (.goto 64, 3) := by decide +kernel
theorem dX5_atom_93 : decode cX5_atom 93 = .ok (.aload_n 0, 1) := by decide +kernel
theorem dX5_atom_94 : decode cX5_atom 94 = .ok (.ldc 135, 2) := by decide +kernel
theorem dX5_atom_96 : decode cX5_atom 96 = .ok (.invokevirtual 96, 3) := by decide +kernel
theorem dX5_atom_99 : decode cX5_atom 99 = .ok (.ifCond .eq 9, 3) := by decide +kernel
theorem dX5_atom_102 : decode cX5_atom 102 = .ok (.sipush 1002, 3) := by decide +kernel
theorem dX5_atom_105 : decode cX5_atom 105 = .ok (.goto 49, 3) := by decide +kernel
theorem dX5_atom_108 : decode cX5_atom 108 = .ok (.aload_n 0, 1) := by decide +kernel
theorem dX5_atom_109 : decode cX5_atom 109 = .ok (.ldc 222, 2) := by decide +kernel
theorem dX5_atom_111 : decode cX5_atom 111 = .ok (.invokevirtual 96, 3) := by decide +kernel
theorem dX5_atom_114 : decode cX5_atom 114 = .ok (.ifCond .eq 9, 3) := by decide +kernel
theorem dX5_atom_117 : decode cX5_atom 117 = .ok (.sipush 1003, 3) := by decide +kernel
theorem dX5_atom_120 : decode cX5_atom 120 = .ok (.goto 34, 3) := by decide +kernel
theorem dX5_atom_123 : decode cX5_atom 123 = .ok (.aload_n 0, 1) := by decide +kernel
theorem dX5_atom_124 : decode cX5_atom 124 = .ok (.ldc 224, 2) := by decide +kernel
theorem dX5_atom_126 : decode cX5_atom 126 = .ok (.invokevirtual 96, 3) := by decide +kernel
theorem dX5_atom_129 : decode cX5_atom 129 = .ok (.ifCond .eq 9, 3) := by decide +kernel
theorem dX5_atom_132 : decode cX5_atom 132 = .ok (.sipush 1004, 3) := by decide +kernel
theorem dX5_atom_135 : decode cX5_atom 135 = .ok (.goto 19, 3) := by decide +kernel
theorem dX5_atom_138 : decode cX5_atom 138 = .ok (.aload_n 0, 1) := by decide +kernel
theorem dX5_atom_139 : decode cX5_atom 139 = .ok (.ldc 226, 2) := by decide +kernel
theorem dX5_atom_141 : decode cX5_atom 141 = .ok (.invokevirtual 96, 3) := by decide +kernel
theorem dX5_atom_144 : decode cX5_atom 144 = .ok (.ifCond .eq 9, 3) := by decide +kernel
theorem dX5_atom_147 : decode cX5_atom 147 = .ok (.sipush 1005, 3) := by decide +kernel
theorem dX5_atom_150 : decode cX5_atom 150 = .ok (.goto 4, 3) := by decide +kernel
theorem dX5_atom_153 : decode cX5_atom 153 = .ok (.iconst (-1), 1) := by decide +kernel
theorem dX5_atom_154 : decode cX5_atom 154 = .ok (.istore_n 2, 1) := by decide +kernel
theorem dX5_atom_155 : decode cX5_atom 155 = .ok (.iload_n 2, 1) := by decide +kernel
theorem dX5_atom_156 : decode cX5_atom 156 = .ok (.ifCond .ge 9, 3) := by decide +kernel
theorem dX5_atom_159 : decode cX5_atom 159 = .ok (.aload_n 0, 1) := by decide +kernel
theorem dX5_atom_160 : decode cX5_atom 160 = .ok (.iconst 2, 1) := by decide +kernel
theorem dX5_atom_161 : decode cX5_atom 161 = .ok (.invokevirtual 76, 3) := by decide +kernel
theorem dX5_atom_164 : decode cX5_atom 164 = .ok (.return_, 1) := by decide +kernel
theorem dX5_atom_165 : decode cX5_atom 165 = .ok (.aload_n 0, 1) := by decide +kernel
theorem dX5_atom_166 : decode cX5_atom 166 = .ok (.getfield 29, 3) := by decide +kernel
theorem dX5_atom_169 : decode cX5_atom 169 = .ok (.iload_n 2, 1) := by decide +kernel
theorem dX5_atom_170 : decode cX5_atom 170 = .ok (.invokevirtual 199, 3) := by decide +kernel
theorem dX5_atom_173 : decode cX5_atom 173 = .ok (.aload_n 0, 1) := by decide +kernel
theorem dX5_atom_174 : decode cX5_atom 174 = .ok (.invokevirtual 47, 3) := by decide +kernel
theorem dX5_atom_177 : decode cX5_atom 177 = .ok (.return_, 1) := by decide +kernel
theorem dX5_both_0 : decode cX5_both 0 = .ok (.aload_n 0, 1) := by decide +kernel
theorem dX5_both_1 : decode cX5_both 1 = .ok (.iload_n 1, 1) := by decide +kernel
theorem dX5_both_2 : decode cX5_both 2 = .ok (.invokevirtual 202, 3) := by decide +kernel
theorem dX5_both_5 : decode cX5_both 5 = .ok (.iconst 0, 1) := by decide +kernel
theorem dX5_both_6 : decode cX5_both 6 = .ok (.istore_n 2, 1) := by decide +kernel
theorem dX5_both_7 : decode cX5_both 7 = .ok (.iload_n 2, 1) := by decide +kernel
theorem dX5_both_8 : decode cX5_both 8 = .ok (.sipush 900, 3) := by decide +kernel
theorem dX5_both_11 : decode cX5_both 11 = .ok (.if_icmp .ge 37, 3) := by decide +kernel
theorem dX5_both_14 : decode cX5_both 14 = .ok (.aload_n 0, 1) := by decide +kernel
theorem dX5_both_15 : decode cX5_both 15 = .ok (.ldc 205, 2) := by decide +kernel
theorem dX5_both_17 : decode cX5_both 17 = .ok (.invokevirtual 96, 3) := by decide +kernel
theorem dX5_both_20 : decode cX5_both 20 = .ok (.ifCond .eq 28, 3) := by decide +kernel
theorem dX5_both_23 : decode cX5_both 23 = .ok (.aload_n 0, 1) := by decide +kernel
theorem dX5_both_24 : decode cX5_both 24 = .ok (.invokevirtual 47, 3) := by decide +kernel
theorem dX5_both_27 : decode cX5_both 27 = .ok (.aload_n 0, 1) := by decide +kernel
theorem dX5_both_28 : decode cX5_both 28 = .ok (.iload_n 1, 1) := by decide +kernel
theorem dX5_both_29 : decode cX5_both 29 = .ok (.invokevirtual 202, 3) := by decide +kernel
theorem dX5_both_32 : decode cX5_both 32 = .ok (.aload_n 0, 1) := by decide +kernel
theorem dX5_both_33 : decode cX5_both 33 = .ok (.getfield 29, 3) := by decide +kernel
theorem dX5_both_36 : decode cX5_both 36 = .ok (.sipush 2006, 3) := by decide +kernel
theorem dX5_both_39 : decode cX5_both 39 = .ok (.invokevirtual 199, 3) := by decide +kernel
theorem dX5_both_42 : decode cX5_both 42 = .ok (.iinc 2 1, 3) := by decide +kernel
theorem dX5_both_45 : decode cX5_both 45 = .ok (.goto (-38), 3) := by decide +kernel
theorem dX5_both_48 : decode cX5_both 48 = .ok (.return_, 1) := by decide +kernel
theorem dX5_sum_0 : decode cX5_sum 0 = .ok (.aload_n 0, 1) := by decide +kernel
theorem dX5_sum_1 : decode cX5_sum 1 = .ok (.iload_n 1, 1) := by decide +kernel
theorem dX5_sum_2 : decode cX5_sum 2 = .ok (.invokevirtual 212, 3) := by decide +kernel
theorem dX5_sum_5 : decode cX5_sum 5 = .ok (.iconst 0, 1) := by decide +kernel
theorem dX5_sum_6 : decode cX5_sum 6 = .ok (.istore_n 2, 1) := by decide +kernel
theorem dX5_sum_7 : decode cX5_sum 7 = .ok (.iload_n 2, 1) := by decide +kernel
theorem dX5_sum_8 : decode cX5_sum 8 = .ok (.sipush 900, 3) := by decide +kernel
theorem dX5_sum_11 : decode cX5_sum 11 = .ok (.if_icmp .ge 63, 3) := by decide +kernel
theorem dX5_sum_14 : decode cX5_sum 14 = .ok (.aload_n 0, 1) := by decide +kernel
theorem dX5_sum_15 : decode cX5_sum 15 = .ok (.getfield 50, 3) := by decide +kernel
theorem dX5_sum_18 : decode cX5_sum 18 = .ok (.bipush 43, 2) := by decide +kernel
theorem dX5_sum_20 : decode cX5_sum 20 = .ok (.if_icmp .eq 12, 3) := by decide +kernel
theorem dX5_sum_23 : decode cX5_sum 23 = .ok (.aload_n 0, 1) := by decide +kernel
theorem dX5_sum_24 : decode cX5_sum 24 = .ok (.getfield 50, 3) := by decide +kernel
theorem dX5_sum_27 : decode cX5_sum 27 = .ok (.bipush 45, 2) := by decide +kernel
theorem dX5_sum_29 : decode cX5_sum 29 = .ok (.if_icmp .ne 45, 3) := by decide +kernel
theorem dX5_sum_32 : decode cX5_sum 32 = .ok (.aload_n 0, 1) := by decide +kernel
theorem dX5_sum_33 : decode cX5_sum 33 = .ok (.getfield 50, 3) := by decide +kernel
theorem dX5_sum_36 : decode cX5_sum 36 = .ok (.bipush 43, 2) := by decide +kernel
theorem dX5_sum_38 : decode cX5_sum 38 = .ok (.if_icmp .ne 9, 3) := by decide +kernel
theorem dX5_sum_41 : decode cX5_sum 41 = .ok (.sipush 2000, 3) := by decide +kernel
theorem dX5_sum_44 : decode cX5_sum 44 = .ok (.goto 6, 3) := by decide +kernel
theorem dX5_sum_47 : decode cX5_sum 47 = .ok (.sipush 2001, 3) := by decide +kernel
theorem dX5_sum_50 : decode cX5_sum 50 = .ok (.istore_n 3, 1) := by decide +kernel
theorem dX5_sum_51 : decode cX5_sum 51 = .ok (.aload_n 0, 1) := by decide +kernel
theorem dX5_sum_52 : decode cX5_sum 52 = .ok (.invokevirtual 47, 3) := by decide +kernel
theorem dX5_sum_55 : decode cX5_sum 55 = .ok (.aload_n 0, 1) := by decide +kernel
theorem dX5_sum_56 : decode cX5_sum 56 = .ok (.iload_n 1, 1) := by decide +kernel
theorem dX5_sum_57 : decode cX5_sum 57 = .ok (.invokevirtual 212, 3) := by decide +kernel
theorem dX5_sum_60 : decode cX5_sum 60 = .ok (.aload_n 0, 1) := by decide +kernel
theorem dX5_sum_61 : decode cX5_sum 61 = .ok (.getfield 29, 3) := by decide +kernel
theorem dX5_sum_64 : decode cX5_sum 64 = .ok (.iload_n 3, 1) := by decide +kernel
theorem dX5_sum_65 : decode cX5_sum 65 = .ok (.invokevirtual 199, 3) := by decide +kernel
theorem dX5_sum_68 : decode cX5_sum 68 = .ok (.iinc 2 1, 3) := by decide +kernel
theorem dX5_sum_71 : decode cX5_sum 71 = .ok (.goto (-64), 3) := by decide +kernel
theorem dX5_sum_74 : decode cX5_sum 74 = .ok (.return_, 1) := by decide +kernel
theorem dX5_term_0 : decode cX5_term 0 = .ok (.aload_n 0, 1) := by decide +kernel
theorem dX5_term_1 : decode cX5_term 1 = .ok (.iload_n 1, 1) := by decide +kernel
theorem dX5_term_2 : decode cX5_term 2 = .ok (.invokevirtual 215, 3) := by decide +kernel
theorem dX5_term_5 : decode cX5_term 5 = .ok (.iconst 0, 1) := by decide +kernel
theorem dX5_term_6 : decode cX5_term 6 = .ok (.istore_n 2, 1) := by decide +kernel
theorem dX5_term_7 : decode cX5_term 7 = .ok (.iload_n 2, 1) := by decide +kernel
theorem dX5_term_8 : decode cX5_term 8 = .ok (.sipush 900, 3) := by decide +kernel
theorem dX5_term_11 : decode cX5_term 11 = .ok (.if_icmp .ge 37, 3) := by decide +kernel
theorem dX5_term_14 : decode cX5_term 14 = .ok (.aload_n 0, 1) := by decide +kernel
theorem dX5_term_15 : decode cX5_term 15 = .ok (.getfield 50, 3) := by decide +kernel
theorem dX5_term_18 : decode cX5_term 18 = .ok (.bipush 42, 2) := by decide +kernel
theorem dX5_term_20 : decode cX5_term 20 = .ok (.if_icmp .ne 28, 3) := by decide +kernel
theorem dX5_term_23 : decode cX5_term 23 = .ok (.aload_n 0, 1) := by decide +kernel
theorem dX5_term_24 : decode cX5_term 24 = .ok (.invokevirtual 47, 3) := by decide +kernel
theorem dX5_term_27 : decode cX5_term 27 = .ok (.aload_n 0, 1) := by decide +kernel
theorem dX5_term_28 : decode cX5_term 28 = .ok (.iload_n 1, 1) := by decide +kernel
theorem dX5_term_29 : decode cX5_term 29 = .ok (.invokevirtual 215, 3) := by decide +kernel
theorem dX5_term_32 : decode cX5_term 32 = .ok (.aload_n 0, 1) := by decide +kernel
theorem dX5_term_33 : decode cX5_term 33 = .ok (.getfield 29, 3) := by decide +kernel
theorem dX5_term_36 : decode cX5_term 36 = .ok (.sipush 2002, 3) := by decide +kernel
theorem dX5_term_39 : decode cX5_term 39 = .ok (.invokevirtual 199, 3) := by decide +kernel
theorem dX5_term_42 : decode cX5_term 42 = .ok (.iinc 2 1, 3) := by decide +kernel
theorem dX5_term_45 : decode cX5_term 45 = .ok (.goto (-38), 3) := by decide +kernel
theorem dX5_term_48 : decode cX5_term 48 = .ok (.return_, 1) := by decide +kernel
theorem dX5_tooDeep_0 : decode cX5_tooDeep 0 = .ok (.iload_n 1, 1) := by decide +kernel
theorem dX5_tooDeep_1 : decode cX5_tooDeep 1 = .ok (.bipush 6, 2) := by decide +kernel
theorem dX5_tooDeep_3 : decode cX5_tooDeep 3 = .ok (.if_icmp .lt 10, 3) := by decide +kernel
theorem dX5_tooDeep_6 : decode cX5_tooDeep 6 = .ok (.aload_n 0, 1) := by decide +kernel
theorem dX5_tooDeep_7 : decode cX5_tooDeep 7 = .ok (.iconst 4, 1) := by decide +kernel
theorem dX5_tooDeep_8 : decode cX5_tooDeep 8 = .ok (.invokevirtual 76, 3) := by decide +kernel
theorem dX5_tooDeep_11 : decode cX5_tooDeep 11 = .ok (.iconst 1, 1) := by decide +kernel
theorem dX5_tooDeep_12 : decode cX5_tooDeep 12 = .ok (.ireturn, 1) := by decide +kernel
theorem dX5_tooDeep_13 : decode cX5_tooDeep 13 = .ok (.iconst 0, 1) := by decide +kernel
theorem dX5_tooDeep_14 : decode cX5_tooDeep 14 = .ok (.ireturn, 1) := by decide +kernel
theorem dX5_truth_0 : decode cX5_truth 0 = .ok (.aload_n 0, 1) := by decide +kernel
theorem dX5_truth_1 : decode cX5_truth 1 = .ok (.iload_n 1, 1) := by decide +kernel
theorem dX5_truth_2 : decode cX5_truth 2 = .ok (.invokevirtual 194, 3) := by decide +kernel
theorem dX5_truth_5 : decode cX5_truth 5 = .ok (.iconst 0, 1) := by decide +kernel
theorem dX5_truth_6 : decode cX5_truth 6 = .ok (.istore_n 2, 1) := by decide +kernel
theorem dX5_truth_7 : decode cX5_truth 7 = .ok (.iload_n 2, 1) := by decide +kernel
theorem dX5_truth_8 : decode cX5_truth 8 = .ok (.sipush 900, 3) := by decide +kernel
theorem dX5_truth_11 : decode cX5_truth 11 = .ok (.if_icmp .ge 37, 3) := by decide +kernel
theorem dX5_truth_14 : decode cX5_truth 14 = .ok (.aload_n 0, 1) := by decide +kernel
theorem dX5_truth_15 : decode cX5_truth 15 = .ok (.ldc 197, 2) := by decide +kernel
theorem dX5_truth_17 : decode cX5_truth 17 = .ok (.invokevirtual 96, 3) := by decide +kernel
theorem dX5_truth_20 : decode cX5_truth 20 = .ok (.ifCond .eq 28, 3) := by decide +kernel
theorem dX5_truth_23 : decode cX5_truth 23 = .ok (.aload_n 0, 1) := by decide +kernel
theorem dX5_truth_24 : decode cX5_truth 24 = .ok (.invokevirtual 47, 3) := by decide +kernel
theorem dX5_truth_27 : decode cX5_truth 27 = .ok (.aload_n 0, 1) := by decide +kernel
theorem dX5_truth_28 : decode cX5_truth 28 = .ok (.iload_n 1, 1) := by decide +kernel
theorem dX5_truth_29 : decode cX5_truth 29 = .ok (.invokevirtual 194, 3) := by decide +kernel
theorem dX5_truth_32 : decode cX5_truth 32 = .ok (.aload_n 0, 1) := by decide +kernel
theorem dX5_truth_33 : decode cX5_truth 33 = .ok (.getfield 29, 3) := by decide +kernel
theorem dX5_truth_36 : decode cX5_truth 36 = .ok (.sipush 2007, 3) := by decide +kernel
theorem dX5_truth_39 : decode cX5_truth 39 = .ok (.invokevirtual 199, 3) := by decide +kernel
theorem dX5_truth_42 : decode cX5_truth 42 = .ok (.iinc 2 1, 3) := by decide +kernel
theorem dX5_truth_45 : decode cX5_truth 45 = .ok (.goto (-38), 3) := by decide +kernel
theorem dX5_truth_48 : decode cX5_truth 48 = .ok (.return_, 1) := by decide +kernel
theorem dX5_unit_0 : decode cX5_unit 0 = .ok (.aload_n 0, 1) := by decide +kernel
theorem dX5_unit_1 : decode cX5_unit 1 = .ok (.ldc 207, 2) := by decide +kernel
theorem dX5_unit_3 : decode cX5_unit 3 = .ok (.invokevirtual 96, 3) := by decide +kernel
theorem dX5_unit_6 : decode cX5_unit 6 = .ok (.ifCond .eq 43, 3) := by decide +kernel
theorem dX5_unit_9 : decode cX5_unit 9 = .ok (.aload_n 0, 1) := by decide +kernel
theorem dX5_unit_10 : decode cX5_unit 10 = .ok (.iload_n 1, 1) := by decide +kernel
theorem dX5_unit_11 : decode cX5_unit 11 = .ok (.invokevirtual 209, 3) := by decide +kernel
theorem dX5_unit_14 : decode cX5_unit 14 = .ok (.ifCond .ne 151, 3) := by decide +kernel
theorem dX5_unit_17 : decode cX5_unit 17 = .ok (.aload_n 0, 1) := by decide +kernel
theorem dX5_unit_18 : decode cX5_unit 18 = .ok (.invokevirtual 47, 3) := by decide +kernel
theorem dX5_unit_21 : decode cX5_unit 21 = .ok (.aload_n 0, 1) := by decide +kernel
theorem dX5_unit_22 : decode cX5_unit 22 = .ok (.iload_n 1, 1) := by decide +kernel
theorem dX5_unit_23 : decode cX5_unit 23 = .ok (.iconst 1, 1) := by decide +kernel
theorem dX5_unit_24 : decode cX5_unit 24 = .ok (.iadd, 1) := by decide +kernel
theorem dX5_unit_25 : decode cX5_unit 25 = .ok (.invokevirtual 202, 3) := by decide +kernel
theorem dX5_unit_28 : decode cX5_unit 28 = .ok (.aload_n 0, 1) := by decide +kernel
theorem dX5_unit_29 : decode cX5_unit 29 = .ok (.getfield 29, 3) := by decide +kernel
theorem dX5_unit_32 : decode cX5_unit 32 = .ok (.iconst 0, 1) := by decide +kernel
theorem dX5_unit_33 : decode cX5_unit 33 = .ok (.invokevirtual 199, 3) := by decide +kernel
theorem dX5_unit_36 : decode cX5_unit 36 = .ok (.aload_n 0, 1) := by decide +kernel
theorem dX5_unit_37 : decode cX5_unit 37 = .ok (.getfield 29, 3) := by decide +kernel
theorem dX5_unit_40 : decode cX5_unit 40 = .ok (.sipush 2003, 3) := by decide +kernel
theorem dX5_unit_43 : decode cX5_unit 43 = .ok (.invokevirtual 199, 3) := by decide +kernel
theorem dX5_unit_46 : decode cX5_unit 46 = .ok (.goto 119, 3) := by decide +kernel
theorem dX5_unit_49 : decode cX5_unit 49 = .ok (.aload_n 0, 1) := by decide +kernel
theorem dX5_unit_50 : decode cX5_unit 50 = .ok (.getfield 50, 3) := by decide +kernel
theorem dX5_unit_53 : decode cX5_unit 53 = .ok (.bipush 91, 2) := by decide +kernel
theorem dX5_unit_55 : decode cX5_unit 55 = .ok (.if_icmp .ne 31, 3) := by decide +kernel
theorem dX5_unit_58 : decode cX5_unit 58 = .ok (.aload_n 0, 1) := by decide +kernel
theorem dX5_unit_59 : decode cX5_unit 59 = .ok (.iload_n 1, 1) := by decide +kernel
theorem dX5_unit_60 : decode cX5_unit 60 = .ok (.invokevirtual 209, 3) := by decide +kernel
theorem dX5_unit_63 : decode cX5_unit 63 = .ok (.ifCond .ne 102, 3) := by decide +kernel
theorem dX5_unit_66 : decode cX5_unit 66 = .ok (.aload_n 0, 1) := by decide +kernel
theorem dX5_unit_67 : decode cX5_unit 67 = .ok (.invokevirtual 47, 3) := by decide +kernel
theorem dX5_unit_70 : decode cX5_unit 70 = .ok (.aload_n 0, 1) := by decide +kernel
theorem dX5_unit_71 : decode cX5_unit 71 = .ok (.iload_n 1, 1) := by decide +kernel
theorem dX5_unit_72 : decode cX5_unit 72 = .ok (.iconst 1, 1) := by decide +kernel
theorem dX5_unit_73 : decode cX5_unit 73 = .ok (.iadd, 1) := by decide +kernel
theorem dX5_unit_74 : decode cX5_unit 74 = .ok (.invokevirtual 132, 3) := by decide +kernel
theorem dX5_unit_77 : decode cX5_unit 77 = .ok (.aload_n 0, 1) := by decide +kernel
theorem dX5_unit_78 : decode cX5_unit 78 = .ok (.bipush 93, 2) := by decide +kernel
theorem dX5_unit_80 : decode cX5_unit 80 = .ok (.invokevirtual 56, 3) := by decide +kernel
theorem dX5_unit_83 : decode cX5_unit 83 = .ok (.goto 82, 3) := by decide +kernel
theorem dX5_unit_86 : decode cX5_unit 86 = .ok (.aload_n 0, 1) := by decide +kernel
theorem dX5_unit_87 : decode cX5_unit 87 = .ok (.iload_n 1, 1) := by decide +kernel
theorem dX5_unit_88 : decode cX5_unit 88 = .ok (.invokevirtual 124, 3) := by decide +kernel
theorem dX5_unit_91 : decode cX5_unit 91 = .ok (.aload_n 0, 1) := by decide +kernel
theorem dX5_unit_92 : decode cX5_unit 92 = .ok (.getfield 50, 3) := by decide +kernel
theorem dX5_unit_95 : decode cX5_unit 95 = .ok (.bipush 61, 2) := by decide +kernel
theorem dX5_unit_97 : decode cX5_unit 97 = .ok (.if_icmp .ne 9, 3) := by decide +kernel
theorem dX5_unit_100 : decode cX5_unit 100 = .ok (.sipush 2003, 3) := by decide +kernel
theorem dX5_unit_103 : decode cX5_unit 103 = .ok (.goto 34, 3) := by decide +kernel
theorem dX5_unit_106 : decode cX5_unit 106 = .ok (.aload_n 0, 1) := by decide +kernel
theorem dX5_unit_107 : decode cX5_unit 107 = .ok (.getfield 50, 3) := by decide +kernel
theorem dX5_unit_110 : decode cX5_unit 110 = .ok (.bipush 60, 2) := by decide +kernel
theorem dX5_unit_112 : decode cX5_unit 112 = .ok (.if_icmp .ne 9, 3) := by decide +kernel
theorem dX5_unit_115 : decode cX5_unit 115 = .ok (.sipush 2004, 3) := by decide +kernel
theorem dX5_unit_118 : decode cX5_unit 118 = .ok (.goto 19, 3) := by decide +kernel
theorem dX5_unit_121 : decode cX5_unit 121 = .ok (.aload_n 0, 1) := by decide +kernel
theorem dX5_unit_122 : decode cX5_unit 122 = .ok (.getfield 50, 3) := by decide +kernel
theorem dX5_unit_125 : decode cX5_unit 125 = .ok (.bipush 62, 2) := by decide +kernel
theorem dX5_unit_127 : decode cX5_unit 127 = .ok (.if_icmp .ne 9, 3) := by decide +kernel
theorem dX5_unit_130 : decode cX5_unit 130 = .ok (.sipush 2005, 3) := by decide +kernel
theorem dX5_unit_133 : decode cX5_unit 133 = .ok (.goto 4, 3) := by decide +kernel
theorem dX5_unit_136 : decode cX5_unit 136 = .ok (.iconst (-1), 1) := by decide +kernel
theorem dX5_unit_137 : decode cX5_unit 137 = .ok (.istore_n 2, 1) := by decide +kernel
theorem dX5_unit_138 : decode cX5_unit 138 = .ok (.iload_n 2, 1) := by decide +kernel
theorem dX5_unit_139 : decode cX5_unit 139 = .ok (.ifCond .ge 9, 3) := by decide +kernel
theorem dX5_unit_142 : decode cX5_unit 142 = .ok (.aload_n 0, 1) := by decide +kernel
theorem dX5_unit_143 : decode cX5_unit 143 = .ok (.iconst 2, 1) := by decide +kernel
theorem dX5_unit_144 : decode cX5_unit 144 = .ok (.invokevirtual 76, 3) := by decide +kernel
theorem dX5_unit_147 : decode cX5_unit 147 = .ok (.return_, 1) := by decide +kernel
theorem dX5_unit_148 : decode cX5_unit 148 = .ok (.aload_n 0, 1) := by decide +kernel
theorem dX5_unit_149 : decode cX5_unit 149 = .ok (.invokevirtual 47, 3) := by decide +kernel
theorem dX5_unit_152 : decode cX5_unit 152 = .ok (.aload_n 0, 1) := by decide +kernel
theorem dX5_unit_153 : decode cX5_unit 153 = .ok (.iload_n 1, 1) := by decide +kernel
theorem dX5_unit_154 : decode cX5_unit 154 = .ok (.invokevirtual 124, 3) := by decide +kernel
theorem dX5_unit_157 : decode cX5_unit 157 = .ok (.aload_n 0, 1) := by decide +kernel
theorem dX5_unit_158 : decode cX5_unit 158 = .ok (.getfield 29, 3) := by decide +kernel
theorem dX5_unit_161 : decode cX5_unit 161 = .ok (.iload_n 2, 1) := by decide +kernel
theorem dX5_unit_162 : decode cX5_unit 162 = .ok (.invokevirtual 199, 3) := by decide +kernel
theorem dX5_unit_165 : decode cX5_unit 165 = .ok (.return_, 1) := by decide +kernel
theorem o24_1 {x0 x1 : Int} (h0 : 6 ≤ x0) (h1 : x0 ≤ 6) (h2 : x1 = 6) (h3 : x0 < x1) : False := by omega
theorem o24_2 {x0 : Int} (h0 : x0 = 1) : 1 ≤ x0 := by omega
theorem o24_3 {x0 : Int} (h0 : x0 = 1) : x0 ≤ 1 := by omega
theorem o24_4 {x0 : Int} (h0 : x0 = 1) : 0 ≤ x0 := by omega
theorem o24_5 {x0 : Int} (h0 : x0 = 2) : x0 = 2 := by omega
theorem o24_6 {x0 x1 : Int} (h0 : x1 = 2) (h1 : ¬ x0 = x1) : ¬ x0 = 2 := by omega
theorem o24_7 {x0 x1 : Int} (h0 : x1 = 2) (h1 : x0 = x1) : x0 = 2 := by omega
theorem o24_8 {x0 : Int} (h0 : x0 = 40) : x0 = 40 := by omega
theorem o24_9 {x0 x1 x2 x3 : Int} (h0 : x1 = 2) (h1 : ¬ x2 = x1) (h2 : x0 = x2) (h3 : x3 = 40) (h4 : ¬ x0 = x3) : ¬ x0 = 40 := by omega
theorem o24_10 {x0 x1 x2 x3 : Int} (h0 : x1 = 2) (h1 : ¬ x2 = x1) (h2 : x0 = x2) (h3 : x3 = 40) (h4 : x0 = x3) : x0 = 40 := by omega
theorem o24_11 {x0 : Int} (h0 : x0 = (-1)) (h1 : 0 ≤ x0) : False := by omega
theorem o24_12 {x0 : Int} (h0 : x0 = 1005) (h1 : x0 < 0) : False := by omega
theorem o24_13 {x0 : Int} (h0 : x0 = 1004) (h1 : x0 < 0) : False := by omega
theorem o24_14 {x0 : Int} (h0 : x0 = 1003) (h1 : x0 < 0) : False := by omega
theorem o24_15 {x0 : Int} (h0 : x0 = 1002) (h1 : x0 < 0) : False := by omega
theorem o24_16 {x0 : Int} (h0 : x0 = 1001) (h1 : x0 < 0) : False := by omega
theorem o24_17 {x0 : Int} (h0 : x0 = 1000) (h1 : x0 < 0) : False := by omega
theorem o24_18 {x0 : Int} (h0 : 6 ≤ x0) (h1 : x0 ≤ 6) : 6 ≤ x0 := by omega
theorem o24_19 {x0 : Int} (h0 : 6 ≤ x0) (h1 : x0 ≤ 6) : x0 ≤ 6 := by omega
theorem o24_20 {x0 : Int} (h0 : 6 ≤ x0) (h1 : x0 ≤ 6) : x0 = 6 := by omega
theorem o24_21 {x0 : Int} (h0 : 1 ≤ x0) (h1 : x0 ≤ 1) (h2 : x0 = 0) : False := by omega
theorem o24_22 {x0 : Int} (h0 : 0 ≤ x0) (h1 : x0 ≤ 900) (h2 : 900 - x0 < 0) : False := by omega
theorem o24_23 {x0 : Int} (h0 : x0 = 900) : x0 = 900 := by omega
theorem o24_24 {x0 x2 : Int} {x1 : Nat} (h0 : 0 ≤ x0) (h1 : x0 ≤ 900) (h2 : 900 - x0 < ((x1 + 1 : Nat) : Int)) (h3 : x2 = 900) (h4 : x2 ≤ x0) : ¬ x0 < 900 := by omega
theorem o24_25 {x0 x2 : Int} {x1 : Nat} (h0 : 0 ≤ x0) (h1 : x0 ≤ 900) (h2 : 900 - x0 < ((x1 + 1 : Nat) : Int)) (h3 : x2 = 900) (h4 : x0 < x2) : x0 < 900 := by omega
theorem o24_26 {x0 : Int} (h0 : x0 = 42) : x0 = 42 := by omega
theorem o24_27 {x0 x1 : Int} (h0 : x1 = 42) (h1 : ¬ x0 = x1) : ¬ x0 = 42 := by omega
theorem o24_28 {x0 x1 : Int} (h0 : x1 = 42) (h1 : x0 = x1) : x0 = 42 := by omega
theorem o24_29 {x0 x2 : Int} {x1 : Nat} (h0 : 0 ≤ x0) (h1 : x0 ≤ 900) (h2 : 900 - x0 < ((x1 + 1 : Nat) : Int)) (h3 : x2 = 900) (h4 : x0 < x2) (h5 : -2147483648 ≤ x0) (h6 : x0 ≤ 2147483647) (h7 : -2147483648 ≤ x2) (h8 : x2 ≤ 2147483647) : -2147483648 ≤ x0 + 1 := by omega
theorem o24_30 {x0 x2 : Int} {x1 : Nat} (h0 : 0 ≤ x0) (h1 : x0 ≤ 900) (h2 : 900 - x0 < ((x1 + 1 : Nat) : Int)) (h3 : x2 = 900) (h4 : x0 < x2) (h5 : -2147483648 ≤ x0) (h6 : x0 ≤ 2147483647) (h7 : -2147483648 ≤ x2) (h8 : x2 ≤ 2147483647) : x0 + 1 ≤ 2147483647 := by omega
theorem o24_31 {x0 x2 x3 : Int} {x1 : Nat} (h0 : 0 ≤ x2) (h1 : x2 ≤ 900) (h2 : 900 - x2 < ((x1 + 1 : Nat) : Int)) (h3 : x3 = 900) (h4 : x2 < x3) (h5 : x0 = x2 + 1) : 900 - x0 < (x1 : Int) := by omega
theorem o24_32 {x0 x1 x3 : Int} {x2 : Nat} (h0 : 0 ≤ x1) (h1 : x1 ≤ 900) (h2 : 900 - x1 < ((x2 + 1 : Nat) : Int)) (h3 : x3 = 900) (h4 : x1 < x3) (h5 : x0 = x1 + 1) : 0 ≤ x0 := by omega
theorem o24_33 {x0 x1 x3 : Int} {x2 : Nat} (h0 : 0 ≤ x1) (h1 : x1 ≤ 900) (h2 : 900 - x1 < ((x2 + 1 : Nat) : Int)) (h3 : x3 = 900) (h4 : x1 < x3) (h5 : x0 = x1 + 1) : x0 ≤ 900 := by omega
theorem o24_34 {x0 : Int} (h0 : x0 = 0) : 900 - x0 < (((900 - x0 + 1).toNat : Nat) : Int) := by omega
theorem o24_35 {x0 : Int} (h0 : x0 = 0) : 0 ≤ x0 := by omega
theorem o24_36 {x0 : Int} (h0 : x0 = 0) : x0 ≤ 900 := by omega
theorem o24_37 {x0 : Int} (h0 : x0 = 43) : x0 = 43 := by omega
theorem o24_38 {x0 x1 : Int} (h0 : x1 = 43) (h1 : x0 = x1) : x0 = 43 := by omega
theorem o24_39 {x0 x1 : Int} (h0 : x1 = 43) (h1 : ¬ x0 = x1) : ¬ x0 = 43 := by omega
theorem o24_40 {x0 x1 x2 x3 : Int} (h0 : x2 = 43) (h1 : x3 = x2) (h2 : x0 = x3) (h3 : x1 = 43) (h4 : ¬ x0 = x1) : False := by omega
theorem o24_41 {x0 : Int} (h0 : x0 = 2000) : x0 = 2000 := by omega
theorem o24_42 {x0 : Int} (h0 : x0 = 45) : x0 = 45 := by omega
theorem o24_43 {x0 x1 x2 x3 : Int} (h0 : x1 = 43) (h1 : ¬ x2 = x1) (h2 : x0 = x2) (h3 : x3 = 45) (h4 : ¬ x0 = x3) : ¬ x0 = 45 := by omega
theorem o24_44 {x0 x1 x2 x3 : Int} (h0 : x1 = 43) (h1 : ¬ x2 = x1) (h2 : x0 = x2) (h3 : x3 = 45) (h4 : x0 = x3) : x0 = 45 := by omega
theorem o24_45 {x0 x1 x2 x3 x4 x5 : Int} (h0 : x2 = 43) (h1 : ¬ x3 = x2) (h2 : x4 = x3) (h3 : x5 = 45) (h4 : x4 = x5) (h5 : x0 = x3) (h6 : x1 = 43) (h7 : x0 = x1) : False := by omega
theorem o24_46 {x0 : Int} (h0 : x0 = 2001) : x0 = 2001 := by omega
theorem o24_47 {x0 : Int} (h0 : x0 = 91) : x0 = 91 := by omega
theorem o24_48 {x0 x1 : Int} (h0 : x1 = 91) (h1 : ¬ x0 = x1) : ¬ x0 = 91 := by omega
theorem o24_49 {x0 x1 : Int} (h0 : x1 = 91) (h1 : x0 = x1) : x0 = 91 := by omega
theorem o24_50 {x0 : Int} (h0 : x0 = 61) : x0 = 61 := by omega
theorem o24_51 {x0 x1 : Int} (h0 : x1 = 61) (h1 : ¬ x0 = x1) : ¬ x0 = 61 := by omega
theorem o24_52 {x0 x1 : Int} (h0 : x1 = 61) (h1 : x0 = x1) : x0 = 61 := by omega
theorem o24_53 {x0 : Int} (h0 : x0 = 60) : x0 = 60 := by omega
theorem o24_54 {x0 x1 x2 x3 : Int} (h0 : x1 = 61) (h1 : ¬ x2 = x1) (h2 : x0 = x2) (h3 : x3 = 60) (h4 : ¬ x0 = x3) : ¬ x0 = 60 := by omega
theorem o24_55 {x0 x1 x2 x3 : Int} (h0 : x1 = 61) (h1 : ¬ x2 = x1) (h2 : x0 = x2) (h3 : x3 = 60) (h4 : x0 = x3) : x0 = 60 := by omega
theorem o24_56 {x0 : Int} (h0 : x0 = 62) : x0 = 62 := by omega
theorem o24_57 {x0 x1 x2 x3 x4 x5 : Int} (h0 : x1 = 61) (h1 : ¬ x2 = x1) (h2 : x3 = x2) (h3 : x4 = 60) (h4 : ¬ x3 = x4) (h5 : x0 = x2) (h6 : x5 = 62) (h7 : ¬ x0 = x5) : ¬ x0 = 62 := by omega
theorem o24_58 {x0 x1 x2 x3 x4 x5 : Int} (h0 : x1 = 61) (h1 : ¬ x2 = x1) (h2 : x3 = x2) (h3 : x4 = 60) (h4 : ¬ x3 = x4) (h5 : x0 = x2) (h6 : x5 = 62) (h7 : x0 = x5) : x0 = 62 := by omega
theorem o24_59 {x0 : Int} (h0 : x0 = 2005) (h1 : x0 < 0) : False := by omega
theorem o24_60 {x0 : Int} (h0 : x0 = 2005) (h1 : 0 ≤ x0) : x0 = 2005 := by omega
theorem o24_61 {x0 : Int} (h0 : x0 = 2004) (h1 : x0 < 0) : False := by omega
theorem o24_62 {x0 : Int} (h0 : x0 = 2004) (h1 : 0 ≤ x0) : x0 = 2004 := by omega
theorem o24_63 {x0 : Int} (h0 : x0 = 2003) (h1 : x0 < 0) : False := by omega
theorem o24_64 {x0 : Int} (h0 : x0 = 2003) (h1 : 0 ≤ x0) : x0 = 2003 := by omega
theorem o24_65 {x0 x1 : Int} (h0 : 5 ≤ x0) (h1 : x0 ≤ 5) (h2 : x1 = 6) (h3 : x1 ≤ x0) : False := by omega
theorem o24_66 {x0 : Int} (h0 : x0 = 0) : x0 ≤ 0 := by omega
theorem o24_67 {x0 : Int} (h0 : x0 = 0) : x0 ≤ 1 := by omega
theorem o24_68 {x0 : Int} (h0 : 5 ≤ x0) (h1 : x0 ≤ 5) : 5 ≤ x0 := by omega
theorem o24_69 {x0 : Int} (h0 : 5 ≤ x0) (h1 : x0 ≤ 5) : x0 ≤ 5 := by omega
theorem o24_70 {x0 : Int} (h0 : 5 ≤ x0) (h1 : x0 ≤ 5) : x0 = 5 := by omega
theorem o24_71 {x0 : Int} (h0 : 0 ≤ x0) (h1 : x0 ≤ 0) (h2 : ¬ x0 = 0) : False := by omega
theorem o24_72 {x0 x1 : Int} (h0 : 5 ≤ x0) (h1 : x0 ≤ 5) (h2 : x1 = 1) (h3 : -2147483648 ≤ x0) (h4 : x0 ≤ 2147483647) (h5 : -2147483648 ≤ x1) (h6 : x1 ≤ 2147483647) : -2147483648 ≤ x0 + x1 := by omega
theorem o24_73 {x0 x1 : Int} (h0 : 5 ≤ x0) (h1 : x0 ≤ 5) (h2 : x1 = 1) (h3 : -2147483648 ≤ x0) (h4 : x0 ≤ 2147483647) (h5 : -2147483648 ≤ x1) (h6 : x1 ≤ 2147483647) : x0 + x1 ≤ 2147483647 := by omega
theorem o24_74 {x0 x1 x2 : Int} (h0 : 5 ≤ x1) (h1 : x1 ≤ 5) (h2 : x2 = 1) (h3 : x0 = x1 + x2) : 6 ≤ x0 := by omega
theorem o24_75 {x0 x1 x2 : Int} (h0 : 5 ≤ x1) (h1 : x1 ≤ 5) (h2 : x2 = 1) (h3 : x0 = x1 + x2) : x0 ≤ 6 := by omega
theorem o24_76 {x0 x1 x2 : Int} (h0 : 5 ≤ x0) (h1 : x0 ≤ 5) (h2 : x1 = 1) (h3 : x2 = x0 + x1) : x0 = 5 := by omega
theorem o24_77 {x0 : Int} (h0 : x0 = 41) : 0 ≤ x0 := by omega
theorem o24_78 {x0 : Int} (h0 : x0 = 41) : x0 ≤ 65535 := by omega
theorem o24_79 {x0 : Int} (h0 : x0 = 93) : 0 ≤ x0 := by omega
theorem o24_80 {x0 : Int} (h0 : x0 = 93) : x0 ≤ 65535 := by omega
theorem o24_81 {x0 x1 : Int} (h0 : 4 ≤ x0) (h1 : x0 ≤ 4) (h2 : x1 = 6) (h3 : x1 ≤ x0) : False := by omega
theorem o24_82 {x0 : Int} (h0 : 4 ≤ x0) (h1 : x0 ≤ 4) : 4 ≤ x0 := by omega
theorem o24_83 {x0 : Int} (h0 : 4 ≤ x0) (h1 : x0 ≤ 4) : x0 ≤ 4 := by omega
theorem o24_84 {x0 : Int} (h0 : 4 ≤ x0) (h1 : x0 ≤ 4) : x0 = 4 := by omega
theorem o24_85 {x0 x1 : Int} (h0 : 4 ≤ x0) (h1 : x0 ≤ 4) (h2 : x1 = 1) (h3 : -2147483648 ≤ x0) (h4 : x0 ≤ 2147483647) (h5 : -2147483648 ≤ x1) (h6 : x1 ≤ 2147483647) : -2147483648 ≤ x0 + x1 := by omega
theorem o24_86 {x0 x1 : Int} (h0 : 4 ≤ x0) (h1 : x0 ≤ 4) (h2 : x1 = 1) (h3 : -2147483648 ≤ x0) (h4 : x0 ≤ 2147483647) (h5 : -2147483648 ≤ x1) (h6 : x1 ≤ 2147483647) : x0 + x1 ≤ 2147483647 := by omega
theorem o24_87 {x0 x1 x2 : Int} (h0 : 4 ≤ x1) (h1 : x1 ≤ 4) (h2 : x2 = 1) (h3 : x0 = x1 + x2) : 5 ≤ x0 := by omega
theorem o24_88 {x0 x1 x2 : Int} (h0 : 4 ≤ x1) (h1 : x1 ≤ 4) (h2 : x2 = 1) (h3 : x0 = x1 + x2) : x0 ≤ 5 := by omega
theorem o24_89 {x0 x1 x2 : Int} (h0 : 4 ≤ x0) (h1 : x0 ≤ 4) (h2 : x1 = 1) (h3 : x2 = x0 + x1) : x0 = 4 := by omega
theorem o24_90 {x0 x1 : Int} (h0 : 3 ≤ x0) (h1 : x0 ≤ 3) (h2 : x1 = 6) (h3 : x1 ≤ x0) : False := by omega
theorem o24_91 {x0 : Int} (h0 : 3 ≤ x0) (h1 : x0 ≤ 3) : 3 ≤ x0 := by omega
theorem o24_92 {x0 : Int} (h0 : 3 ≤ x0) (h1 : x0 ≤ 3) : x0 ≤ 3 := by omega
theorem o24_93 {x0 : Int} (h0 : 3 ≤ x0) (h1 : x0 ≤ 3) : x0 = 3 := by omega
theorem o24_94 {x0 x1 : Int} (h0 : 3 ≤ x0) (h1 : x0 ≤ 3) (h2 : x1 = 1) (h3 : -2147483648 ≤ x0) (h4 : x0 ≤ 2147483647) (h5 : -2147483648 ≤ x1) (h6 : x1 ≤ 2147483647) : -2147483648 ≤ x0 + x1 := by omega
theorem o24_95 {x0 x1 : Int} (h0 : 3 ≤ x0) (h1 : x0 ≤ 3) (h2 : x1 = 1) (h3 : -2147483648 ≤ x0) (h4 : x0 ≤ 2147483647) (h5 : -2147483648 ≤ x1) (h6 : x1 ≤ 2147483647) : x0 + x1 ≤ 2147483647 := by omega
theorem o24_96 {x0 x1 x2 : Int} (h0 : 3 ≤ x1) (h1 : x1 ≤ 3) (h2 : x2 = 1) (h3 : x0 = x1 + x2) : 4 ≤ x0 := by omega
theorem o24_97 {x0 x1 x2 : Int} (h0 : 3 ≤ x1) (h1 : x1 ≤ 3) (h2 : x2 = 1) (h3 : x0 = x1 + x2) : x0 ≤ 4 := by omega
theorem o24_98 {x0 x1 x2 : Int} (h0 : 3 ≤ x0) (h1 : x0 ≤ 3) (h2 : x1 = 1) (h3 : x2 = x0 + x1) : x0 = 3 := by omega
theorem o24_99 {x0 x1 : Int} (h0 : 2 ≤ x0) (h1 : x0 ≤ 2) (h2 : x1 = 6) (h3 : x1 ≤ x0) : False := by omega
theorem o24_100 {x0 : Int} (h0 : 2 ≤ x0) (h1 : x0 ≤ 2) : 2 ≤ x0 := by omega
theorem o24_101 {x0 : Int} (h0 : 2 ≤ x0) (h1 : x0 ≤ 2) : x0 ≤ 2 := by omega
theorem o24_102 {x0 : Int} (h0 : 2 ≤ x0) (h1 : x0 ≤ 2) : x0 = 2 := by omega
theorem o24_103 {x0 x1 : Int} (h0 : 2 ≤ x0) (h1 : x0 ≤ 2) (h2 : x1 = 1) (h3 : -2147483648 ≤ x0) (h4 : x0 ≤ 2147483647) (h5 : -2147483648 ≤ x1) (h6 : x1 ≤ 2147483647) : -2147483648 ≤ x0 + x1 := by omega
theorem o24_104 {x0 x1 : Int} (h0 : 2 ≤ x0) (h1 : x0 ≤ 2) (h2 : x1 = 1) (h3 : -2147483648 ≤ x0) (h4 : x0 ≤ 2147483647) (h5 : -2147483648 ≤ x1) (h6 : x1 ≤ 2147483647) : x0 + x1 ≤ 2147483647 := by omega
theorem o24_105 {x0 x1 x2 : Int} (h0 : 2 ≤ x1) (h1 : x1 ≤ 2) (h2 : x2 = 1) (h3 : x0 = x1 + x2) : 3 ≤ x0 := by omega
theorem o24_106 {x0 x1 x2 : Int} (h0 : 2 ≤ x1) (h1 : x1 ≤ 2) (h2 : x2 = 1) (h3 : x0 = x1 + x2) : x0 ≤ 3 := by omega
theorem o24_107 {x0 x1 x2 : Int} (h0 : 2 ≤ x0) (h1 : x0 ≤ 2) (h2 : x1 = 1) (h3 : x2 = x0 + x1) : x0 = 2 := by omega
theorem o24_108 {x0 x1 : Int} (h0 : 1 ≤ x0) (h1 : x0 ≤ 1) (h2 : x1 = 6) (h3 : x1 ≤ x0) : False := by omega
theorem o24_109 {x0 : Int} (h0 : 1 ≤ x0) (h1 : x0 ≤ 1) : 1 ≤ x0 := by omega
theorem o24_110 {x0 : Int} (h0 : 1 ≤ x0) (h1 : x0 ≤ 1) : x0 ≤ 1 := by omega
theorem o24_111 {x0 : Int} (h0 : 1 ≤ x0) (h1 : x0 ≤ 1) : x0 = 1 := by omega
theorem o24_112 {x0 x1 : Int} (h0 : 1 ≤ x0) (h1 : x0 ≤ 1) (h2 : x1 = 1) (h3 : -2147483648 ≤ x0) (h4 : x0 ≤ 2147483647) (h5 : -2147483648 ≤ x1) (h6 : x1 ≤ 2147483647) : -2147483648 ≤ x0 + x1 := by omega
theorem o24_113 {x0 x1 : Int} (h0 : 1 ≤ x0) (h1 : x0 ≤ 1) (h2 : x1 = 1) (h3 : -2147483648 ≤ x0) (h4 : x0 ≤ 2147483647) (h5 : -2147483648 ≤ x1) (h6 : x1 ≤ 2147483647) : x0 + x1 ≤ 2147483647 := by omega
theorem o24_114 {x0 x1 x2 : Int} (h0 : 1 ≤ x1) (h1 : x1 ≤ 1) (h2 : x2 = 1) (h3 : x0 = x1 + x2) : 2 ≤ x0 := by omega
theorem o24_115 {x0 x1 x2 : Int} (h0 : 1 ≤ x1) (h1 : x1 ≤ 1) (h2 : x2 = 1) (h3 : x0 = x1 + x2) : x0 ≤ 2 := by omega
theorem o24_116 {x0 x1 x2 : Int} (h0 : 1 ≤ x0) (h1 : x0 ≤ 1) (h2 : x1 = 1) (h3 : x2 = x0 + x1) : x0 = 1 := by omega
theorem o24_117 {x0 x1 : Int} (h0 : 0 ≤ x0) (h1 : x0 ≤ 0) (h2 : x1 = 6) (h3 : x1 ≤ x0) : False := by omega
theorem o24_118 {x0 : Int} (h0 : 0 ≤ x0) (h1 : x0 ≤ 0) : 0 ≤ x0 := by omega
theorem o24_119 {x0 : Int} (h0 : 0 ≤ x0) (h1 : x0 ≤ 0) : x0 ≤ 0 := by omega
theorem o24_120 {x0 : Int} (h0 : 0 ≤ x0) (h1 : x0 ≤ 0) : x0 = 0 := by omega
theorem o24_121 {x0 x1 : Int} (h0 : 0 ≤ x0) (h1 : x0 ≤ 0) (h2 : x1 = 1) (h3 : -2147483648 ≤ x0) (h4 : x0 ≤ 2147483647) (h5 : -2147483648 ≤ x1) (h6 : x1 ≤ 2147483647) : -2147483648 ≤ x0 + x1 := by omega
theorem o24_122 {x0 x1 : Int} (h0 : 0 ≤ x0) (h1 : x0 ≤ 0) (h2 : x1 = 1) (h3 : -2147483648 ≤ x0) (h4 : x0 ≤ 2147483647) (h5 : -2147483648 ≤ x1) (h6 : x1 ≤ 2147483647) : x0 + x1 ≤ 2147483647 := by omega
theorem o24_123 {x0 x1 x2 : Int} (h0 : 0 ≤ x1) (h1 : x1 ≤ 0) (h2 : x2 = 1) (h3 : x0 = x1 + x2) : 1 ≤ x0 := by omega
theorem o24_124 {x0 x1 x2 : Int} (h0 : 0 ≤ x1) (h1 : x1 ≤ 0) (h2 : x2 = 1) (h3 : x0 = x1 + x2) : x0 ≤ 1 := by omega
theorem o24_125 {x0 x1 x2 : Int} (h0 : 0 ≤ x0) (h1 : x0 ≤ 0) (h2 : x1 = 1) (h3 : x2 = x0 + x1) : x0 = 0 := by omega
noncomputable def g1c_X5_tooDeep_6 (s : XS) : XR := (s, 1)
noncomputable def f_X5_tooDeep_6 (s : XS) (a1 : Int) : XR := g1c_X5_tooDeep_6 ((f_X5_fail s 4).1)
set_option maxHeartbeats 4000000 in
set_option maxRecDepth 100000 in
theorem c_X5_tooDeep_6 (l : Launch) (G : GG) (Z : RZ) (ad : Nat → Nat) (ws0 : va_W) (hT : Ty G SC ad ws0) (a1 : Int32) (l1 : 6 ≤ a1.toInt) (u1 : a1.toInt ≤ 6) : Mq l yX5_tooDeep cX5_tooDeep 2 (some .boolean) 2 G Z [.ref (ad 77), .int a1] ws0 (PI G SC ad [16] ws0 (fun r u => (xso SC ad u = (f_X5_tooDeep_6 (xso SC ad ws0) a1.toInt).1) ∧ (r.toInt = (f_X5_tooDeep_6 (xso SC ad ws0) a1.toInt).2) ∧ (1 ≤ r.toInt) ∧ (r.toInt ≤ 1))) := by
  refine Mq.start (by decide) (Nat.le_of_ble_eq_true rfl) ?_
  intro p e s m below meth c A ls C0 hZ h hl
  have hl : lv_has ls 2 [(0, .ref (ad 77)), (1, .int a1)] := hl
  have h : Wt G SC ad A s s.heap [] ws0 := ⟨h, hT⟩
  obtain ⟨args, hargs⟩ : ∃ z, z = ([.ref (ad 77), .int a1] : List Value).toArray := ⟨_, rfl⟩
  rw [← hargs] at C0 ⊢
  have C0 : Cx p s m args meth c RX5 cX5_tooDeep 2 (some .boolean) := C0
  obtain ⟨Q, hQ⟩ : ∃ z, z = MQ below ((PI G SC ad [16] ws0 (fun r u => (xso SC ad u = (f_X5_tooDeep_6 (xso SC ad ws0) a1.toInt).1) ∧ (r.toInt = (f_X5_tooDeep_6 (xso SC ad ws0) a1.toInt).2) ∧ (1 ≤ r.toInt) ∧ (r.toInt ≤ 1))) A) args s 0 0 A := ⟨_, rfl⟩
  rw [← hQ]
  obtain ⟨FT, hFT⟩ : ∃ z, z = f_X5_tooDeep_6 (xso SC ad ws0) a1.toInt := ⟨_, rfl⟩
  have HE : FT = f_X5_tooDeep_6 (xso SC ad ws0) a1.toInt := hFT
  refine lv_iload_n C0.1 C0.2.1 dX5_tooDeep_0 rfl (lv_at hl 1 rfl) ?_
  refine y_c2 (n := 6) C0 (by decide) dX5_tooDeep_1 (fun v_1 e_2 => ?_)
  refine y_icmp_lt (tgt := 13) C0 dX5_tooDeep_3 (by decide) (fun c_3 => ((o24_1 l1 u1 e_2 c_3)).elim) (fun c_3 => ?_)
  refine lv_aload_n C0.1 C0.2.1 dX5_tooDeep_6 rfl (lv_at hl 0 rfl) ?_
  refine y_c1 (n := 4) C0 (by decide) dX5_tooDeep_7 (fun v_4 e_5 => ?_)
  refine y_cv h (y_rV (As := [.int v_4]) (rest := []) C0 hZ h (c_X5_fail l G Z ad _ h.2 v_4) k_X5_fail q_628 q_3 q_626 kSC_77 rfl rfl rfl hl.1 rfl rfl (Nat.le_of_ble_eq_true rfl) dX5_tooDeep_8 ⟨Nat.le_of_ble_eq_true rfl, Nat.le_of_ble_eq_true rfl⟩ ⟨Nat.le_of_ble_eq_true rfl, Nat.le_of_ble_eq_true rfl⟩) (fun H locs ws_6 h u_7 p_8 => ?_)
  have e_9 := p_8
  replace HE : FT = g1c_X5_tooDeep_6 (xso SC ad ws_6) := HE.trans (by rw [e_9, e_5]; rfl)
  refine y_c1 (n := 1) C0 (by decide) dX5_tooDeep_11 (fun v_10 e_11 => ?_)
  replace HE : FT = ((xso SC ad ws_6), v_10.toInt) := HE.trans (by rw [e_11]; rfl)
  rw [hQ]
  exact y_zret C0 h (o24_4 e_11) (o24_3 e_11) u_7 ⟨(congrArg Prod.fst (HE.symm.trans hFT)), (congrArg Prod.snd (HE.symm.trans hFT)), (o24_2 e_11), (o24_3 e_11)⟩ dX5_tooDeep_12
noncomputable def g31c_X5_atom_6 (s : XS) : XR := (s, 0)
noncomputable def g29_X5_atom_6 (s : XS) : XR := g31c_X5_atom_6 ((f_X5_fail s 2).1)
noncomputable def g33c_X5_atom_6 (s : XS) : XR := (s, 0)
noncomputable def g32c_X5_atom_6 (s : XS) : XR := g33c_X5_atom_6 ((f_X5_advance s).1)
noncomputable def g30_X5_atom_6 (s : XS) : XR := g32c_X5_atom_6 ((f_X4_add s (Int.toNat (s 3 77 10)) 1005).1)
noncomputable def g28b_X5_atom_6 (s : XS) (r_64 : Int) : XR := if r_64 = 0 then g29_X5_atom_6 s else g30_X5_atom_6 s
noncomputable def g27c_X5_atom_6 (s : XS) (r_64 : Int) : XR := g28b_X5_atom_6 s r_64
noncomputable def g25_X5_atom_6 (s : XS) : XR := g27c_X5_atom_6 ((f_X5_isWord s 17).1) (((f_X5_isWord s 17).2))
noncomputable def g35c_X5_atom_6 (s : XS) : XR := (s, 0)
noncomputable def g34c_X5_atom_6 (s : XS) : XR := g35c_X5_atom_6 ((f_X5_advance s).1)
noncomputable def g26_X5_atom_6 (s : XS) : XR := g34c_X5_atom_6 ((f_X4_add s (Int.toNat (s 3 77 10)) 1004).1)
noncomputable def g24b_X5_atom_6 (s : XS) (r_55 : Int) : XR := if r_55 = 0 then g25_X5_atom_6 s else g26_X5_atom_6 s
noncomputable def g23c_X5_atom_6 (s : XS) (r_55 : Int) : XR := g24b_X5_atom_6 s r_55
noncomputable def g21_X5_atom_6 (s : XS) : XR := g23c_X5_atom_6 ((f_X5_isWord s 16).1) (((f_X5_isWord s 16).2))
noncomputable def g37c_X5_atom_6 (s : XS) : XR := (s, 0)
noncomputable def g36c_X5_atom_6 (s : XS) : XR := g37c_X5_atom_6 ((f_X5_advance s).1)
noncomputable def g22_X5_atom_6 (s : XS) : XR := g36c_X5_atom_6 ((f_X4_add s (Int.toNat (s 3 77 10)) 1003).1)
noncomputable def g20b_X5_atom_6 (s : XS) (r_46 : Int) : XR := if r_46 = 0 then g21_X5_atom_6 s else g22_X5_atom_6 s
noncomputable def g19c_X5_atom_6 (s : XS) (r_46 : Int) : XR := g20b_X5_atom_6 s r_46
noncomputable def g17_X5_atom_6 (s : XS) : XR := g19c_X5_atom_6 ((f_X5_isWord s 15).1) (((f_X5_isWord s 15).2))
noncomputable def g39c_X5_atom_6 (s : XS) : XR := (s, 0)
noncomputable def g38c_X5_atom_6 (s : XS) : XR := g39c_X5_atom_6 ((f_X5_advance s).1)
noncomputable def g18_X5_atom_6 (s : XS) : XR := g38c_X5_atom_6 ((f_X4_add s (Int.toNat (s 3 77 10)) 1002).1)
noncomputable def g16b_X5_atom_6 (s : XS) (r_37 : Int) : XR := if r_37 = 0 then g17_X5_atom_6 s else g18_X5_atom_6 s
noncomputable def g15c_X5_atom_6 (s : XS) (r_37 : Int) : XR := g16b_X5_atom_6 s r_37
noncomputable def g13_X5_atom_6 (s : XS) : XR := g15c_X5_atom_6 ((f_X5_isWord s 14).1) (((f_X5_isWord s 14).2))
noncomputable def g41c_X5_atom_6 (s : XS) : XR := (s, 0)
noncomputable def g40c_X5_atom_6 (s : XS) : XR := g41c_X5_atom_6 ((f_X5_advance s).1)
noncomputable def g14_X5_atom_6 (s : XS) : XR := g40c_X5_atom_6 ((f_X4_add s (Int.toNat (s 3 77 10)) 1001).1)
noncomputable def g12b_X5_atom_6 (s : XS) (r_28 : Int) : XR := if r_28 = 0 then g13_X5_atom_6 s else g14_X5_atom_6 s
noncomputable def g11c_X5_atom_6 (s : XS) (r_28 : Int) : XR := g12b_X5_atom_6 s r_28
noncomputable def g9_X5_atom_6 (s : XS) : XR := g11c_X5_atom_6 ((f_X5_isWord s 13).1) (((f_X5_isWord s 13).2))
noncomputable def g43c_X5_atom_6 (s : XS) : XR := (s, 0)
noncomputable def g42c_X5_atom_6 (s : XS) : XR := g43c_X5_atom_6 ((f_X5_advance s).1)
noncomputable def g10_X5_atom_6 (s : XS) : XR := g42c_X5_atom_6 ((f_X4_add s (Int.toNat (s 3 77 10)) 1000).1)
noncomputable def g8b_X5_atom_6 (s : XS) (r_19 : Int) : XR := if r_19 = 0 then g9_X5_atom_6 s else g10_X5_atom_6 s
noncomputable def g7c_X5_atom_6 (s : XS) (r_19 : Int) : XR := g8b_X5_atom_6 s r_19
noncomputable def g5_X5_atom_6 (s : XS) : XR := g7c_X5_atom_6 ((f_X5_isWord s 12).1) (((f_X5_isWord s 12).2))
noncomputable def g44c_X5_atom_6 (s : XS) : XR := (s, 0)
noncomputable def g6_X5_atom_6 (s : XS) : XR := g44c_X5_atom_6 ((f_X5_tooDeep_6 s 6).1)
noncomputable def g4b_X5_atom_6 (s : XS) (v_8 : Int) : XR := if v_8 = 40 then g6_X5_atom_6 s else g5_X5_atom_6 s
noncomputable def g2_X5_atom_6 (s : XS) : XR := g4b_X5_atom_6 s ((s 0 77 4))
noncomputable def g46c_X5_atom_6 (s : XS) : XR := (s, 0)
noncomputable def g45c_X5_atom_6 (s : XS) : XR := g46c_X5_atom_6 ((f_X5_advance s).1)
noncomputable def g3_X5_atom_6 (s : XS) : XR := g45c_X5_atom_6 ((f_X4_add s (Int.toNat (s 3 77 10)) (s 0 77 7)).1)
noncomputable def g1b_X5_atom_6 (s : XS) (v_1 : Int) : XR := if v_1 = 2 then g3_X5_atom_6 s else g2_X5_atom_6 s
noncomputable def f_X5_atom_6 (s : XS) (a1 : Int) : XR := g1b_X5_atom_6 s ((s 0 77 4))
set_option maxHeartbeats 4000000 in
set_option maxRecDepth 100000 in
theorem c_X5_atom_6 (l : Launch) (G : GG) (Z : RZ) (ad : Nat → Nat) (ws0 : va_W) (hT : Ty G SC ad ws0) (a1 : Int32) (l1 : 6 ≤ a1.toInt) (u1 : a1.toInt ≤ 6) : Mq l yX5_atom cX5_atom 3 none 6 G Z [.ref (ad 77), .int a1] ws0 (PV G SC ad [2, 3, 16] ws0 (fun u => (xso SC ad u = (f_X5_atom_6 (xso SC ad ws0) a1.toInt).1))) := by
  refine Mq.start (by decide) (Nat.le_of_ble_eq_true rfl) ?_
  intro p e s m below meth c A ls C0 hZ h hl
  have hl : lv_has ls 3 [(0, .ref (ad 77)), (1, .int a1)] := hl
  have h : Wt G SC ad A s s.heap [] ws0 := ⟨h, hT⟩
  obtain ⟨args, hargs⟩ : ∃ z, z = ([.ref (ad 77), .int a1] : List Value).toArray := ⟨_, rfl⟩
  rw [← hargs] at C0 ⊢
  have C0 : Cx p s m args meth c RX5 cX5_atom 3 none := C0
  obtain ⟨Q, hQ⟩ : ∃ z, z = MQ below ((PV G SC ad [2, 3, 16] ws0 (fun u => (xso SC ad u = (f_X5_atom_6 (xso SC ad ws0) a1.toInt).1))) A) args s 0 0 A := ⟨_, rfl⟩
  rw [← hQ]
  obtain ⟨FT, hFT⟩ : ∃ z, z = f_X5_atom_6 (xso SC ad ws0) a1.toInt := ⟨_, rfl⟩
  have HE : FT = f_X5_atom_6 (xso SC ad ws0) a1.toInt := hFT
  refine lv_aload_n C0.1 C0.2.1 dX5_atom_0 rfl (lv_at hl 0 rfl) ?_
  refine tg_X5_kind C0 h kSC_77 q_374 dX5_atom_1 (fun v_1 e_2 e_3 e_4 => ?_)
  refine y_c1 (n := 2) C0 (by decide) dX5_atom_4 (fun v_5 e_6 => ?_)
  replace HE : FT = g1b_X5_atom_6 (xso SC ad ws0) v_1.toInt := HE.trans (by rw [(xg0 e_2 : v_1.toInt = (xso SC ad ws0) 0 77 4)]; rfl)
  refine y_icmp_ne (tgt := 26) C0 dX5_atom_5 (by decide) (fun c_7 => ?_) (fun c_7 => ?_)
  · -- 5
    replace HE : FT = g2_X5_atom_6 (xso SC ad ws0) := HE.trans (if_neg (o24_6 e_6 c_7))
    refine lv_aload_n C0.1 C0.2.1 dX5_atom_26 rfl (lv_at hl 0 rfl) ?_
    refine tg_X5_kind C0 h kSC_77 q_374 dX5_atom_27 (fun v_8 e_9 e_10 e_11 => ?_)
    have qh_12 : v_8.toInt = v_1.toInt := congrArg Int32.toInt (e_9.symm.trans (Eq.trans rfl e_2))
    refine y_c2 (n := 40) C0 (by decide) dX5_atom_30 (fun v_13 e_14 => ?_)
    replace HE : FT = g4b_X5_atom_6 (xso SC ad ws0) v_8.toInt := HE.trans (by rw [(xg0 e_9 : v_8.toInt = (xso SC ad ws0) 0 77 4)]; rfl)
    refine y_icmp_ne (tgt := 63) C0 dX5_atom_32 (by decide) (fun c_15 => ?_) (fun c_15 => ?_)
    · -- 32
      replace HE : FT = g5_X5_atom_6 (xso SC ad ws0) := HE.trans (if_neg (o24_9 e_6 c_7 qh_12 e_14 c_15))
      refine lv_aload_n C0.1 C0.2.1 dX5_atom_63 rfl (lv_at hl 0 rfl) ?_
      refine va_ldcS C0.1 C0.2.1 C0.2.2.2.1 (sr_12 hZ) dX5_atom_64 ?_
      refine y_ci h (y_rV (As := [.ref (Z.2.1 12)]) (rest := []) C0 hZ h (c_X5_isWord l G Z ad _ h.2 12 (by decide)) k_X5_isWord q_724 q_5 q_722 kSC_77 rfl rfl rfl hl.1 rfl rfl (Nat.le_of_ble_eq_true rfl) dX5_atom_66 ⟨Nat.le_of_ble_eq_true rfl, Nat.le_of_ble_eq_true rfl⟩ ⟨Nat.le_of_ble_eq_true rfl, Nat.le_of_ble_eq_true rfl⟩) (fun r_19 H locs ws_16 h u_17 p_18 => ?_)
      obtain ⟨e_20, e_21, e_22, e_23⟩ := p_18
      replace HE : FT = g7c_X5_atom_6 (xso SC ad ws_16) r_19.toInt := HE.trans (by rw [e_20, e_21]; rfl)
      replace HE : FT = g8b_X5_atom_6 (xso SC ad ws_16) r_19.toInt := HE.trans rfl
      refine y_if_eq (tgt := 78) C0 dX5_atom_69 (by decide) (fun c_24 => ?_) (fun c_24 => ?_)
      · -- 69
        replace HE : FT = g9_X5_atom_6 (xso SC ad ws_16) := HE.trans (if_pos c_24)
        refine lv_aload_n C0.1 C0.2.1 dX5_atom_78 rfl (lv_at hl 0 rfl) ?_
        refine va_ldcS C0.1 C0.2.1 C0.2.2.2.1 (sr_13 hZ) dX5_atom_79 ?_
        refine y_ci h (y_rV (As := [.ref (Z.2.1 13)]) (rest := []) C0 hZ h (c_X5_isWord l G Z ad _ h.2 13 (by decide)) k_X5_isWord q_724 q_5 q_722 kSC_77 rfl rfl rfl hl.1 rfl rfl (Nat.le_of_ble_eq_true rfl) dX5_atom_81 ⟨Nat.le_of_ble_eq_true rfl, Nat.le_of_ble_eq_true rfl⟩ ⟨Nat.le_of_ble_eq_true rfl, Nat.le_of_ble_eq_true rfl⟩) (fun r_28 H locs ws_25 h u_26 p_27 => ?_)
        obtain ⟨e_29, e_30, e_31, e_32⟩ := p_27
        replace HE : FT = g11c_X5_atom_6 (xso SC ad ws_25) r_28.toInt := HE.trans (by rw [e_29, e_30]; rfl)
        replace HE : FT = g12b_X5_atom_6 (xso SC ad ws_25) r_28.toInt := HE.trans rfl
        refine y_if_eq (tgt := 93) C0 dX5_atom_84 (by decide) (fun c_33 => ?_) (fun c_33 => ?_)
        · -- 84
          replace HE : FT = g13_X5_atom_6 (xso SC ad ws_25) := HE.trans (if_pos c_33)
          refine lv_aload_n C0.1 C0.2.1 dX5_atom_93 rfl (lv_at hl 0 rfl) ?_
          refine va_ldcS C0.1 C0.2.1 C0.2.2.2.1 (sr_14 hZ) dX5_atom_94 ?_
          refine y_ci h (y_rV (As := [.ref (Z.2.1 14)]) (rest := []) C0 hZ h (c_X5_isWord l G Z ad _ h.2 14 (by decide)) k_X5_isWord q_724 q_5 q_722 kSC_77 rfl rfl rfl hl.1 rfl rfl (Nat.le_of_ble_eq_true rfl) dX5_atom_96 ⟨Nat.le_of_ble_eq_true rfl, Nat.le_of_ble_eq_true rfl⟩ ⟨Nat.le_of_ble_eq_true rfl, Nat.le_of_ble_eq_true rfl⟩) (fun r_37 H locs ws_34 h u_35 p_36 => ?_)
          obtain ⟨e_38, e_39, e_40, e_41⟩ := p_36
          replace HE : FT = g15c_X5_atom_6 (xso SC ad ws_34) r_37.toInt := HE.trans (by rw [e_38, e_39]; rfl)
          replace HE : FT = g16b_X5_atom_6 (xso SC ad ws_34) r_37.toInt := HE.trans rfl
          refine y_if_eq (tgt := 108) C0 dX5_atom_99 (by decide) (fun c_42 => ?_) (fun c_42 => ?_)
          · -- 99
            replace HE : FT = g17_X5_atom_6 (xso SC ad ws_34) := HE.trans (if_pos c_42)
            refine lv_aload_n C0.1 C0.2.1 dX5_atom_108 rfl (lv_at hl 0 rfl) ?_
            refine va_ldcS C0.1 C0.2.1 C0.2.2.2.1 (sr_15 hZ) dX5_atom_109 ?_
            refine y_ci h (y_rV (As := [.ref (Z.2.1 15)]) (rest := []) C0 hZ h (c_X5_isWord l G Z ad _ h.2 15 (by decide)) k_X5_isWord q_724 q_5 q_722 kSC_77 rfl rfl rfl hl.1 rfl rfl (Nat.le_of_ble_eq_true rfl) dX5_atom_111 ⟨Nat.le_of_ble_eq_true rfl, Nat.le_of_ble_eq_true rfl⟩ ⟨Nat.le_of_ble_eq_true rfl, Nat.le_of_ble_eq_true rfl⟩) (fun r_46 H locs ws_43 h u_44 p_45 => ?_)
            obtain ⟨e_47, e_48, e_49, e_50⟩ := p_45
            replace HE : FT = g19c_X5_atom_6 (xso SC ad ws_43) r_46.toInt := HE.trans (by rw [e_47, e_48]; rfl)
            replace HE : FT = g20b_X5_atom_6 (xso SC ad ws_43) r_46.toInt := HE.trans rfl
            refine y_if_eq (tgt := 123) C0 dX5_atom_114 (by decide) (fun c_51 => ?_) (fun c_51 => ?_)
            · -- 114
              replace HE : FT = g21_X5_atom_6 (xso SC ad ws_43) := HE.trans (if_pos c_51)
              refine lv_aload_n C0.1 C0.2.1 dX5_atom_123 rfl (lv_at hl 0 rfl) ?_
              refine va_ldcS C0.1 C0.2.1 C0.2.2.2.1 (sr_16 hZ) dX5_atom_124 ?_
              refine y_ci h (y_rV (As := [.ref (Z.2.1 16)]) (rest := []) C0 hZ h (c_X5_isWord l G Z ad _ h.2 16 (by decide)) k_X5_isWord q_724 q_5 q_722 kSC_77 rfl rfl rfl hl.1 rfl rfl (Nat.le_of_ble_eq_true rfl) dX5_atom_126 ⟨Nat.le_of_ble_eq_true rfl, Nat.le_of_ble_eq_true rfl⟩ ⟨Nat.le_of_ble_eq_true rfl, Nat.le_of_ble_eq_true rfl⟩) (fun r_55 H locs ws_52 h u_53 p_54 => ?_)
              obtain ⟨e_56, e_57, e_58, e_59⟩ := p_54
              replace HE : FT = g23c_X5_atom_6 (xso SC ad ws_52) r_55.toInt := HE.trans (by rw [e_56, e_57]; rfl)
              replace HE : FT = g24b_X5_atom_6 (xso SC ad ws_52) r_55.toInt := HE.trans rfl
              refine y_if_eq (tgt := 138) C0 dX5_atom_129 (by decide) (fun c_60 => ?_) (fun c_60 => ?_)
              · -- 129
                replace HE : FT = g25_X5_atom_6 (xso SC ad ws_52) := HE.trans (if_pos c_60)
                refine lv_aload_n C0.1 C0.2.1 dX5_atom_138 rfl (lv_at hl 0 rfl) ?_
                refine va_ldcS C0.1 C0.2.1 C0.2.2.2.1 (sr_17 hZ) dX5_atom_139 ?_
                refine y_ci h (y_rV (As := [.ref (Z.2.1 17)]) (rest := []) C0 hZ h (c_X5_isWord l G Z ad _ h.2 17 (by decide)) k_X5_isWord q_724 q_5 q_722 kSC_77 rfl rfl rfl hl.1 rfl rfl (Nat.le_of_ble_eq_true rfl) dX5_atom_141 ⟨Nat.le_of_ble_eq_true rfl, Nat.le_of_ble_eq_true rfl⟩ ⟨Nat.le_of_ble_eq_true rfl, Nat.le_of_ble_eq_true rfl⟩) (fun r_64 H locs ws_61 h u_62 p_63 => ?_)
                obtain ⟨e_65, e_66, e_67, e_68⟩ := p_63
                replace HE : FT = g27c_X5_atom_6 (xso SC ad ws_61) r_64.toInt := HE.trans (by rw [e_65, e_66]; rfl)
                replace HE : FT = g28b_X5_atom_6 (xso SC ad ws_61) r_64.toInt := HE.trans rfl
                refine y_if_eq (tgt := 153) C0 dX5_atom_144 (by decide) (fun c_69 => ?_) (fun c_69 => ?_)
                · -- 144
                  replace HE : FT = g29_X5_atom_6 (xso SC ad ws_61) := HE.trans (if_pos c_69)
                  refine y_c1 (n := (-1)) C0 (by decide) dX5_atom_153 (fun v_70 e_71 => ?_)
                  refine lv_istore_n (lv' := [(2, .int v_70), (0, .ref (ad 77)), (1, .int a1)]) C0.1 C0.2.1 dX5_atom_154 rfl hl (by decide) rfl (fun ls hl => ?_)
                  refine lv_iload_n C0.1 C0.2.1 dX5_atom_155 rfl (lv_at hl 0 rfl) ?_
                  refine y_if_ge (tgt := 165) C0 dX5_atom_156 (by decide) (fun c_72 => ((o24_11 e_71 c_72)).elim) (fun c_72 => ?_)
                  refine lv_aload_n C0.1 C0.2.1 dX5_atom_159 rfl (lv_at hl 1 rfl) ?_
                  refine y_c1 (n := 2) C0 (by decide) dX5_atom_160 (fun v_73 e_74 => ?_)
                  refine y_cv h (y_rV (As := [.int v_73]) (rest := []) C0 hZ h (c_X5_fail l G Z ad _ h.2 v_73) k_X5_fail q_628 q_3 q_626 kSC_77 rfl rfl rfl hl.1 rfl rfl (Nat.le_of_ble_eq_true rfl) dX5_atom_161 ⟨Nat.le_of_ble_eq_true rfl, Nat.le_of_ble_eq_true rfl⟩ ⟨Nat.le_of_ble_eq_true rfl, Nat.le_of_ble_eq_true rfl⟩) (fun H locs ws_75 h u_76 p_77 => ?_)
                  have e_78 := p_77
                  replace HE : FT = g31c_X5_atom_6 (xso SC ad ws_75) := HE.trans (by rw [e_78, e_74]; rfl)
                  replace HE : FT = ((xso SC ad ws_75), 0) := HE.trans rfl
                  rw [hQ]
                  exact y_vret C0 h (Fr.tr (Fr.tr (Fr.tr (Fr.tr (Fr.tr (Fr.tr (Fr.mono u_17 (by decide)) (Fr.mono u_26 (by decide))) (Fr.mono u_35 (by decide))) (Fr.mono u_44 (by decide))) (Fr.mono u_53 (by decide))) (Fr.mono u_62 (by decide))) (Fr.mono u_76 (by decide))) (congrArg Prod.fst (HE.symm.trans hFT)) dX5_atom_164
                · -- 144
                  replace HE : FT = g30_X5_atom_6 (xso SC ad ws_61) := HE.trans (if_neg c_69)
                  refine y_c3 (n := 1005) C0 (by decide) dX5_atom_147 (fun v_79 e_80 => ?_)
                  refine lv_goto (tgt := 154) C0.1 C0.2.1 dX5_atom_150 (by decide) ?_
                  refine lv_istore_n (lv' := [(2, .int v_79), (0, .ref (ad 77)), (1, .int a1)]) C0.1 C0.2.1 dX5_atom_154 rfl hl (by decide) rfl (fun ls hl => ?_)
                  refine lv_iload_n C0.1 C0.2.1 dX5_atom_155 rfl (lv_at hl 0 rfl) ?_
                  refine y_if_ge (tgt := 165) C0 dX5_atom_156 (by decide) (fun c_81 => ?_) (fun c_81 => ((o24_12 e_80 c_81)).elim)
                  refine lv_aload_n C0.1 C0.2.1 dX5_atom_165 rfl (lv_at hl 1 rfl) ?_
                  refine tg_X5_law C0 h kSC_77 q_380 dX5_atom_166 (fun i_82 hi_82 ei_82 => ?_)
                  refine lv_iload_n C0.1 C0.2.1 dX5_atom_169 rfl (lv_at hl 0 rfl) ?_
                  refine y_cv h (y_rV (As := [.int v_79]) (rest := []) C0 hZ h (c_X4_add l G Z ad _ h.2 i_82 hi_82 v_79) k_X4_add q_827 q_828 q_826 hi_82 rfl rfl rfl hl.1 rfl rfl (Nat.le_of_ble_eq_true rfl) dX5_atom_170 ⟨Nat.le_of_ble_eq_true rfl, Nat.le_of_ble_eq_true rfl⟩ ⟨Nat.le_of_ble_eq_true rfl, Nat.le_of_ble_eq_true rfl⟩) (fun H locs ws_83 h u_84 p_85 => ?_)
                  have e_86 := p_85
                  replace HE : FT = g32c_X5_atom_6 (xso SC ad ws_83) := HE.trans (by rw [e_86, e_80, ei_82]; rfl)
                  refine lv_aload_n C0.1 C0.2.1 dX5_atom_173 rfl (lv_at hl 1 rfl) ?_
                  refine y_cv h (y_rV (As := []) (rest := []) C0 hZ h (c_X5_advance l G Z ad _ h.2) k_X5_advance q_616 q_0 q_614 kSC_77 rfl rfl rfl hl.1 rfl rfl (Nat.le_of_ble_eq_true rfl) dX5_atom_174 ⟨Nat.le_of_ble_eq_true rfl, Nat.le_of_ble_eq_true rfl⟩ ⟨Nat.le_of_ble_eq_true rfl, Nat.le_of_ble_eq_true rfl⟩) (fun H locs ws_87 h u_88 p_89 => ?_)
                  have e_90 := p_89
                  replace HE : FT = g33c_X5_atom_6 (xso SC ad ws_87) := HE.trans (by rw [e_90]; rfl)
                  replace HE : FT = ((xso SC ad ws_87), 0) := HE.trans rfl
                  rw [hQ]
                  exact y_vret C0 h (Fr.tr (Fr.tr (Fr.tr (Fr.tr (Fr.tr (Fr.tr (Fr.tr (Fr.mono u_17 (by decide)) (Fr.mono u_26 (by decide))) (Fr.mono u_35 (by decide))) (Fr.mono u_44 (by decide))) (Fr.mono u_53 (by decide))) (Fr.mono u_62 (by decide))) (Fr.mono u_84 (by decide))) (Fr.mono u_88 (by decide))) (congrArg Prod.fst (HE.symm.trans hFT)) dX5_atom_177
              · -- 129
                replace HE : FT = g26_X5_atom_6 (xso SC ad ws_52) := HE.trans (if_neg c_60)
                refine y_c3 (n := 1004) C0 (by decide) dX5_atom_132 (fun v_91 e_92 => ?_)
                refine lv_goto (tgt := 154) C0.1 C0.2.1 dX5_atom_135 (by decide) ?_
                refine lv_istore_n (lv' := [(2, .int v_91), (0, .ref (ad 77)), (1, .int a1)]) C0.1 C0.2.1 dX5_atom_154 rfl hl (by decide) rfl (fun ls hl => ?_)
                refine lv_iload_n C0.1 C0.2.1 dX5_atom_155 rfl (lv_at hl 0 rfl) ?_
                refine y_if_ge (tgt := 165) C0 dX5_atom_156 (by decide) (fun c_93 => ?_) (fun c_93 => ((o24_13 e_92 c_93)).elim)
                refine lv_aload_n C0.1 C0.2.1 dX5_atom_165 rfl (lv_at hl 1 rfl) ?_
                refine tg_X5_law C0 h kSC_77 q_380 dX5_atom_166 (fun i_94 hi_94 ei_94 => ?_)
                refine lv_iload_n C0.1 C0.2.1 dX5_atom_169 rfl (lv_at hl 0 rfl) ?_
                refine y_cv h (y_rV (As := [.int v_91]) (rest := []) C0 hZ h (c_X4_add l G Z ad _ h.2 i_94 hi_94 v_91) k_X4_add q_827 q_828 q_826 hi_94 rfl rfl rfl hl.1 rfl rfl (Nat.le_of_ble_eq_true rfl) dX5_atom_170 ⟨Nat.le_of_ble_eq_true rfl, Nat.le_of_ble_eq_true rfl⟩ ⟨Nat.le_of_ble_eq_true rfl, Nat.le_of_ble_eq_true rfl⟩) (fun H locs ws_95 h u_96 p_97 => ?_)
                have e_98 := p_97
                replace HE : FT = g34c_X5_atom_6 (xso SC ad ws_95) := HE.trans (by rw [e_98, e_92, ei_94]; rfl)
                refine lv_aload_n C0.1 C0.2.1 dX5_atom_173 rfl (lv_at hl 1 rfl) ?_
                refine y_cv h (y_rV (As := []) (rest := []) C0 hZ h (c_X5_advance l G Z ad _ h.2) k_X5_advance q_616 q_0 q_614 kSC_77 rfl rfl rfl hl.1 rfl rfl (Nat.le_of_ble_eq_true rfl) dX5_atom_174 ⟨Nat.le_of_ble_eq_true rfl, Nat.le_of_ble_eq_true rfl⟩ ⟨Nat.le_of_ble_eq_true rfl, Nat.le_of_ble_eq_true rfl⟩) (fun H locs ws_99 h u_100 p_101 => ?_)
                have e_102 := p_101
                replace HE : FT = g35c_X5_atom_6 (xso SC ad ws_99) := HE.trans (by rw [e_102]; rfl)
                replace HE : FT = ((xso SC ad ws_99), 0) := HE.trans rfl
                rw [hQ]
                exact y_vret C0 h (Fr.tr (Fr.tr (Fr.tr (Fr.tr (Fr.tr (Fr.tr (Fr.mono u_17 (by decide)) (Fr.mono u_26 (by decide))) (Fr.mono u_35 (by decide))) (Fr.mono u_44 (by decide))) (Fr.mono u_53 (by decide))) (Fr.mono u_96 (by decide))) (Fr.mono u_100 (by decide))) (congrArg Prod.fst (HE.symm.trans hFT)) dX5_atom_177
            · -- 114
              replace HE : FT = g22_X5_atom_6 (xso SC ad ws_43) := HE.trans (if_neg c_51)
              refine y_c3 (n := 1003) C0 (by decide) dX5_atom_117 (fun v_103 e_104 => ?_)
              refine lv_goto (tgt := 154) C0.1 C0.2.1 dX5_atom_120 (by decide) ?_
              refine lv_istore_n (lv' := [(2, .int v_103), (0, .ref (ad 77)), (1, .int a1)]) C0.1 C0.2.1 dX5_atom_154 rfl hl (by decide) rfl (fun ls hl => ?_)
              refine lv_iload_n C0.1 C0.2.1 dX5_atom_155 rfl (lv_at hl 0 rfl) ?_
              refine y_if_ge (tgt := 165) C0 dX5_atom_156 (by decide) (fun c_105 => ?_) (fun c_105 => ((o24_14 e_104 c_105)).elim)
              refine lv_aload_n C0.1 C0.2.1 dX5_atom_165 rfl (lv_at hl 1 rfl) ?_
              refine tg_X5_law C0 h kSC_77 q_380 dX5_atom_166 (fun i_106 hi_106 ei_106 => ?_)
              refine lv_iload_n C0.1 C0.2.1 dX5_atom_169 rfl (lv_at hl 0 rfl) ?_
              refine y_cv h (y_rV (As := [.int v_103]) (rest := []) C0 hZ h (c_X4_add l G Z ad _ h.2 i_106 hi_106 v_103) k_X4_add q_827 q_828 q_826 hi_106 rfl rfl rfl hl.1 rfl rfl (Nat.le_of_ble_eq_true rfl) dX5_atom_170 ⟨Nat.le_of_ble_eq_true rfl, Nat.le_of_ble_eq_true rfl⟩ ⟨Nat.le_of_ble_eq_true rfl, Nat.le_of_ble_eq_true rfl⟩) (fun H locs ws_107 h u_108 p_109 => ?_)
              have e_110 := p_109
              replace HE : FT = g36c_X5_atom_6 (xso SC ad ws_107) := HE.trans (by rw [e_110, e_104, ei_106]; rfl)
              refine lv_aload_n C0.1 C0.2.1 dX5_atom_173 rfl (lv_at hl 1 rfl) ?_
              refine y_cv h (y_rV (As := []) (rest := []) C0 hZ h (c_X5_advance l G Z ad _ h.2) k_X5_advance q_616 q_0 q_614 kSC_77 rfl rfl rfl hl.1 rfl rfl (Nat.le_of_ble_eq_true rfl) dX5_atom_174 ⟨Nat.le_of_ble_eq_true rfl, Nat.le_of_ble_eq_true rfl⟩ ⟨Nat.le_of_ble_eq_true rfl, Nat.le_of_ble_eq_true rfl⟩) (fun H locs ws_111 h u_112 p_113 => ?_)
              have e_114 := p_113
              replace HE : FT = g37c_X5_atom_6 (xso SC ad ws_111) := HE.trans (by rw [e_114]; rfl)
              replace HE : FT = ((xso SC ad ws_111), 0) := HE.trans rfl
              rw [hQ]
              exact y_vret C0 h (Fr.tr (Fr.tr (Fr.tr (Fr.tr (Fr.tr (Fr.mono u_17 (by decide)) (Fr.mono u_26 (by decide))) (Fr.mono u_35 (by decide))) (Fr.mono u_44 (by decide))) (Fr.mono u_108 (by decide))) (Fr.mono u_112 (by decide))) (congrArg Prod.fst (HE.symm.trans hFT)) dX5_atom_177
          · -- 99
            replace HE : FT = g18_X5_atom_6 (xso SC ad ws_34) := HE.trans (if_neg c_42)
            refine y_c3 (n := 1002) C0 (by decide) dX5_atom_102 (fun v_115 e_116 => ?_)
            refine lv_goto (tgt := 154) C0.1 C0.2.1 dX5_atom_105 (by decide) ?_
            refine lv_istore_n (lv' := [(2, .int v_115), (0, .ref (ad 77)), (1, .int a1)]) C0.1 C0.2.1 dX5_atom_154 rfl hl (by decide) rfl (fun ls hl => ?_)
            refine lv_iload_n C0.1 C0.2.1 dX5_atom_155 rfl (lv_at hl 0 rfl) ?_
            refine y_if_ge (tgt := 165) C0 dX5_atom_156 (by decide) (fun c_117 => ?_) (fun c_117 => ((o24_15 e_116 c_117)).elim)
            refine lv_aload_n C0.1 C0.2.1 dX5_atom_165 rfl (lv_at hl 1 rfl) ?_
            refine tg_X5_law C0 h kSC_77 q_380 dX5_atom_166 (fun i_118 hi_118 ei_118 => ?_)
            refine lv_iload_n C0.1 C0.2.1 dX5_atom_169 rfl (lv_at hl 0 rfl) ?_
            refine y_cv h (y_rV (As := [.int v_115]) (rest := []) C0 hZ h (c_X4_add l G Z ad _ h.2 i_118 hi_118 v_115) k_X4_add q_827 q_828 q_826 hi_118 rfl rfl rfl hl.1 rfl rfl (Nat.le_of_ble_eq_true rfl) dX5_atom_170 ⟨Nat.le_of_ble_eq_true rfl, Nat.le_of_ble_eq_true rfl⟩ ⟨Nat.le_of_ble_eq_true rfl, Nat.le_of_ble_eq_true rfl⟩) (fun H locs ws_119 h u_120 p_121 => ?_)
            have e_122 := p_121
            replace HE : FT = g38c_X5_atom_6 (xso SC ad ws_119) := HE.trans (by rw [e_122, e_116, ei_118]; rfl)
            refine lv_aload_n C0.1 C0.2.1 dX5_atom_173 rfl (lv_at hl 1 rfl) ?_
            refine y_cv h (y_rV (As := []) (rest := []) C0 hZ h (c_X5_advance l G Z ad _ h.2) k_X5_advance q_616 q_0 q_614 kSC_77 rfl rfl rfl hl.1 rfl rfl (Nat.le_of_ble_eq_true rfl) dX5_atom_174 ⟨Nat.le_of_ble_eq_true rfl, Nat.le_of_ble_eq_true rfl⟩ ⟨Nat.le_of_ble_eq_true rfl, Nat.le_of_ble_eq_true rfl⟩) (fun H locs ws_123 h u_124 p_125 => ?_)
            have e_126 := p_125
            replace HE : FT = g39c_X5_atom_6 (xso SC ad ws_123) := HE.trans (by rw [e_126]; rfl)
            replace HE : FT = ((xso SC ad ws_123), 0) := HE.trans rfl
            rw [hQ]
            exact y_vret C0 h (Fr.tr (Fr.tr (Fr.tr (Fr.tr (Fr.mono u_17 (by decide)) (Fr.mono u_26 (by decide))) (Fr.mono u_35 (by decide))) (Fr.mono u_120 (by decide))) (Fr.mono u_124 (by decide))) (congrArg Prod.fst (HE.symm.trans hFT)) dX5_atom_177
        · -- 84
          replace HE : FT = g14_X5_atom_6 (xso SC ad ws_25) := HE.trans (if_neg c_33)
          refine y_c3 (n := 1001) C0 (by decide) dX5_atom_87 (fun v_127 e_128 => ?_)
          refine lv_goto (tgt := 154) C0.1 C0.2.1 dX5_atom_90 (by decide) ?_
          refine lv_istore_n (lv' := [(2, .int v_127), (0, .ref (ad 77)), (1, .int a1)]) C0.1 C0.2.1 dX5_atom_154 rfl hl (by decide) rfl (fun ls hl => ?_)
          refine lv_iload_n C0.1 C0.2.1 dX5_atom_155 rfl (lv_at hl 0 rfl) ?_
          refine y_if_ge (tgt := 165) C0 dX5_atom_156 (by decide) (fun c_129 => ?_) (fun c_129 => ((o24_16 e_128 c_129)).elim)
          refine lv_aload_n C0.1 C0.2.1 dX5_atom_165 rfl (lv_at hl 1 rfl) ?_
          refine tg_X5_law C0 h kSC_77 q_380 dX5_atom_166 (fun i_130 hi_130 ei_130 => ?_)
          refine lv_iload_n C0.1 C0.2.1 dX5_atom_169 rfl (lv_at hl 0 rfl) ?_
          refine y_cv h (y_rV (As := [.int v_127]) (rest := []) C0 hZ h (c_X4_add l G Z ad _ h.2 i_130 hi_130 v_127) k_X4_add q_827 q_828 q_826 hi_130 rfl rfl rfl hl.1 rfl rfl (Nat.le_of_ble_eq_true rfl) dX5_atom_170 ⟨Nat.le_of_ble_eq_true rfl, Nat.le_of_ble_eq_true rfl⟩ ⟨Nat.le_of_ble_eq_true rfl, Nat.le_of_ble_eq_true rfl⟩) (fun H locs ws_131 h u_132 p_133 => ?_)
          have e_134 := p_133
          replace HE : FT = g40c_X5_atom_6 (xso SC ad ws_131) := HE.trans (by rw [e_134, e_128, ei_130]; rfl)
          refine lv_aload_n C0.1 C0.2.1 dX5_atom_173 rfl (lv_at hl 1 rfl) ?_
          refine y_cv h (y_rV (As := []) (rest := []) C0 hZ h (c_X5_advance l G Z ad _ h.2) k_X5_advance q_616 q_0 q_614 kSC_77 rfl rfl rfl hl.1 rfl rfl (Nat.le_of_ble_eq_true rfl) dX5_atom_174 ⟨Nat.le_of_ble_eq_true rfl, Nat.le_of_ble_eq_true rfl⟩ ⟨Nat.le_of_ble_eq_true rfl, Nat.le_of_ble_eq_true rfl⟩) (fun H locs ws_135 h u_136 p_137 => ?_)
          have e_138 := p_137
          replace HE : FT = g41c_X5_atom_6 (xso SC ad ws_135) := HE.trans (by rw [e_138]; rfl)
          replace HE : FT = ((xso SC ad ws_135), 0) := HE.trans rfl
          rw [hQ]
          exact y_vret C0 h (Fr.tr (Fr.tr (Fr.tr (Fr.mono u_17 (by decide)) (Fr.mono u_26 (by decide))) (Fr.mono u_132 (by decide))) (Fr.mono u_136 (by decide))) (congrArg Prod.fst (HE.symm.trans hFT)) dX5_atom_177
      · -- 69
        replace HE : FT = g10_X5_atom_6 (xso SC ad ws_16) := HE.trans (if_neg c_24)
        refine y_c3 (n := 1000) C0 (by decide) dX5_atom_72 (fun v_139 e_140 => ?_)
        refine lv_goto (tgt := 154) C0.1 C0.2.1 dX5_atom_75 (by decide) ?_
        refine lv_istore_n (lv' := [(2, .int v_139), (0, .ref (ad 77)), (1, .int a1)]) C0.1 C0.2.1 dX5_atom_154 rfl hl (by decide) rfl (fun ls hl => ?_)
        refine lv_iload_n C0.1 C0.2.1 dX5_atom_155 rfl (lv_at hl 0 rfl) ?_
        refine y_if_ge (tgt := 165) C0 dX5_atom_156 (by decide) (fun c_141 => ?_) (fun c_141 => ((o24_17 e_140 c_141)).elim)
        refine lv_aload_n C0.1 C0.2.1 dX5_atom_165 rfl (lv_at hl 1 rfl) ?_
        refine tg_X5_law C0 h kSC_77 q_380 dX5_atom_166 (fun i_142 hi_142 ei_142 => ?_)
        refine lv_iload_n C0.1 C0.2.1 dX5_atom_169 rfl (lv_at hl 0 rfl) ?_
        refine y_cv h (y_rV (As := [.int v_139]) (rest := []) C0 hZ h (c_X4_add l G Z ad _ h.2 i_142 hi_142 v_139) k_X4_add q_827 q_828 q_826 hi_142 rfl rfl rfl hl.1 rfl rfl (Nat.le_of_ble_eq_true rfl) dX5_atom_170 ⟨Nat.le_of_ble_eq_true rfl, Nat.le_of_ble_eq_true rfl⟩ ⟨Nat.le_of_ble_eq_true rfl, Nat.le_of_ble_eq_true rfl⟩) (fun H locs ws_143 h u_144 p_145 => ?_)
        have e_146 := p_145
        replace HE : FT = g42c_X5_atom_6 (xso SC ad ws_143) := HE.trans (by rw [e_146, e_140, ei_142]; rfl)
        refine lv_aload_n C0.1 C0.2.1 dX5_atom_173 rfl (lv_at hl 1 rfl) ?_
        refine y_cv h (y_rV (As := []) (rest := []) C0 hZ h (c_X5_advance l G Z ad _ h.2) k_X5_advance q_616 q_0 q_614 kSC_77 rfl rfl rfl hl.1 rfl rfl (Nat.le_of_ble_eq_true rfl) dX5_atom_174 ⟨Nat.le_of_ble_eq_true rfl, Nat.le_of_ble_eq_true rfl⟩ ⟨Nat.le_of_ble_eq_true rfl, Nat.le_of_ble_eq_true rfl⟩) (fun H locs ws_147 h u_148 p_149 => ?_)
        have e_150 := p_149
        replace HE : FT = g43c_X5_atom_6 (xso SC ad ws_147) := HE.trans (by rw [e_150]; rfl)
        replace HE : FT = ((xso SC ad ws_147), 0) := HE.trans rfl
        rw [hQ]
        exact y_vret C0 h (Fr.tr (Fr.tr (Fr.mono u_17 (by decide)) (Fr.mono u_144 (by decide))) (Fr.mono u_148 (by decide))) (congrArg Prod.fst (HE.symm.trans hFT)) dX5_atom_177
    · -- 32
      replace HE : FT = g6_X5_atom_6 (xso SC ad ws0) := HE.trans (if_pos (o24_10 e_6 c_7 qh_12 e_14 c_15))
      refine lv_aload_n C0.1 C0.2.1 dX5_atom_35 rfl (lv_at hl 0 rfl) ?_
      refine lv_iload_n C0.1 C0.2.1 dX5_atom_36 rfl (lv_at hl 1 rfl) ?_
      refine y_ci h (y_rV (As := [.int a1]) (rest := []) C0 hZ h (c_X5_tooDeep_6 l G Z ad _ h.2 a1 (o24_18 l1 u1) (o24_19 l1 u1)) k_X5_tooDeep q_832 q_18 q_830 kSC_77 rfl rfl rfl hl.1 rfl rfl (Nat.le_of_ble_eq_true rfl) dX5_atom_37 ⟨Nat.le_of_ble_eq_true rfl, Nat.le_of_ble_eq_true rfl⟩ ⟨Nat.le_of_ble_eq_true rfl, Nat.le_of_ble_eq_true rfl⟩) (fun r_154 H locs ws_151 h u_152 p_153 => ?_)
      obtain ⟨e_155, e_156, e_157, e_158⟩ := p_153
      replace HE : FT = g44c_X5_atom_6 (xso SC ad ws_151) := HE.trans (by rw [e_155, (o24_20 l1 u1)]; rfl)
      refine y_if_ne (tgt := 177) C0 dX5_atom_40 (by decide) (fun c_159 => ?_) (fun c_159 => ((o24_21 e_157 e_158 c_159)).elim)
      replace HE : FT = ((xso SC ad ws_151), 0) := HE.trans rfl
      rw [hQ]
      exact y_vret C0 h (Fr.mono u_152 (by decide)) (congrArg Prod.fst (HE.symm.trans hFT)) dX5_atom_177
  · -- 5
    replace HE : FT = g3_X5_atom_6 (xso SC ad ws0) := HE.trans (if_pos (o24_7 e_6 c_7))
    refine lv_aload_n C0.1 C0.2.1 dX5_atom_8 rfl (lv_at hl 0 rfl) ?_
    refine tg_X5_law C0 h kSC_77 q_380 dX5_atom_9 (fun i_160 hi_160 ei_160 => ?_)
    refine lv_aload_n C0.1 C0.2.1 dX5_atom_12 rfl (lv_at hl 0 rfl) ?_
    refine tg_X5_number C0 h kSC_77 q_377 dX5_atom_13 (fun v_161 e_162 e_163 e_164 => ?_)
    refine y_cv h (y_rV (As := [.int v_161]) (rest := []) C0 hZ h (c_X4_add l G Z ad _ h.2 i_160 hi_160 v_161) k_X4_add q_827 q_828 q_826 hi_160 rfl rfl rfl hl.1 rfl rfl (Nat.le_of_ble_eq_true rfl) dX5_atom_16 ⟨Nat.le_of_ble_eq_true rfl, Nat.le_of_ble_eq_true rfl⟩ ⟨Nat.le_of_ble_eq_true rfl, Nat.le_of_ble_eq_true rfl⟩) (fun H locs ws_165 h u_166 p_167 => ?_)
    have e_168 := p_167
    replace HE : FT = g45c_X5_atom_6 (xso SC ad ws_165) := HE.trans (by rw [e_168, (xg0 e_162 : v_161.toInt = (xso SC ad ws0) 0 77 7), ei_160]; rfl)
    refine lv_aload_n C0.1 C0.2.1 dX5_atom_19 rfl (lv_at hl 0 rfl) ?_
    refine y_cv h (y_rV (As := []) (rest := []) C0 hZ h (c_X5_advance l G Z ad _ h.2) k_X5_advance q_616 q_0 q_614 kSC_77 rfl rfl rfl hl.1 rfl rfl (Nat.le_of_ble_eq_true rfl) dX5_atom_20 ⟨Nat.le_of_ble_eq_true rfl, Nat.le_of_ble_eq_true rfl⟩ ⟨Nat.le_of_ble_eq_true rfl, Nat.le_of_ble_eq_true rfl⟩) (fun H locs ws_169 h u_170 p_171 => ?_)
    have e_172 := p_171
    replace HE : FT = g46c_X5_atom_6 (xso SC ad ws_169) := HE.trans (by rw [e_172]; rfl)
    refine lv_goto (tgt := 177) C0.1 C0.2.1 dX5_atom_23 (by decide) ?_
    replace HE : FT = ((xso SC ad ws_169), 0) := HE.trans rfl
    rw [hQ]
    exact y_vret C0 h (Fr.tr (Fr.mono u_166 (by decide)) (Fr.mono u_170 (by decide))) (congrArg Prod.fst (HE.symm.trans hFT)) dX5_atom_177
noncomputable def g5_X5_term_6 (s : XS) : XR := (s, 0)
noncomputable def g8_X5_term_6 (s : XS) : XR := (s, 0)
noncomputable def g12c_X5_term_6 (R7 : XS → Int → XR) (s : XS) (x2_7 : Int) : XR := R7 s ((x2_7 + 1))
noncomputable def g11c_X5_term_6 (R7 : XS → Int → XR) (s : XS) (x2_7 : Int) : XR := g12c_X5_term_6 R7 ((f_X4_add s (Int.toNat (s 3 77 10)) 2002).1) x2_7
noncomputable def g10c_X5_term_6 (R7 : XS → Int → XR) (s : XS) (x2_7 : Int) : XR := g11c_X5_term_6 R7 ((f_X5_atom_6 s 6).1) x2_7
noncomputable def g9_X5_term_6 (R7 : XS → Int → XR) (s : XS) (x2_7 : Int) : XR := g10c_X5_term_6 R7 ((f_X5_advance s).1) x2_7
noncomputable def g7b_X5_term_6 (R7 : XS → Int → XR) (s : XS) (v_19 : Int) (x2_7 : Int) : XR := if v_19 = 42 then g9_X5_term_6 R7 s x2_7 else g8_X5_term_6 s
noncomputable def g6_X5_term_6 (R7 : XS → Int → XR) (s : XS) (x2_7 : Int) : XR := g7b_X5_term_6 R7 s ((s 0 77 4)) x2_7
noncomputable def g4b_X5_term_6 (R7 : XS → Int → XR) (s : XS) (x2_7 : Int) : XR := if x2_7 < 900 then g6_X5_term_6 R7 s x2_7 else g5_X5_term_6 s
noncomputable def g3l_X5_term_6 (R7 : XS → Int → XR) (s : XS) (x2_7 : Int) : XR := g4b_X5_term_6 R7 s x2_7
noncomputable def L2_X5_term_6 (n : Nat) : XS → Int → XR := Nat.rec (motive := fun _ => XS → Int → XR) (fun s _ => (s, 0)) (fun _ R7 => g3l_X5_term_6 R7) n
noncomputable def g1c_X5_term_6 (s : XS) : XR := L2_X5_term_6 (Int.toNat (900 - 0 + 1)) s 0
noncomputable def f_X5_term_6 (s : XS) (a1 : Int) : XR := g1c_X5_term_6 ((f_X5_atom_6 s a1).1)
set_option maxHeartbeats 4000000 in
set_option maxRecDepth 100000 in
theorem c_X5_term_6 (l : Launch) (G : GG) (Z : RZ) (ad : Nat → Nat) (ws0 : va_W) (hT : Ty G SC ad ws0) (a1 : Int32) (l1 : 6 ≤ a1.toInt) (u1 : a1.toInt ≤ 6) : Mq l yX5_term cX5_term 3 none 7 G Z [.ref (ad 77), .int a1] ws0 (PV G SC ad [2, 3, 16] ws0 (fun u => (xso SC ad u = (f_X5_term_6 (xso SC ad ws0) a1.toInt).1))) := by
  refine Mq.start (by decide) (Nat.le_of_ble_eq_true rfl) ?_
  intro p e s m below meth c A ls C0 hZ h hl
  have hl : lv_has ls 3 [(0, .ref (ad 77)), (1, .int a1)] := hl
  have h : Wt G SC ad A s s.heap [] ws0 := ⟨h, hT⟩
  obtain ⟨args, hargs⟩ : ∃ z, z = ([.ref (ad 77), .int a1] : List Value).toArray := ⟨_, rfl⟩
  rw [← hargs] at C0 ⊢
  have C0 : Cx p s m args meth c RX5 cX5_term 3 none := C0
  obtain ⟨Q, hQ⟩ : ∃ z, z = MQ below ((PV G SC ad [2, 3, 16] ws0 (fun u => (xso SC ad u = (f_X5_term_6 (xso SC ad ws0) a1.toInt).1))) A) args s 0 0 A := ⟨_, rfl⟩
  rw [← hQ]
  obtain ⟨FT, hFT⟩ : ∃ z, z = f_X5_term_6 (xso SC ad ws0) a1.toInt := ⟨_, rfl⟩
  have HE : FT = f_X5_term_6 (xso SC ad ws0) a1.toInt := hFT
  refine lv_aload_n C0.1 C0.2.1 dX5_term_0 rfl (lv_at hl 0 rfl) ?_
  refine lv_iload_n C0.1 C0.2.1 dX5_term_1 rfl (lv_at hl 1 rfl) ?_
  refine y_cv h (y_rV (As := [.int a1]) (rest := []) C0 hZ h (c_X5_atom_6 l G Z ad _ h.2 a1 (o24_18 l1 u1) (o24_19 l1 u1)) k_X5_atom q_824 q_17 q_822 kSC_77 rfl rfl rfl hl.1 rfl rfl (Nat.le_of_ble_eq_true rfl) dX5_term_2 ⟨Nat.le_of_ble_eq_true rfl, Nat.le_of_ble_eq_true rfl⟩ ⟨Nat.le_of_ble_eq_true rfl, Nat.le_of_ble_eq_true rfl⟩) (fun H locs ws_1 h u_2 p_3 => ?_)
  have e_4 := p_3
  replace HE : FT = g1c_X5_term_6 (xso SC ad ws_1) := HE.trans (by rw [e_4]; rfl)
  refine y_c1 (n := 0) C0 (by decide) dX5_term_5 (fun v_5 e_6 => ?_)
  refine lv_istore_n (lv' := [(2, .int v_5), (0, .ref (ad 77)), (1, .int a1)]) C0.1 C0.2.1 dX5_term_6 rfl hl (by decide) rfl (fun ls hl => ?_)
  have lp_10 : ∀ (n_12 : Nat) (x2_7 : Int32) (H : Heap) (locs : List Loc) (ls : Array Slot) (ws_8 : va_W), 900 - x2_7.toInt < (n_12 : Int) → 0 ≤ x2_7.toInt → x2_7.toInt ≤ 900 → (FT = L2_X5_term_6 n_12 (xso SC ad ws_8) x2_7.toInt) → Wt G SC ad A s H locs ws_8 → Fr SC [2, 3, 16] ws_1 ws_8 → lv_has ls 3 [(2, .int x2_7), (0, .ref (ad 77)), (1, .int a1)] → W p l e (rmd 7 0 0) s m args below meth c H locs 0 0 Q (F0 m 7 ls []) := by
    intro n_12
    induction n_12 with
    | zero => intro x2_7 H locs ls ws_8 hn_13 b_14 b_15 HE h hF_9 hl; exact ((o24_22 b_14 b_15 hn_13)).elim
    | succ n_12 ih_11 =>
      intro x2_7 H locs ls ws_8 hn_13 b_14 b_15 HE h hF_9 hl
      obtain ⟨R7, hR7⟩ : ∃ z, z = L2_X5_term_6 n_12 := ⟨_, rfl⟩
      replace HE : FT = g3l_X5_term_6 R7 (xso SC ad ws_8) x2_7.toInt := HE.trans (by rw [hR7]; rfl)
      refine lv_iload_n C0.1 C0.2.1 dX5_term_7 rfl (lv_at hl 0 rfl) ?_
      refine y_c3 (n := 900) C0 (by decide) dX5_term_8 (fun v_16 e_17 => ?_)
      replace HE : FT = g4b_X5_term_6 R7 (xso SC ad ws_8) x2_7.toInt := HE.trans rfl
      refine y_icmp_ge (tgt := 48) C0 dX5_term_11 (by decide) (fun c_18 => ?_) (fun c_18 => ?_)
      · -- 11
        replace HE : FT = g5_X5_term_6 (xso SC ad ws_8) := HE.trans (if_neg (o24_24 b_14 b_15 hn_13 e_17 c_18))
        replace HE : FT = ((xso SC ad ws_8), 0) := HE.trans rfl
        rw [hQ]
        exact y_vret C0 h (Fr.tr u_2 hF_9) (congrArg Prod.fst (HE.symm.trans hFT)) dX5_term_48
      · -- 11
        replace HE : FT = g6_X5_term_6 R7 (xso SC ad ws_8) x2_7.toInt := HE.trans (if_pos (o24_25 b_14 b_15 hn_13 e_17 c_18))
        refine lv_aload_n C0.1 C0.2.1 dX5_term_14 rfl (lv_at hl 1 rfl) ?_
        refine tg_X5_kind C0 h kSC_77 q_374 dX5_term_15 (fun v_19 e_20 e_21 e_22 => ?_)
        refine y_c2 (n := 42) C0 (by decide) dX5_term_18 (fun v_23 e_24 => ?_)
        replace HE : FT = g7b_X5_term_6 R7 (xso SC ad ws_8) v_19.toInt x2_7.toInt := HE.trans (by rw [(xg0 e_20 : v_19.toInt = (xso SC ad ws_8) 0 77 4)]; rfl)
        refine y_icmp_ne (tgt := 48) C0 dX5_term_20 (by decide) (fun c_25 => ?_) (fun c_25 => ?_)
        · -- 20
          replace HE : FT = g8_X5_term_6 (xso SC ad ws_8) := HE.trans (if_neg (o24_27 e_24 c_25))
          replace HE : FT = ((xso SC ad ws_8), 0) := HE.trans rfl
          rw [hQ]
          exact y_vret C0 h (Fr.tr u_2 hF_9) (congrArg Prod.fst (HE.symm.trans hFT)) dX5_term_48
        · -- 20
          replace HE : FT = g9_X5_term_6 R7 (xso SC ad ws_8) x2_7.toInt := HE.trans (if_pos (o24_28 e_24 c_25))
          refine lv_aload_n C0.1 C0.2.1 dX5_term_23 rfl (lv_at hl 1 rfl) ?_
          refine y_cv h (y_rV (As := []) (rest := []) C0 hZ h (c_X5_advance l G Z ad _ h.2) k_X5_advance q_616 q_0 q_614 kSC_77 rfl rfl rfl hl.1 rfl rfl (Nat.le_of_ble_eq_true rfl) dX5_term_24 ⟨Nat.le_of_ble_eq_true rfl, Nat.le_of_ble_eq_true rfl⟩ ⟨Nat.le_of_ble_eq_true rfl, Nat.le_of_ble_eq_true rfl⟩) (fun H locs ws_26 h u_27 p_28 => ?_)
          have e_29 := p_28
          replace HE : FT = g10c_X5_term_6 R7 (xso SC ad ws_26) x2_7.toInt := HE.trans (by rw [e_29]; rfl)
          refine lv_aload_n C0.1 C0.2.1 dX5_term_27 rfl (lv_at hl 1 rfl) ?_
          refine lv_iload_n C0.1 C0.2.1 dX5_term_28 rfl (lv_at hl 2 rfl) ?_
          refine y_cv h (y_rV (As := [.int a1]) (rest := []) C0 hZ h (c_X5_atom_6 l G Z ad _ h.2 a1 (o24_18 l1 u1) (o24_19 l1 u1)) k_X5_atom q_824 q_17 q_822 kSC_77 rfl rfl rfl hl.1 rfl rfl (Nat.le_of_ble_eq_true rfl) dX5_term_29 ⟨Nat.le_of_ble_eq_true rfl, Nat.le_of_ble_eq_true rfl⟩ ⟨Nat.le_of_ble_eq_true rfl, Nat.le_of_ble_eq_true rfl⟩) (fun H locs ws_30 h u_31 p_32 => ?_)
          have e_33 := p_32
          replace HE : FT = g11c_X5_term_6 R7 (xso SC ad ws_30) x2_7.toInt := HE.trans (by rw [e_33, (o24_20 l1 u1)]; rfl)
          refine lv_aload_n C0.1 C0.2.1 dX5_term_32 rfl (lv_at hl 1 rfl) ?_
          refine tg_X5_law C0 h kSC_77 q_380 dX5_term_33 (fun i_34 hi_34 ei_34 => ?_)
          refine y_c3 (n := 2002) C0 (by decide) dX5_term_36 (fun v_35 e_36 => ?_)
          refine y_cv h (y_rV (As := [.int v_35]) (rest := []) C0 hZ h (c_X4_add l G Z ad _ h.2 i_34 hi_34 v_35) k_X4_add q_827 q_828 q_826 hi_34 rfl rfl rfl hl.1 rfl rfl (Nat.le_of_ble_eq_true rfl) dX5_term_39 ⟨Nat.le_of_ble_eq_true rfl, Nat.le_of_ble_eq_true rfl⟩ ⟨Nat.le_of_ble_eq_true rfl, Nat.le_of_ble_eq_true rfl⟩) (fun H locs ws_37 h u_38 p_39 => ?_)
          have e_40 := p_39
          replace HE : FT = g12c_X5_term_6 R7 (xso SC ad ws_37) x2_7.toInt := HE.trans (by rw [e_40, e_36, ei_34]; rfl)
          refine y_inc (kp := 0) (n := 1) (fun v_41 => [(2, .int v_41), (0, .ref (ad 77)), (1, .int a1)]) C0 hl rfl (by decide) (by decide) (fun _ => rfl) (o24_29 b_14 b_15 hn_13 e_17 c_18 (le_min x2_7) (le_max x2_7) (le_min v_16) (le_max v_16)) (o24_30 b_14 b_15 hn_13 e_17 c_18 (le_min x2_7) (le_max x2_7) (le_min v_16) (le_max v_16)) dX5_term_42 (fun v_41 ls e_42 hl => ?_)
          refine lv_goto (tgt := 7) C0.1 C0.2.1 dX5_term_45 (by decide) ?_
          exact ih_11 v_41 _ _ _ _ (o24_31 b_14 b_15 hn_13 e_17 c_18 e_42) (o24_32 b_14 b_15 hn_13 e_17 c_18 e_42) (o24_33 b_14 b_15 hn_13 e_17 c_18 e_42) (((show FT = R7 (xso SC ad ws_37) v_41.toInt from HE.trans (by rw [e_42]; rfl)).trans (by rw [hR7]))) h (Fr.tr (Fr.tr (Fr.tr hF_9 (Fr.mono u_27 (by decide))) u_31) (Fr.mono u_38 (by decide))) (lv_sub hl [0, 1, 2] rfl)
  exact lp_10 ((900 - v_5.toInt + 1).toNat) v_5 _ _ _ _ (o24_34 e_6) (o24_35 e_6) (o24_36 e_6) ((show FT = L2_X5_term_6 (Int.toNat (900 - v_5.toInt + 1)) (xso SC ad ws_1) v_5.toInt from HE.trans (by rw [e_6]; rfl))) h Fr.rf (lv_sub hl [0, 1, 2] rfl)
noncomputable def g5_X5_sum_6 (s : XS) : XR := (s, 0)
noncomputable def g12c_X5_sum_6 (R7 : XS → Int → XR) (s : XS) (x2_7 : Int) : XR := R7 s ((x2_7 + 1))
noncomputable def g11c_X5_sum_6 (R7 : XS → Int → XR) (s : XS) (x2_7 : Int) : XR := g12c_X5_sum_6 R7 ((f_X4_add s (Int.toNat (s 3 77 10)) 2000).1) x2_7
noncomputable def g10c_X5_sum_6 (R7 : XS → Int → XR) (s : XS) (x2_7 : Int) : XR := g11c_X5_sum_6 R7 ((f_X5_term_6 s 6).1) x2_7
noncomputable def g8_X5_sum_6 (R7 : XS → Int → XR) (s : XS) (x2_7 : Int) : XR := g10c_X5_sum_6 R7 ((f_X5_advance s).1) x2_7
noncomputable def g14_X5_sum_6 (s : XS) : XR := (s, 0)
noncomputable def g18c_X5_sum_6 (R7 : XS → Int → XR) (s : XS) (x2_7 : Int) : XR := R7 s ((x2_7 + 1))
noncomputable def g17c_X5_sum_6 (R7 : XS → Int → XR) (s : XS) (x2_7 : Int) : XR := g18c_X5_sum_6 R7 ((f_X4_add s (Int.toNat (s 3 77 10)) 2001).1) x2_7
noncomputable def g16c_X5_sum_6 (R7 : XS → Int → XR) (s : XS) (x2_7 : Int) : XR := g17c_X5_sum_6 R7 ((f_X5_term_6 s 6).1) x2_7
noncomputable def g15_X5_sum_6 (R7 : XS → Int → XR) (s : XS) (x2_7 : Int) : XR := g16c_X5_sum_6 R7 ((f_X5_advance s).1) x2_7
noncomputable def g13b_X5_sum_6 (R7 : XS → Int → XR) (s : XS) (v_51 : Int) (x2_7 : Int) : XR := if v_51 = 45 then g15_X5_sum_6 R7 s x2_7 else g14_X5_sum_6 s
noncomputable def g9_X5_sum_6 (R7 : XS → Int → XR) (s : XS) (x2_7 : Int) : XR := g13b_X5_sum_6 R7 s ((s 0 77 4)) x2_7
noncomputable def g7b_X5_sum_6 (R7 : XS → Int → XR) (s : XS) (v_19 : Int) (x2_7 : Int) : XR := if v_19 = 43 then g8_X5_sum_6 R7 s x2_7 else g9_X5_sum_6 R7 s x2_7
noncomputable def g6_X5_sum_6 (R7 : XS → Int → XR) (s : XS) (x2_7 : Int) : XR := g7b_X5_sum_6 R7 s ((s 0 77 4)) x2_7
noncomputable def g4b_X5_sum_6 (R7 : XS → Int → XR) (s : XS) (x2_7 : Int) : XR := if x2_7 < 900 then g6_X5_sum_6 R7 s x2_7 else g5_X5_sum_6 s
noncomputable def g3l_X5_sum_6 (R7 : XS → Int → XR) (s : XS) (x2_7 : Int) : XR := g4b_X5_sum_6 R7 s x2_7
noncomputable def L2_X5_sum_6 (n : Nat) : XS → Int → XR := Nat.rec (motive := fun _ => XS → Int → XR) (fun s _ => (s, 0)) (fun _ R7 => g3l_X5_sum_6 R7) n
noncomputable def g1c_X5_sum_6 (s : XS) : XR := L2_X5_sum_6 (Int.toNat (900 - 0 + 1)) s 0
noncomputable def f_X5_sum_6 (s : XS) (a1 : Int) : XR := g1c_X5_sum_6 ((f_X5_term_6 s a1).1)
set_option maxHeartbeats 4000000 in
set_option maxRecDepth 100000 in
theorem c_X5_sum_6 (l : Launch) (G : GG) (Z : RZ) (ad : Nat → Nat) (ws0 : va_W) (hT : Ty G SC ad ws0) (a1 : Int32) (l1 : 6 ≤ a1.toInt) (u1 : a1.toInt ≤ 6) : Mq l yX5_sum cX5_sum 4 none 8 G Z [.ref (ad 77), .int a1] ws0 (PV G SC ad [2, 3, 16] ws0 (fun u => (xso SC ad u = (f_X5_sum_6 (xso SC ad ws0) a1.toInt).1))) := by
  refine Mq.start (by decide) (Nat.le_of_ble_eq_true rfl) ?_
  intro p e s m below meth c A ls C0 hZ h hl
  have hl : lv_has ls 4 [(0, .ref (ad 77)), (1, .int a1)] := hl
  have h : Wt G SC ad A s s.heap [] ws0 := ⟨h, hT⟩
  obtain ⟨args, hargs⟩ : ∃ z, z = ([.ref (ad 77), .int a1] : List Value).toArray := ⟨_, rfl⟩
  rw [← hargs] at C0 ⊢
  have C0 : Cx p s m args meth c RX5 cX5_sum 4 none := C0
  obtain ⟨Q, hQ⟩ : ∃ z, z = MQ below ((PV G SC ad [2, 3, 16] ws0 (fun u => (xso SC ad u = (f_X5_sum_6 (xso SC ad ws0) a1.toInt).1))) A) args s 0 0 A := ⟨_, rfl⟩
  rw [← hQ]
  obtain ⟨FT, hFT⟩ : ∃ z, z = f_X5_sum_6 (xso SC ad ws0) a1.toInt := ⟨_, rfl⟩
  have HE : FT = f_X5_sum_6 (xso SC ad ws0) a1.toInt := hFT
  refine lv_aload_n C0.1 C0.2.1 dX5_sum_0 rfl (lv_at hl 0 rfl) ?_
  refine lv_iload_n C0.1 C0.2.1 dX5_sum_1 rfl (lv_at hl 1 rfl) ?_
  refine y_cv h (y_rV (As := [.int a1]) (rest := []) C0 hZ h (c_X5_term_6 l G Z ad _ h.2 a1 (o24_18 l1 u1) (o24_19 l1 u1)) k_X5_term q_820 q_16 q_818 kSC_77 rfl rfl rfl hl.1 rfl rfl (Nat.le_of_ble_eq_true rfl) dX5_sum_2 ⟨Nat.le_of_ble_eq_true rfl, Nat.le_of_ble_eq_true rfl⟩ ⟨Nat.le_of_ble_eq_true rfl, Nat.le_of_ble_eq_true rfl⟩) (fun H locs ws_1 h u_2 p_3 => ?_)
  have e_4 := p_3
  replace HE : FT = g1c_X5_sum_6 (xso SC ad ws_1) := HE.trans (by rw [e_4]; rfl)
  refine y_c1 (n := 0) C0 (by decide) dX5_sum_5 (fun v_5 e_6 => ?_)
  refine lv_istore_n (lv' := [(2, .int v_5), (0, .ref (ad 77)), (1, .int a1)]) C0.1 C0.2.1 dX5_sum_6 rfl hl (by decide) rfl (fun ls hl => ?_)
  have lp_10 : ∀ (n_12 : Nat) (x2_7 : Int32) (H : Heap) (locs : List Loc) (ls : Array Slot) (ws_8 : va_W), 900 - x2_7.toInt < (n_12 : Int) → 0 ≤ x2_7.toInt → x2_7.toInt ≤ 900 → (FT = L2_X5_sum_6 n_12 (xso SC ad ws_8) x2_7.toInt) → Wt G SC ad A s H locs ws_8 → Fr SC [2, 3, 16] ws_1 ws_8 → lv_has ls 4 [(2, .int x2_7), (0, .ref (ad 77)), (1, .int a1)] → W p l e (rmd 8 0 0) s m args below meth c H locs 0 0 Q (F0 m 7 ls []) := by
    intro n_12
    induction n_12 with
    | zero => intro x2_7 H locs ls ws_8 hn_13 b_14 b_15 HE h hF_9 hl; exact ((o24_22 b_14 b_15 hn_13)).elim
    | succ n_12 ih_11 =>
      intro x2_7 H locs ls ws_8 hn_13 b_14 b_15 HE h hF_9 hl
      obtain ⟨R7, hR7⟩ : ∃ z, z = L2_X5_sum_6 n_12 := ⟨_, rfl⟩
      replace HE : FT = g3l_X5_sum_6 R7 (xso SC ad ws_8) x2_7.toInt := HE.trans (by rw [hR7]; rfl)
      refine lv_iload_n C0.1 C0.2.1 dX5_sum_7 rfl (lv_at hl 0 rfl) ?_
      refine y_c3 (n := 900) C0 (by decide) dX5_sum_8 (fun v_16 e_17 => ?_)
      replace HE : FT = g4b_X5_sum_6 R7 (xso SC ad ws_8) x2_7.toInt := HE.trans rfl
      refine y_icmp_ge (tgt := 74) C0 dX5_sum_11 (by decide) (fun c_18 => ?_) (fun c_18 => ?_)
      · -- 11
        replace HE : FT = g5_X5_sum_6 (xso SC ad ws_8) := HE.trans (if_neg (o24_24 b_14 b_15 hn_13 e_17 c_18))
        replace HE : FT = ((xso SC ad ws_8), 0) := HE.trans rfl
        rw [hQ]
        exact y_vret C0 h (Fr.tr u_2 hF_9) (congrArg Prod.fst (HE.symm.trans hFT)) dX5_sum_74
      · -- 11
        replace HE : FT = g6_X5_sum_6 R7 (xso SC ad ws_8) x2_7.toInt := HE.trans (if_pos (o24_25 b_14 b_15 hn_13 e_17 c_18))
        refine lv_aload_n C0.1 C0.2.1 dX5_sum_14 rfl (lv_at hl 1 rfl) ?_
        refine tg_X5_kind C0 h kSC_77 q_374 dX5_sum_15 (fun v_19 e_20 e_21 e_22 => ?_)
        refine y_c2 (n := 43) C0 (by decide) dX5_sum_18 (fun v_23 e_24 => ?_)
        replace HE : FT = g7b_X5_sum_6 R7 (xso SC ad ws_8) v_19.toInt x2_7.toInt := HE.trans (by rw [(xg0 e_20 : v_19.toInt = (xso SC ad ws_8) 0 77 4)]; rfl)
        refine y_icmp_eq (tgt := 32) C0 dX5_sum_20 (by decide) (fun c_25 => ?_) (fun c_25 => ?_)
        · -- 20
          replace HE : FT = g8_X5_sum_6 R7 (xso SC ad ws_8) x2_7.toInt := HE.trans (if_pos (o24_38 e_24 c_25))
          refine lv_aload_n C0.1 C0.2.1 dX5_sum_32 rfl (lv_at hl 1 rfl) ?_
          refine tg_X5_kind C0 h kSC_77 q_374 dX5_sum_33 (fun v_26 e_27 e_28 e_29 => ?_)
          have qh_30 : v_26.toInt = v_19.toInt := congrArg Int32.toInt (e_27.symm.trans (Eq.trans rfl e_20))
          refine y_c2 (n := 43) C0 (by decide) dX5_sum_36 (fun v_31 e_32 => ?_)
          refine y_icmp_ne (tgt := 47) C0 dX5_sum_38 (by decide) (fun c_33 => ((o24_40 e_24 c_25 qh_30 e_32 c_33)).elim) (fun c_33 => ?_)
          refine y_c3 (n := 2000) C0 (by decide) dX5_sum_41 (fun v_34 e_35 => ?_)
          refine lv_goto (tgt := 50) C0.1 C0.2.1 dX5_sum_44 (by decide) ?_
          refine lv_istore_n (lv' := [(3, .int v_34), (2, .int x2_7), (0, .ref (ad 77)), (1, .int a1)]) C0.1 C0.2.1 dX5_sum_50 rfl hl (by decide) rfl (fun ls hl => ?_)
          refine lv_aload_n C0.1 C0.2.1 dX5_sum_51 rfl (lv_at hl 2 rfl) ?_
          refine y_cv h (y_rV (As := []) (rest := []) C0 hZ h (c_X5_advance l G Z ad _ h.2) k_X5_advance q_616 q_0 q_614 kSC_77 rfl rfl rfl hl.1 rfl rfl (Nat.le_of_ble_eq_true rfl) dX5_sum_52 ⟨Nat.le_of_ble_eq_true rfl, Nat.le_of_ble_eq_true rfl⟩ ⟨Nat.le_of_ble_eq_true rfl, Nat.le_of_ble_eq_true rfl⟩) (fun H locs ws_36 h u_37 p_38 => ?_)
          have e_39 := p_38
          replace HE : FT = g10c_X5_sum_6 R7 (xso SC ad ws_36) x2_7.toInt := HE.trans (by rw [e_39]; rfl)
          refine lv_aload_n C0.1 C0.2.1 dX5_sum_55 rfl (lv_at hl 2 rfl) ?_
          refine lv_iload_n C0.1 C0.2.1 dX5_sum_56 rfl (lv_at hl 3 rfl) ?_
          refine y_cv h (y_rV (As := [.int a1]) (rest := []) C0 hZ h (c_X5_term_6 l G Z ad _ h.2 a1 (o24_18 l1 u1) (o24_19 l1 u1)) k_X5_term q_820 q_16 q_818 kSC_77 rfl rfl rfl hl.1 rfl rfl (Nat.le_of_ble_eq_true rfl) dX5_sum_57 ⟨Nat.le_of_ble_eq_true rfl, Nat.le_of_ble_eq_true rfl⟩ ⟨Nat.le_of_ble_eq_true rfl, Nat.le_of_ble_eq_true rfl⟩) (fun H locs ws_40 h u_41 p_42 => ?_)
          have e_43 := p_42
          replace HE : FT = g11c_X5_sum_6 R7 (xso SC ad ws_40) x2_7.toInt := HE.trans (by rw [e_43, (o24_20 l1 u1)]; rfl)
          refine lv_aload_n C0.1 C0.2.1 dX5_sum_60 rfl (lv_at hl 2 rfl) ?_
          refine tg_X5_law C0 h kSC_77 q_380 dX5_sum_61 (fun i_44 hi_44 ei_44 => ?_)
          refine lv_iload_n C0.1 C0.2.1 dX5_sum_64 rfl (lv_at hl 0 rfl) ?_
          refine y_cv h (y_rV (As := [.int v_34]) (rest := []) C0 hZ h (c_X4_add l G Z ad _ h.2 i_44 hi_44 v_34) k_X4_add q_827 q_828 q_826 hi_44 rfl rfl rfl hl.1 rfl rfl (Nat.le_of_ble_eq_true rfl) dX5_sum_65 ⟨Nat.le_of_ble_eq_true rfl, Nat.le_of_ble_eq_true rfl⟩ ⟨Nat.le_of_ble_eq_true rfl, Nat.le_of_ble_eq_true rfl⟩) (fun H locs ws_45 h u_46 p_47 => ?_)
          have e_48 := p_47
          replace HE : FT = g12c_X5_sum_6 R7 (xso SC ad ws_45) x2_7.toInt := HE.trans (by rw [e_48, (o24_41 e_35), ei_44]; rfl)
          refine y_inc (kp := 1) (n := 1) (fun v_49 => [(2, .int v_49), (3, .int v_34), (0, .ref (ad 77)), (1, .int a1)]) C0 hl rfl (by decide) (by decide) (fun _ => rfl) (o24_29 b_14 b_15 hn_13 e_17 c_18 (le_min x2_7) (le_max x2_7) (le_min v_16) (le_max v_16)) (o24_30 b_14 b_15 hn_13 e_17 c_18 (le_min x2_7) (le_max x2_7) (le_min v_16) (le_max v_16)) dX5_sum_68 (fun v_49 ls e_50 hl => ?_)
          refine lv_goto (tgt := 7) C0.1 C0.2.1 dX5_sum_71 (by decide) ?_
          exact ih_11 v_49 _ _ _ _ (o24_31 b_14 b_15 hn_13 e_17 c_18 e_50) (o24_32 b_14 b_15 hn_13 e_17 c_18 e_50) (o24_33 b_14 b_15 hn_13 e_17 c_18 e_50) (((show FT = R7 (xso SC ad ws_45) v_49.toInt from HE.trans (by rw [e_50]; rfl)).trans (by rw [hR7]))) h (Fr.tr (Fr.tr (Fr.tr hF_9 (Fr.mono u_37 (by decide))) u_41) (Fr.mono u_46 (by decide))) (lv_sub hl [0, 2, 3] rfl)
        · -- 20
          replace HE : FT = g9_X5_sum_6 R7 (xso SC ad ws_8) x2_7.toInt := HE.trans (if_neg (o24_39 e_24 c_25))
          refine lv_aload_n C0.1 C0.2.1 dX5_sum_23 rfl (lv_at hl 1 rfl) ?_
          refine tg_X5_kind C0 h kSC_77 q_374 dX5_sum_24 (fun v_51 e_52 e_53 e_54 => ?_)
          have qh_55 : v_51.toInt = v_19.toInt := congrArg Int32.toInt (e_52.symm.trans (Eq.trans rfl e_20))
          refine y_c2 (n := 45) C0 (by decide) dX5_sum_27 (fun v_56 e_57 => ?_)
          replace HE : FT = g13b_X5_sum_6 R7 (xso SC ad ws_8) v_51.toInt x2_7.toInt := HE.trans (by rw [(xg0 e_52 : v_51.toInt = (xso SC ad ws_8) 0 77 4)]; rfl)
          refine y_icmp_ne (tgt := 74) C0 dX5_sum_29 (by decide) (fun c_58 => ?_) (fun c_58 => ?_)
          · -- 29
            replace HE : FT = g14_X5_sum_6 (xso SC ad ws_8) := HE.trans (if_neg (o24_43 e_24 c_25 qh_55 e_57 c_58))
            replace HE : FT = ((xso SC ad ws_8), 0) := HE.trans rfl
            rw [hQ]
            exact y_vret C0 h (Fr.tr u_2 hF_9) (congrArg Prod.fst (HE.symm.trans hFT)) dX5_sum_74
          · -- 29
            replace HE : FT = g15_X5_sum_6 R7 (xso SC ad ws_8) x2_7.toInt := HE.trans (if_pos (o24_44 e_24 c_25 qh_55 e_57 c_58))
            refine lv_aload_n C0.1 C0.2.1 dX5_sum_32 rfl (lv_at hl 1 rfl) ?_
            refine tg_X5_kind C0 h kSC_77 q_374 dX5_sum_33 (fun v_59 e_60 e_61 e_62 => ?_)
            have qh_63 : v_59.toInt = v_19.toInt := congrArg Int32.toInt (e_60.symm.trans (Eq.trans rfl e_20))
            refine y_c2 (n := 43) C0 (by decide) dX5_sum_36 (fun v_64 e_65 => ?_)
            refine y_icmp_ne (tgt := 47) C0 dX5_sum_38 (by decide) (fun c_66 => ?_) (fun c_66 => ((o24_45 e_24 c_25 qh_55 e_57 c_58 qh_63 e_65 c_66)).elim)
            refine y_c3 (n := 2001) C0 (by decide) dX5_sum_47 (fun v_67 e_68 => ?_)
            refine lv_istore_n (lv' := [(3, .int v_67), (2, .int x2_7), (0, .ref (ad 77)), (1, .int a1)]) C0.1 C0.2.1 dX5_sum_50 rfl hl (by decide) rfl (fun ls hl => ?_)
            refine lv_aload_n C0.1 C0.2.1 dX5_sum_51 rfl (lv_at hl 2 rfl) ?_
            refine y_cv h (y_rV (As := []) (rest := []) C0 hZ h (c_X5_advance l G Z ad _ h.2) k_X5_advance q_616 q_0 q_614 kSC_77 rfl rfl rfl hl.1 rfl rfl (Nat.le_of_ble_eq_true rfl) dX5_sum_52 ⟨Nat.le_of_ble_eq_true rfl, Nat.le_of_ble_eq_true rfl⟩ ⟨Nat.le_of_ble_eq_true rfl, Nat.le_of_ble_eq_true rfl⟩) (fun H locs ws_69 h u_70 p_71 => ?_)
            have e_72 := p_71
            replace HE : FT = g16c_X5_sum_6 R7 (xso SC ad ws_69) x2_7.toInt := HE.trans (by rw [e_72]; rfl)
            refine lv_aload_n C0.1 C0.2.1 dX5_sum_55 rfl (lv_at hl 2 rfl) ?_
            refine lv_iload_n C0.1 C0.2.1 dX5_sum_56 rfl (lv_at hl 3 rfl) ?_
            refine y_cv h (y_rV (As := [.int a1]) (rest := []) C0 hZ h (c_X5_term_6 l G Z ad _ h.2 a1 (o24_18 l1 u1) (o24_19 l1 u1)) k_X5_term q_820 q_16 q_818 kSC_77 rfl rfl rfl hl.1 rfl rfl (Nat.le_of_ble_eq_true rfl) dX5_sum_57 ⟨Nat.le_of_ble_eq_true rfl, Nat.le_of_ble_eq_true rfl⟩ ⟨Nat.le_of_ble_eq_true rfl, Nat.le_of_ble_eq_true rfl⟩) (fun H locs ws_73 h u_74 p_75 => ?_)
            have e_76 := p_75
            replace HE : FT = g17c_X5_sum_6 R7 (xso SC ad ws_73) x2_7.toInt := HE.trans (by rw [e_76, (o24_20 l1 u1)]; rfl)
            refine lv_aload_n C0.1 C0.2.1 dX5_sum_60 rfl (lv_at hl 2 rfl) ?_
            refine tg_X5_law C0 h kSC_77 q_380 dX5_sum_61 (fun i_77 hi_77 ei_77 => ?_)
            refine lv_iload_n C0.1 C0.2.1 dX5_sum_64 rfl (lv_at hl 0 rfl) ?_
            refine y_cv h (y_rV (As := [.int v_67]) (rest := []) C0 hZ h (c_X4_add l G Z ad _ h.2 i_77 hi_77 v_67) k_X4_add q_827 q_828 q_826 hi_77 rfl rfl rfl hl.1 rfl rfl (Nat.le_of_ble_eq_true rfl) dX5_sum_65 ⟨Nat.le_of_ble_eq_true rfl, Nat.le_of_ble_eq_true rfl⟩ ⟨Nat.le_of_ble_eq_true rfl, Nat.le_of_ble_eq_true rfl⟩) (fun H locs ws_78 h u_79 p_80 => ?_)
            have e_81 := p_80
            replace HE : FT = g18c_X5_sum_6 R7 (xso SC ad ws_78) x2_7.toInt := HE.trans (by rw [e_81, (o24_46 e_68), ei_77]; rfl)
            refine y_inc (kp := 1) (n := 1) (fun v_82 => [(2, .int v_82), (3, .int v_67), (0, .ref (ad 77)), (1, .int a1)]) C0 hl rfl (by decide) (by decide) (fun _ => rfl) (o24_29 b_14 b_15 hn_13 e_17 c_18 (le_min x2_7) (le_max x2_7) (le_min v_16) (le_max v_16)) (o24_30 b_14 b_15 hn_13 e_17 c_18 (le_min x2_7) (le_max x2_7) (le_min v_16) (le_max v_16)) dX5_sum_68 (fun v_82 ls e_83 hl => ?_)
            refine lv_goto (tgt := 7) C0.1 C0.2.1 dX5_sum_71 (by decide) ?_
            exact ih_11 v_82 _ _ _ _ (o24_31 b_14 b_15 hn_13 e_17 c_18 e_83) (o24_32 b_14 b_15 hn_13 e_17 c_18 e_83) (o24_33 b_14 b_15 hn_13 e_17 c_18 e_83) (((show FT = R7 (xso SC ad ws_78) v_82.toInt from HE.trans (by rw [e_83]; rfl)).trans (by rw [hR7]))) h (Fr.tr (Fr.tr (Fr.tr hF_9 (Fr.mono u_70 (by decide))) u_74) (Fr.mono u_79 (by decide))) (lv_sub hl [0, 2, 3] rfl)
  exact lp_10 ((900 - v_5.toInt + 1).toNat) v_5 _ _ _ _ (o24_34 e_6) (o24_35 e_6) (o24_36 e_6) ((show FT = L2_X5_sum_6 (Int.toNat (900 - v_5.toInt + 1)) (xso SC ad ws_1) v_5.toInt from HE.trans (by rw [e_6]; rfl))) h Fr.rf (lv_sub hl [0, 1, 2] rfl)
noncomputable def g18c_X5_unit_6 (s : XS) : XR := (s, 0)
noncomputable def g16_X5_unit_6 (s : XS) : XR := g18c_X5_unit_6 ((f_X5_fail s 2).1)
noncomputable def g21c_X5_unit_6 (s : XS) : XR := (s, 0)
noncomputable def g20c_X5_unit_6 (s : XS) : XR := g21c_X5_unit_6 ((f_X4_add s (Int.toNat (s 3 77 10)) 2005).1)
noncomputable def g19c_X5_unit_6 (s : XS) : XR := g20c_X5_unit_6 ((f_X5_sum_6 s 6).1)
noncomputable def g17_X5_unit_6 (s : XS) : XR := g19c_X5_unit_6 ((f_X5_advance s).1)
noncomputable def g15b_X5_unit_6 (s : XS) (v_36 : Int) : XR := if v_36 = 62 then g17_X5_unit_6 s else g16_X5_unit_6 s
noncomputable def g13_X5_unit_6 (s : XS) : XR := g15b_X5_unit_6 s ((s 0 77 4))
noncomputable def g24c_X5_unit_6 (s : XS) : XR := (s, 0)
noncomputable def g23c_X5_unit_6 (s : XS) : XR := g24c_X5_unit_6 ((f_X4_add s (Int.toNat (s 3 77 10)) 2004).1)
noncomputable def g22c_X5_unit_6 (s : XS) : XR := g23c_X5_unit_6 ((f_X5_sum_6 s 6).1)
noncomputable def g14_X5_unit_6 (s : XS) : XR := g22c_X5_unit_6 ((f_X5_advance s).1)
noncomputable def g12b_X5_unit_6 (s : XS) (v_28 : Int) : XR := if v_28 = 60 then g14_X5_unit_6 s else g13_X5_unit_6 s
noncomputable def g10_X5_unit_6 (s : XS) : XR := g12b_X5_unit_6 s ((s 0 77 4))
noncomputable def g27c_X5_unit_6 (s : XS) : XR := (s, 0)
noncomputable def g26c_X5_unit_6 (s : XS) : XR := g27c_X5_unit_6 ((f_X4_add s (Int.toNat (s 3 77 10)) 2003).1)
noncomputable def g25c_X5_unit_6 (s : XS) : XR := g26c_X5_unit_6 ((f_X5_sum_6 s 6).1)
noncomputable def g11_X5_unit_6 (s : XS) : XR := g25c_X5_unit_6 ((f_X5_advance s).1)
noncomputable def g9b_X5_unit_6 (s : XS) (v_21 : Int) : XR := if v_21 = 61 then g11_X5_unit_6 s else g10_X5_unit_6 s
noncomputable def g8c_X5_unit_6 (s : XS) : XR := g9b_X5_unit_6 s ((s 0 77 4))
noncomputable def g6_X5_unit_6 (s : XS) : XR := g8c_X5_unit_6 ((f_X5_sum_6 s 6).1)
noncomputable def g28c_X5_unit_6 (s : XS) : XR := (s, 0)
noncomputable def g7_X5_unit_6 (s : XS) : XR := g28c_X5_unit_6 ((f_X5_tooDeep_6 s 6).1)
noncomputable def g5b_X5_unit_6 (s : XS) (v_10 : Int) : XR := if v_10 = 91 then g7_X5_unit_6 s else g6_X5_unit_6 s
noncomputable def g3_X5_unit_6 (s : XS) : XR := g5b_X5_unit_6 s ((s 0 77 4))
noncomputable def g29c_X5_unit_6 (s : XS) : XR := (s, 0)
noncomputable def g4_X5_unit_6 (s : XS) : XR := g29c_X5_unit_6 ((f_X5_tooDeep_6 s 6).1)
noncomputable def g2b_X5_unit_6 (s : XS) (r_4 : Int) : XR := if r_4 = 0 then g3_X5_unit_6 s else g4_X5_unit_6 s
noncomputable def g1c_X5_unit_6 (s : XS) (r_4 : Int) : XR := g2b_X5_unit_6 s r_4
noncomputable def f_X5_unit_6 (s : XS) (a1 : Int) : XR := g1c_X5_unit_6 ((f_X5_isWord s 19).1) (((f_X5_isWord s 19).2))
set_option maxHeartbeats 4000000 in
set_option maxRecDepth 100000 in
theorem c_X5_unit_6 (l : Launch) (G : GG) (Z : RZ) (ad : Nat → Nat) (ws0 : va_W) (hT : Ty G SC ad ws0) (a1 : Int32) (l1 : 6 ≤ a1.toInt) (u1 : a1.toInt ≤ 6) : Mq l yX5_unit cX5_unit 3 none 9 G Z [.ref (ad 77), .int a1] ws0 (PV G SC ad [2, 3, 16] ws0 (fun u => (xso SC ad u = (f_X5_unit_6 (xso SC ad ws0) a1.toInt).1))) := by
  refine Mq.start (by decide) (Nat.le_of_ble_eq_true rfl) ?_
  intro p e s m below meth c A ls C0 hZ h hl
  have hl : lv_has ls 3 [(0, .ref (ad 77)), (1, .int a1)] := hl
  have h : Wt G SC ad A s s.heap [] ws0 := ⟨h, hT⟩
  obtain ⟨args, hargs⟩ : ∃ z, z = ([.ref (ad 77), .int a1] : List Value).toArray := ⟨_, rfl⟩
  rw [← hargs] at C0 ⊢
  have C0 : Cx p s m args meth c RX5 cX5_unit 3 none := C0
  obtain ⟨Q, hQ⟩ : ∃ z, z = MQ below ((PV G SC ad [2, 3, 16] ws0 (fun u => (xso SC ad u = (f_X5_unit_6 (xso SC ad ws0) a1.toInt).1))) A) args s 0 0 A := ⟨_, rfl⟩
  rw [← hQ]
  obtain ⟨FT, hFT⟩ : ∃ z, z = f_X5_unit_6 (xso SC ad ws0) a1.toInt := ⟨_, rfl⟩
  have HE : FT = f_X5_unit_6 (xso SC ad ws0) a1.toInt := hFT
  refine lv_aload_n C0.1 C0.2.1 dX5_unit_0 rfl (lv_at hl 0 rfl) ?_
  refine va_ldcS C0.1 C0.2.1 C0.2.2.2.1 (sr_19 hZ) dX5_unit_1 ?_
  refine y_ci h (y_rV (As := [.ref (Z.2.1 19)]) (rest := []) C0 hZ h (c_X5_isWord l G Z ad _ h.2 19 (by decide)) k_X5_isWord q_724 q_5 q_722 kSC_77 rfl rfl rfl hl.1 rfl rfl (Nat.le_of_ble_eq_true rfl) dX5_unit_3 ⟨Nat.le_of_ble_eq_true rfl, Nat.le_of_ble_eq_true rfl⟩ ⟨Nat.le_of_ble_eq_true rfl, Nat.le_of_ble_eq_true rfl⟩) (fun r_4 H locs ws_1 h u_2 p_3 => ?_)
  obtain ⟨e_5, e_6, e_7, e_8⟩ := p_3
  replace HE : FT = g1c_X5_unit_6 (xso SC ad ws_1) r_4.toInt := HE.trans (by rw [e_5, e_6]; rfl)
  replace HE : FT = g2b_X5_unit_6 (xso SC ad ws_1) r_4.toInt := HE.trans rfl
  refine y_if_eq (tgt := 49) C0 dX5_unit_6 (by decide) (fun c_9 => ?_) (fun c_9 => ?_)
  · -- 6
    replace HE : FT = g3_X5_unit_6 (xso SC ad ws_1) := HE.trans (if_pos c_9)
    refine lv_aload_n C0.1 C0.2.1 dX5_unit_49 rfl (lv_at hl 0 rfl) ?_
    refine tg_X5_kind C0 h kSC_77 q_374 dX5_unit_50 (fun v_10 e_11 e_12 e_13 => ?_)
    refine y_c2 (n := 91) C0 (by decide) dX5_unit_53 (fun v_14 e_15 => ?_)
    replace HE : FT = g5b_X5_unit_6 (xso SC ad ws_1) v_10.toInt := HE.trans (by rw [(xg0 e_11 : v_10.toInt = (xso SC ad ws_1) 0 77 4)]; rfl)
    refine y_icmp_ne (tgt := 86) C0 dX5_unit_55 (by decide) (fun c_16 => ?_) (fun c_16 => ?_)
    · -- 55
      replace HE : FT = g6_X5_unit_6 (xso SC ad ws_1) := HE.trans (if_neg (o24_48 e_15 c_16))
      refine lv_aload_n C0.1 C0.2.1 dX5_unit_86 rfl (lv_at hl 0 rfl) ?_
      refine lv_iload_n C0.1 C0.2.1 dX5_unit_87 rfl (lv_at hl 1 rfl) ?_
      refine y_cv h (y_rV (As := [.int a1]) (rest := []) C0 hZ h (c_X5_sum_6 l G Z ad _ h.2 a1 (o24_18 l1 u1) (o24_19 l1 u1)) k_X5_sum q_816 q_15 q_814 kSC_77 rfl rfl rfl hl.1 rfl rfl (Nat.le_of_ble_eq_true rfl) dX5_unit_88 ⟨Nat.le_of_ble_eq_true rfl, Nat.le_of_ble_eq_true rfl⟩ ⟨Nat.le_of_ble_eq_true rfl, Nat.le_of_ble_eq_true rfl⟩) (fun H locs ws_17 h u_18 p_19 => ?_)
      have e_20 := p_19
      replace HE : FT = g8c_X5_unit_6 (xso SC ad ws_17) := HE.trans (by rw [e_20, (o24_20 l1 u1)]; rfl)
      refine lv_aload_n C0.1 C0.2.1 dX5_unit_91 rfl (lv_at hl 0 rfl) ?_
      refine tg_X5_kind C0 h kSC_77 q_374 dX5_unit_92 (fun v_21 e_22 e_23 e_24 => ?_)
      refine y_c2 (n := 61) C0 (by decide) dX5_unit_95 (fun v_25 e_26 => ?_)
      replace HE : FT = g9b_X5_unit_6 (xso SC ad ws_17) v_21.toInt := HE.trans (by rw [(xg0 e_22 : v_21.toInt = (xso SC ad ws_17) 0 77 4)]; rfl)
      refine y_icmp_ne (tgt := 106) C0 dX5_unit_97 (by decide) (fun c_27 => ?_) (fun c_27 => ?_)
      · -- 97
        replace HE : FT = g10_X5_unit_6 (xso SC ad ws_17) := HE.trans (if_neg (o24_51 e_26 c_27))
        refine lv_aload_n C0.1 C0.2.1 dX5_unit_106 rfl (lv_at hl 0 rfl) ?_
        refine tg_X5_kind C0 h kSC_77 q_374 dX5_unit_107 (fun v_28 e_29 e_30 e_31 => ?_)
        have qh_32 : v_28.toInt = v_21.toInt := congrArg Int32.toInt (e_29.symm.trans (Eq.trans rfl e_22))
        refine y_c2 (n := 60) C0 (by decide) dX5_unit_110 (fun v_33 e_34 => ?_)
        replace HE : FT = g12b_X5_unit_6 (xso SC ad ws_17) v_28.toInt := HE.trans (by rw [(xg0 e_29 : v_28.toInt = (xso SC ad ws_17) 0 77 4)]; rfl)
        refine y_icmp_ne (tgt := 121) C0 dX5_unit_112 (by decide) (fun c_35 => ?_) (fun c_35 => ?_)
        · -- 112
          replace HE : FT = g13_X5_unit_6 (xso SC ad ws_17) := HE.trans (if_neg (o24_54 e_26 c_27 qh_32 e_34 c_35))
          refine lv_aload_n C0.1 C0.2.1 dX5_unit_121 rfl (lv_at hl 0 rfl) ?_
          refine tg_X5_kind C0 h kSC_77 q_374 dX5_unit_122 (fun v_36 e_37 e_38 e_39 => ?_)
          have qh_40 : v_36.toInt = v_21.toInt := congrArg Int32.toInt (e_37.symm.trans (Eq.trans rfl e_22))
          refine y_c2 (n := 62) C0 (by decide) dX5_unit_125 (fun v_41 e_42 => ?_)
          replace HE : FT = g15b_X5_unit_6 (xso SC ad ws_17) v_36.toInt := HE.trans (by rw [(xg0 e_37 : v_36.toInt = (xso SC ad ws_17) 0 77 4)]; rfl)
          refine y_icmp_ne (tgt := 136) C0 dX5_unit_127 (by decide) (fun c_43 => ?_) (fun c_43 => ?_)
          · -- 127
            replace HE : FT = g16_X5_unit_6 (xso SC ad ws_17) := HE.trans (if_neg (o24_57 e_26 c_27 qh_32 e_34 c_35 qh_40 e_42 c_43))
            refine y_c1 (n := (-1)) C0 (by decide) dX5_unit_136 (fun v_44 e_45 => ?_)
            refine lv_istore_n (lv' := [(2, .int v_44), (0, .ref (ad 77)), (1, .int a1)]) C0.1 C0.2.1 dX5_unit_137 rfl hl (by decide) rfl (fun ls hl => ?_)
            refine lv_iload_n C0.1 C0.2.1 dX5_unit_138 rfl (lv_at hl 0 rfl) ?_
            refine y_if_ge (tgt := 148) C0 dX5_unit_139 (by decide) (fun c_46 => ((o24_11 e_45 c_46)).elim) (fun c_46 => ?_)
            refine lv_aload_n C0.1 C0.2.1 dX5_unit_142 rfl (lv_at hl 1 rfl) ?_
            refine y_c1 (n := 2) C0 (by decide) dX5_unit_143 (fun v_47 e_48 => ?_)
            refine y_cv h (y_rV (As := [.int v_47]) (rest := []) C0 hZ h (c_X5_fail l G Z ad _ h.2 v_47) k_X5_fail q_628 q_3 q_626 kSC_77 rfl rfl rfl hl.1 rfl rfl (Nat.le_of_ble_eq_true rfl) dX5_unit_144 ⟨Nat.le_of_ble_eq_true rfl, Nat.le_of_ble_eq_true rfl⟩ ⟨Nat.le_of_ble_eq_true rfl, Nat.le_of_ble_eq_true rfl⟩) (fun H locs ws_49 h u_50 p_51 => ?_)
            have e_52 := p_51
            replace HE : FT = g18c_X5_unit_6 (xso SC ad ws_49) := HE.trans (by rw [e_52, e_48]; rfl)
            replace HE : FT = ((xso SC ad ws_49), 0) := HE.trans rfl
            rw [hQ]
            exact y_vret C0 h (Fr.tr (Fr.tr (Fr.mono u_2 (by decide)) u_18) (Fr.mono u_50 (by decide))) (congrArg Prod.fst (HE.symm.trans hFT)) dX5_unit_147
          · -- 127
            replace HE : FT = g17_X5_unit_6 (xso SC ad ws_17) := HE.trans (if_pos (o24_58 e_26 c_27 qh_32 e_34 c_35 qh_40 e_42 c_43))
            refine y_c3 (n := 2005) C0 (by decide) dX5_unit_130 (fun v_53 e_54 => ?_)
            refine lv_goto (tgt := 137) C0.1 C0.2.1 dX5_unit_133 (by decide) ?_
            refine lv_istore_n (lv' := [(2, .int v_53), (0, .ref (ad 77)), (1, .int a1)]) C0.1 C0.2.1 dX5_unit_137 rfl hl (by decide) rfl (fun ls hl => ?_)
            refine lv_iload_n C0.1 C0.2.1 dX5_unit_138 rfl (lv_at hl 0 rfl) ?_
            refine y_if_ge (tgt := 148) C0 dX5_unit_139 (by decide) (fun c_55 => ?_) (fun c_55 => ((o24_59 e_54 c_55)).elim)
            refine lv_aload_n C0.1 C0.2.1 dX5_unit_148 rfl (lv_at hl 1 rfl) ?_
            refine y_cv h (y_rV (As := []) (rest := []) C0 hZ h (c_X5_advance l G Z ad _ h.2) k_X5_advance q_616 q_0 q_614 kSC_77 rfl rfl rfl hl.1 rfl rfl (Nat.le_of_ble_eq_true rfl) dX5_unit_149 ⟨Nat.le_of_ble_eq_true rfl, Nat.le_of_ble_eq_true rfl⟩ ⟨Nat.le_of_ble_eq_true rfl, Nat.le_of_ble_eq_true rfl⟩) (fun H locs ws_56 h u_57 p_58 => ?_)
            have e_59 := p_58
            replace HE : FT = g19c_X5_unit_6 (xso SC ad ws_56) := HE.trans (by rw [e_59]; rfl)
            refine lv_aload_n C0.1 C0.2.1 dX5_unit_152 rfl (lv_at hl 1 rfl) ?_
            refine lv_iload_n C0.1 C0.2.1 dX5_unit_153 rfl (lv_at hl 2 rfl) ?_
            refine y_cv h (y_rV (As := [.int a1]) (rest := []) C0 hZ h (c_X5_sum_6 l G Z ad _ h.2 a1 (o24_18 l1 u1) (o24_19 l1 u1)) k_X5_sum q_816 q_15 q_814 kSC_77 rfl rfl rfl hl.1 rfl rfl (Nat.le_of_ble_eq_true rfl) dX5_unit_154 ⟨Nat.le_of_ble_eq_true rfl, Nat.le_of_ble_eq_true rfl⟩ ⟨Nat.le_of_ble_eq_true rfl, Nat.le_of_ble_eq_true rfl⟩) (fun H locs ws_60 h u_61 p_62 => ?_)
            have e_63 := p_62
            replace HE : FT = g20c_X5_unit_6 (xso SC ad ws_60) := HE.trans (by rw [e_63, (o24_20 l1 u1)]; rfl)
            refine lv_aload_n C0.1 C0.2.1 dX5_unit_157 rfl (lv_at hl 1 rfl) ?_
            refine tg_X5_law C0 h kSC_77 q_380 dX5_unit_158 (fun i_64 hi_64 ei_64 => ?_)
            refine lv_iload_n C0.1 C0.2.1 dX5_unit_161 rfl (lv_at hl 0 rfl) ?_
            refine y_cv h (y_rV (As := [.int v_53]) (rest := []) C0 hZ h (c_X4_add l G Z ad _ h.2 i_64 hi_64 v_53) k_X4_add q_827 q_828 q_826 hi_64 rfl rfl rfl hl.1 rfl rfl (Nat.le_of_ble_eq_true rfl) dX5_unit_162 ⟨Nat.le_of_ble_eq_true rfl, Nat.le_of_ble_eq_true rfl⟩ ⟨Nat.le_of_ble_eq_true rfl, Nat.le_of_ble_eq_true rfl⟩) (fun H locs ws_65 h u_66 p_67 => ?_)
            have e_68 := p_67
            replace HE : FT = g21c_X5_unit_6 (xso SC ad ws_65) := HE.trans (by rw [e_68, (o24_60 e_54 c_55), ei_64]; rfl)
            replace HE : FT = ((xso SC ad ws_65), 0) := HE.trans rfl
            rw [hQ]
            exact y_vret C0 h (Fr.tr (Fr.tr (Fr.tr (Fr.tr (Fr.mono u_2 (by decide)) u_18) (Fr.mono u_57 (by decide))) u_61) (Fr.mono u_66 (by decide))) (congrArg Prod.fst (HE.symm.trans hFT)) dX5_unit_165
        · -- 112
          replace HE : FT = g14_X5_unit_6 (xso SC ad ws_17) := HE.trans (if_pos (o24_55 e_26 c_27 qh_32 e_34 c_35))
          refine y_c3 (n := 2004) C0 (by decide) dX5_unit_115 (fun v_69 e_70 => ?_)
          refine lv_goto (tgt := 137) C0.1 C0.2.1 dX5_unit_118 (by decide) ?_
          refine lv_istore_n (lv' := [(2, .int v_69), (0, .ref (ad 77)), (1, .int a1)]) C0.1 C0.2.1 dX5_unit_137 rfl hl (by decide) rfl (fun ls hl => ?_)
          refine lv_iload_n C0.1 C0.2.1 dX5_unit_138 rfl (lv_at hl 0 rfl) ?_
          refine y_if_ge (tgt := 148) C0 dX5_unit_139 (by decide) (fun c_71 => ?_) (fun c_71 => ((o24_61 e_70 c_71)).elim)
          refine lv_aload_n C0.1 C0.2.1 dX5_unit_148 rfl (lv_at hl 1 rfl) ?_
          refine y_cv h (y_rV (As := []) (rest := []) C0 hZ h (c_X5_advance l G Z ad _ h.2) k_X5_advance q_616 q_0 q_614 kSC_77 rfl rfl rfl hl.1 rfl rfl (Nat.le_of_ble_eq_true rfl) dX5_unit_149 ⟨Nat.le_of_ble_eq_true rfl, Nat.le_of_ble_eq_true rfl⟩ ⟨Nat.le_of_ble_eq_true rfl, Nat.le_of_ble_eq_true rfl⟩) (fun H locs ws_72 h u_73 p_74 => ?_)
          have e_75 := p_74
          replace HE : FT = g22c_X5_unit_6 (xso SC ad ws_72) := HE.trans (by rw [e_75]; rfl)
          refine lv_aload_n C0.1 C0.2.1 dX5_unit_152 rfl (lv_at hl 1 rfl) ?_
          refine lv_iload_n C0.1 C0.2.1 dX5_unit_153 rfl (lv_at hl 2 rfl) ?_
          refine y_cv h (y_rV (As := [.int a1]) (rest := []) C0 hZ h (c_X5_sum_6 l G Z ad _ h.2 a1 (o24_18 l1 u1) (o24_19 l1 u1)) k_X5_sum q_816 q_15 q_814 kSC_77 rfl rfl rfl hl.1 rfl rfl (Nat.le_of_ble_eq_true rfl) dX5_unit_154 ⟨Nat.le_of_ble_eq_true rfl, Nat.le_of_ble_eq_true rfl⟩ ⟨Nat.le_of_ble_eq_true rfl, Nat.le_of_ble_eq_true rfl⟩) (fun H locs ws_76 h u_77 p_78 => ?_)
          have e_79 := p_78
          replace HE : FT = g23c_X5_unit_6 (xso SC ad ws_76) := HE.trans (by rw [e_79, (o24_20 l1 u1)]; rfl)
          refine lv_aload_n C0.1 C0.2.1 dX5_unit_157 rfl (lv_at hl 1 rfl) ?_
          refine tg_X5_law C0 h kSC_77 q_380 dX5_unit_158 (fun i_80 hi_80 ei_80 => ?_)
          refine lv_iload_n C0.1 C0.2.1 dX5_unit_161 rfl (lv_at hl 0 rfl) ?_
          refine y_cv h (y_rV (As := [.int v_69]) (rest := []) C0 hZ h (c_X4_add l G Z ad _ h.2 i_80 hi_80 v_69) k_X4_add q_827 q_828 q_826 hi_80 rfl rfl rfl hl.1 rfl rfl (Nat.le_of_ble_eq_true rfl) dX5_unit_162 ⟨Nat.le_of_ble_eq_true rfl, Nat.le_of_ble_eq_true rfl⟩ ⟨Nat.le_of_ble_eq_true rfl, Nat.le_of_ble_eq_true rfl⟩) (fun H locs ws_81 h u_82 p_83 => ?_)
          have e_84 := p_83
          replace HE : FT = g24c_X5_unit_6 (xso SC ad ws_81) := HE.trans (by rw [e_84, (o24_62 e_70 c_71), ei_80]; rfl)
          replace HE : FT = ((xso SC ad ws_81), 0) := HE.trans rfl
          rw [hQ]
          exact y_vret C0 h (Fr.tr (Fr.tr (Fr.tr (Fr.tr (Fr.mono u_2 (by decide)) u_18) (Fr.mono u_73 (by decide))) u_77) (Fr.mono u_82 (by decide))) (congrArg Prod.fst (HE.symm.trans hFT)) dX5_unit_165
      · -- 97
        replace HE : FT = g11_X5_unit_6 (xso SC ad ws_17) := HE.trans (if_pos (o24_52 e_26 c_27))
        refine y_c3 (n := 2003) C0 (by decide) dX5_unit_100 (fun v_85 e_86 => ?_)
        refine lv_goto (tgt := 137) C0.1 C0.2.1 dX5_unit_103 (by decide) ?_
        refine lv_istore_n (lv' := [(2, .int v_85), (0, .ref (ad 77)), (1, .int a1)]) C0.1 C0.2.1 dX5_unit_137 rfl hl (by decide) rfl (fun ls hl => ?_)
        refine lv_iload_n C0.1 C0.2.1 dX5_unit_138 rfl (lv_at hl 0 rfl) ?_
        refine y_if_ge (tgt := 148) C0 dX5_unit_139 (by decide) (fun c_87 => ?_) (fun c_87 => ((o24_63 e_86 c_87)).elim)
        refine lv_aload_n C0.1 C0.2.1 dX5_unit_148 rfl (lv_at hl 1 rfl) ?_
        refine y_cv h (y_rV (As := []) (rest := []) C0 hZ h (c_X5_advance l G Z ad _ h.2) k_X5_advance q_616 q_0 q_614 kSC_77 rfl rfl rfl hl.1 rfl rfl (Nat.le_of_ble_eq_true rfl) dX5_unit_149 ⟨Nat.le_of_ble_eq_true rfl, Nat.le_of_ble_eq_true rfl⟩ ⟨Nat.le_of_ble_eq_true rfl, Nat.le_of_ble_eq_true rfl⟩) (fun H locs ws_88 h u_89 p_90 => ?_)
        have e_91 := p_90
        replace HE : FT = g25c_X5_unit_6 (xso SC ad ws_88) := HE.trans (by rw [e_91]; rfl)
        refine lv_aload_n C0.1 C0.2.1 dX5_unit_152 rfl (lv_at hl 1 rfl) ?_
        refine lv_iload_n C0.1 C0.2.1 dX5_unit_153 rfl (lv_at hl 2 rfl) ?_
        refine y_cv h (y_rV (As := [.int a1]) (rest := []) C0 hZ h (c_X5_sum_6 l G Z ad _ h.2 a1 (o24_18 l1 u1) (o24_19 l1 u1)) k_X5_sum q_816 q_15 q_814 kSC_77 rfl rfl rfl hl.1 rfl rfl (Nat.le_of_ble_eq_true rfl) dX5_unit_154 ⟨Nat.le_of_ble_eq_true rfl, Nat.le_of_ble_eq_true rfl⟩ ⟨Nat.le_of_ble_eq_true rfl, Nat.le_of_ble_eq_true rfl⟩) (fun H locs ws_92 h u_93 p_94 => ?_)
        have e_95 := p_94
        replace HE : FT = g26c_X5_unit_6 (xso SC ad ws_92) := HE.trans (by rw [e_95, (o24_20 l1 u1)]; rfl)
        refine lv_aload_n C0.1 C0.2.1 dX5_unit_157 rfl (lv_at hl 1 rfl) ?_
        refine tg_X5_law C0 h kSC_77 q_380 dX5_unit_158 (fun i_96 hi_96 ei_96 => ?_)
        refine lv_iload_n C0.1 C0.2.1 dX5_unit_161 rfl (lv_at hl 0 rfl) ?_
        refine y_cv h (y_rV (As := [.int v_85]) (rest := []) C0 hZ h (c_X4_add l G Z ad _ h.2 i_96 hi_96 v_85) k_X4_add q_827 q_828 q_826 hi_96 rfl rfl rfl hl.1 rfl rfl (Nat.le_of_ble_eq_true rfl) dX5_unit_162 ⟨Nat.le_of_ble_eq_true rfl, Nat.le_of_ble_eq_true rfl⟩ ⟨Nat.le_of_ble_eq_true rfl, Nat.le_of_ble_eq_true rfl⟩) (fun H locs ws_97 h u_98 p_99 => ?_)
        have e_100 := p_99
        replace HE : FT = g27c_X5_unit_6 (xso SC ad ws_97) := HE.trans (by rw [e_100, (o24_64 e_86 c_87), ei_96]; rfl)
        replace HE : FT = ((xso SC ad ws_97), 0) := HE.trans rfl
        rw [hQ]
        exact y_vret C0 h (Fr.tr (Fr.tr (Fr.tr (Fr.tr (Fr.mono u_2 (by decide)) u_18) (Fr.mono u_89 (by decide))) u_93) (Fr.mono u_98 (by decide))) (congrArg Prod.fst (HE.symm.trans hFT)) dX5_unit_165
    · -- 55
      replace HE : FT = g7_X5_unit_6 (xso SC ad ws_1) := HE.trans (if_pos (o24_49 e_15 c_16))
      refine lv_aload_n C0.1 C0.2.1 dX5_unit_58 rfl (lv_at hl 0 rfl) ?_
      refine lv_iload_n C0.1 C0.2.1 dX5_unit_59 rfl (lv_at hl 1 rfl) ?_
      refine y_ci h (y_rV (As := [.int a1]) (rest := []) C0 hZ h (c_X5_tooDeep_6 l G Z ad _ h.2 a1 (o24_18 l1 u1) (o24_19 l1 u1)) k_X5_tooDeep q_832 q_18 q_830 kSC_77 rfl rfl rfl hl.1 rfl rfl (Nat.le_of_ble_eq_true rfl) dX5_unit_60 ⟨Nat.le_of_ble_eq_true rfl, Nat.le_of_ble_eq_true rfl⟩ ⟨Nat.le_of_ble_eq_true rfl, Nat.le_of_ble_eq_true rfl⟩) (fun r_104 H locs ws_101 h u_102 p_103 => ?_)
      obtain ⟨e_105, e_106, e_107, e_108⟩ := p_103
      replace HE : FT = g28c_X5_unit_6 (xso SC ad ws_101) := HE.trans (by rw [e_105, (o24_20 l1 u1)]; rfl)
      refine y_if_ne (tgt := 165) C0 dX5_unit_63 (by decide) (fun c_109 => ?_) (fun c_109 => ((o24_21 e_107 e_108 c_109)).elim)
      replace HE : FT = ((xso SC ad ws_101), 0) := HE.trans rfl
      rw [hQ]
      exact y_vret C0 h (Fr.tr (Fr.mono u_2 (by decide)) (Fr.mono u_102 (by decide))) (congrArg Prod.fst (HE.symm.trans hFT)) dX5_unit_165
  · -- 6
    replace HE : FT = g4_X5_unit_6 (xso SC ad ws_1) := HE.trans (if_neg c_9)
    refine lv_aload_n C0.1 C0.2.1 dX5_unit_9 rfl (lv_at hl 0 rfl) ?_
    refine lv_iload_n C0.1 C0.2.1 dX5_unit_10 rfl (lv_at hl 1 rfl) ?_
    refine y_ci h (y_rV (As := [.int a1]) (rest := []) C0 hZ h (c_X5_tooDeep_6 l G Z ad _ h.2 a1 (o24_18 l1 u1) (o24_19 l1 u1)) k_X5_tooDeep q_832 q_18 q_830 kSC_77 rfl rfl rfl hl.1 rfl rfl (Nat.le_of_ble_eq_true rfl) dX5_unit_11 ⟨Nat.le_of_ble_eq_true rfl, Nat.le_of_ble_eq_true rfl⟩ ⟨Nat.le_of_ble_eq_true rfl, Nat.le_of_ble_eq_true rfl⟩) (fun r_113 H locs ws_110 h u_111 p_112 => ?_)
    obtain ⟨e_114, e_115, e_116, e_117⟩ := p_112
    replace HE : FT = g29c_X5_unit_6 (xso SC ad ws_110) := HE.trans (by rw [e_114, (o24_20 l1 u1)]; rfl)
    refine y_if_ne (tgt := 165) C0 dX5_unit_14 (by decide) (fun c_118 => ?_) (fun c_118 => ((o24_21 e_116 e_117 c_118)).elim)
    replace HE : FT = ((xso SC ad ws_110), 0) := HE.trans rfl
    rw [hQ]
    exact y_vret C0 h (Fr.tr (Fr.mono u_2 (by decide)) (Fr.mono u_111 (by decide))) (congrArg Prod.fst (HE.symm.trans hFT)) dX5_unit_165
noncomputable def g5_X5_both_6 (s : XS) : XR := (s, 0)
noncomputable def g9_X5_both_6 (s : XS) : XR := (s, 0)
noncomputable def g13c_X5_both_6 (R7 : XS → Int → XR) (s : XS) (x2_7 : Int) : XR := R7 s ((x2_7 + 1))
noncomputable def g12c_X5_both_6 (R7 : XS → Int → XR) (s : XS) (x2_7 : Int) : XR := g13c_X5_both_6 R7 ((f_X4_add s (Int.toNat (s 3 77 10)) 2006).1) x2_7
noncomputable def g11c_X5_both_6 (R7 : XS → Int → XR) (s : XS) (x2_7 : Int) : XR := g12c_X5_both_6 R7 ((f_X5_unit_6 s 6).1) x2_7
noncomputable def g10_X5_both_6 (R7 : XS → Int → XR) (s : XS) (x2_7 : Int) : XR := g11c_X5_both_6 R7 ((f_X5_advance s).1) x2_7
noncomputable def g8b_X5_both_6 (R7 : XS → Int → XR) (s : XS) (r_22 : Int) (x2_7 : Int) : XR := if r_22 = 0 then g9_X5_both_6 s else g10_X5_both_6 R7 s x2_7
noncomputable def g7c_X5_both_6 (R7 : XS → Int → XR) (s : XS) (r_22 : Int) (x2_7 : Int) : XR := g8b_X5_both_6 R7 s r_22 x2_7
noncomputable def g6_X5_both_6 (R7 : XS → Int → XR) (s : XS) (x2_7 : Int) : XR := g7c_X5_both_6 R7 ((f_X5_isWord s 20).1) (((f_X5_isWord s 20).2)) x2_7
noncomputable def g4b_X5_both_6 (R7 : XS → Int → XR) (s : XS) (x2_7 : Int) : XR := if x2_7 < 900 then g6_X5_both_6 R7 s x2_7 else g5_X5_both_6 s
noncomputable def g3l_X5_both_6 (R7 : XS → Int → XR) (s : XS) (x2_7 : Int) : XR := g4b_X5_both_6 R7 s x2_7
noncomputable def L2_X5_both_6 (n : Nat) : XS → Int → XR := Nat.rec (motive := fun _ => XS → Int → XR) (fun s _ => (s, 0)) (fun _ R7 => g3l_X5_both_6 R7) n
noncomputable def g1c_X5_both_6 (s : XS) : XR := L2_X5_both_6 (Int.toNat (900 - 0 + 1)) s 0
noncomputable def f_X5_both_6 (s : XS) (a1 : Int) : XR := g1c_X5_both_6 ((f_X5_unit_6 s a1).1)
set_option maxHeartbeats 4000000 in
set_option maxRecDepth 100000 in
theorem c_X5_both_6 (l : Launch) (G : GG) (Z : RZ) (ad : Nat → Nat) (ws0 : va_W) (hT : Ty G SC ad ws0) (a1 : Int32) (l1 : 6 ≤ a1.toInt) (u1 : a1.toInt ≤ 6) : Mq l yX5_both cX5_both 3 none 10 G Z [.ref (ad 77), .int a1] ws0 (PV G SC ad [2, 3, 16] ws0 (fun u => (xso SC ad u = (f_X5_both_6 (xso SC ad ws0) a1.toInt).1))) := by
  refine Mq.start (by decide) (Nat.le_of_ble_eq_true rfl) ?_
  intro p e s m below meth c A ls C0 hZ h hl
  have hl : lv_has ls 3 [(0, .ref (ad 77)), (1, .int a1)] := hl
  have h : Wt G SC ad A s s.heap [] ws0 := ⟨h, hT⟩
  obtain ⟨args, hargs⟩ : ∃ z, z = ([.ref (ad 77), .int a1] : List Value).toArray := ⟨_, rfl⟩
  rw [← hargs] at C0 ⊢
  have C0 : Cx p s m args meth c RX5 cX5_both 3 none := C0
  obtain ⟨Q, hQ⟩ : ∃ z, z = MQ below ((PV G SC ad [2, 3, 16] ws0 (fun u => (xso SC ad u = (f_X5_both_6 (xso SC ad ws0) a1.toInt).1))) A) args s 0 0 A := ⟨_, rfl⟩
  rw [← hQ]
  obtain ⟨FT, hFT⟩ : ∃ z, z = f_X5_both_6 (xso SC ad ws0) a1.toInt := ⟨_, rfl⟩
  have HE : FT = f_X5_both_6 (xso SC ad ws0) a1.toInt := hFT
  refine lv_aload_n C0.1 C0.2.1 dX5_both_0 rfl (lv_at hl 0 rfl) ?_
  refine lv_iload_n C0.1 C0.2.1 dX5_both_1 rfl (lv_at hl 1 rfl) ?_
  refine y_cv h (y_rV (As := [.int a1]) (rest := []) C0 hZ h (c_X5_unit_6 l G Z ad _ h.2 a1 (o24_18 l1 u1) (o24_19 l1 u1)) k_X5_unit q_851 q_21 q_849 kSC_77 rfl rfl rfl hl.1 rfl rfl (Nat.le_of_ble_eq_true rfl) dX5_both_2 ⟨Nat.le_of_ble_eq_true rfl, Nat.le_of_ble_eq_true rfl⟩ ⟨Nat.le_of_ble_eq_true rfl, Nat.le_of_ble_eq_true rfl⟩) (fun H locs ws_1 h u_2 p_3 => ?_)
  have e_4 := p_3
  replace HE : FT = g1c_X5_both_6 (xso SC ad ws_1) := HE.trans (by rw [e_4]; rfl)
  refine y_c1 (n := 0) C0 (by decide) dX5_both_5 (fun v_5 e_6 => ?_)
  refine lv_istore_n (lv' := [(2, .int v_5), (0, .ref (ad 77)), (1, .int a1)]) C0.1 C0.2.1 dX5_both_6 rfl hl (by decide) rfl (fun ls hl => ?_)
  have lp_10 : ∀ (n_12 : Nat) (x2_7 : Int32) (H : Heap) (locs : List Loc) (ls : Array Slot) (ws_8 : va_W), 900 - x2_7.toInt < (n_12 : Int) → 0 ≤ x2_7.toInt → x2_7.toInt ≤ 900 → (FT = L2_X5_both_6 n_12 (xso SC ad ws_8) x2_7.toInt) → Wt G SC ad A s H locs ws_8 → Fr SC [2, 3, 16] ws_1 ws_8 → lv_has ls 3 [(2, .int x2_7), (0, .ref (ad 77)), (1, .int a1)] → W p l e (rmd 10 0 0) s m args below meth c H locs 0 0 Q (F0 m 7 ls []) := by
    intro n_12
    induction n_12 with
    | zero => intro x2_7 H locs ls ws_8 hn_13 b_14 b_15 HE h hF_9 hl; exact ((o24_22 b_14 b_15 hn_13)).elim
    | succ n_12 ih_11 =>
      intro x2_7 H locs ls ws_8 hn_13 b_14 b_15 HE h hF_9 hl
      obtain ⟨R7, hR7⟩ : ∃ z, z = L2_X5_both_6 n_12 := ⟨_, rfl⟩
      replace HE : FT = g3l_X5_both_6 R7 (xso SC ad ws_8) x2_7.toInt := HE.trans (by rw [hR7]; rfl)
      refine lv_iload_n C0.1 C0.2.1 dX5_both_7 rfl (lv_at hl 0 rfl) ?_
      refine y_c3 (n := 900) C0 (by decide) dX5_both_8 (fun v_16 e_17 => ?_)
      replace HE : FT = g4b_X5_both_6 R7 (xso SC ad ws_8) x2_7.toInt := HE.trans rfl
      refine y_icmp_ge (tgt := 48) C0 dX5_both_11 (by decide) (fun c_18 => ?_) (fun c_18 => ?_)
      · -- 11
        replace HE : FT = g5_X5_both_6 (xso SC ad ws_8) := HE.trans (if_neg (o24_24 b_14 b_15 hn_13 e_17 c_18))
        replace HE : FT = ((xso SC ad ws_8), 0) := HE.trans rfl
        rw [hQ]
        exact y_vret C0 h (Fr.tr u_2 hF_9) (congrArg Prod.fst (HE.symm.trans hFT)) dX5_both_48
      · -- 11
        replace HE : FT = g6_X5_both_6 R7 (xso SC ad ws_8) x2_7.toInt := HE.trans (if_pos (o24_25 b_14 b_15 hn_13 e_17 c_18))
        refine lv_aload_n C0.1 C0.2.1 dX5_both_14 rfl (lv_at hl 1 rfl) ?_
        refine va_ldcS C0.1 C0.2.1 C0.2.2.2.1 (sr_20 hZ) dX5_both_15 ?_
        refine y_ci h (y_rV (As := [.ref (Z.2.1 20)]) (rest := []) C0 hZ h (c_X5_isWord l G Z ad _ h.2 20 (by decide)) k_X5_isWord q_724 q_5 q_722 kSC_77 rfl rfl rfl hl.1 rfl rfl (Nat.le_of_ble_eq_true rfl) dX5_both_17 ⟨Nat.le_of_ble_eq_true rfl, Nat.le_of_ble_eq_true rfl⟩ ⟨Nat.le_of_ble_eq_true rfl, Nat.le_of_ble_eq_true rfl⟩) (fun r_22 H locs ws_19 h u_20 p_21 => ?_)
        obtain ⟨e_23, e_24, e_25, e_26⟩ := p_21
        replace HE : FT = g7c_X5_both_6 R7 (xso SC ad ws_19) r_22.toInt x2_7.toInt := HE.trans (by rw [e_23, e_24]; rfl)
        replace HE : FT = g8b_X5_both_6 R7 (xso SC ad ws_19) r_22.toInt x2_7.toInt := HE.trans rfl
        refine y_if_eq (tgt := 48) C0 dX5_both_20 (by decide) (fun c_27 => ?_) (fun c_27 => ?_)
        · -- 20
          replace HE : FT = g9_X5_both_6 (xso SC ad ws_19) := HE.trans (if_pos c_27)
          replace HE : FT = ((xso SC ad ws_19), 0) := HE.trans rfl
          rw [hQ]
          exact y_vret C0 h (Fr.tr (Fr.tr u_2 hF_9) (Fr.mono u_20 (by decide))) (congrArg Prod.fst (HE.symm.trans hFT)) dX5_both_48
        · -- 20
          replace HE : FT = g10_X5_both_6 R7 (xso SC ad ws_19) x2_7.toInt := HE.trans (if_neg c_27)
          refine lv_aload_n C0.1 C0.2.1 dX5_both_23 rfl (lv_at hl 1 rfl) ?_
          refine y_cv h (y_rV (As := []) (rest := []) C0 hZ h (c_X5_advance l G Z ad _ h.2) k_X5_advance q_616 q_0 q_614 kSC_77 rfl rfl rfl hl.1 rfl rfl (Nat.le_of_ble_eq_true rfl) dX5_both_24 ⟨Nat.le_of_ble_eq_true rfl, Nat.le_of_ble_eq_true rfl⟩ ⟨Nat.le_of_ble_eq_true rfl, Nat.le_of_ble_eq_true rfl⟩) (fun H locs ws_28 h u_29 p_30 => ?_)
          have e_31 := p_30
          replace HE : FT = g11c_X5_both_6 R7 (xso SC ad ws_28) x2_7.toInt := HE.trans (by rw [e_31]; rfl)
          refine lv_aload_n C0.1 C0.2.1 dX5_both_27 rfl (lv_at hl 1 rfl) ?_
          refine lv_iload_n C0.1 C0.2.1 dX5_both_28 rfl (lv_at hl 2 rfl) ?_
          refine y_cv h (y_rV (As := [.int a1]) (rest := []) C0 hZ h (c_X5_unit_6 l G Z ad _ h.2 a1 (o24_18 l1 u1) (o24_19 l1 u1)) k_X5_unit q_851 q_21 q_849 kSC_77 rfl rfl rfl hl.1 rfl rfl (Nat.le_of_ble_eq_true rfl) dX5_both_29 ⟨Nat.le_of_ble_eq_true rfl, Nat.le_of_ble_eq_true rfl⟩ ⟨Nat.le_of_ble_eq_true rfl, Nat.le_of_ble_eq_true rfl⟩) (fun H locs ws_32 h u_33 p_34 => ?_)
          have e_35 := p_34
          replace HE : FT = g12c_X5_both_6 R7 (xso SC ad ws_32) x2_7.toInt := HE.trans (by rw [e_35, (o24_20 l1 u1)]; rfl)
          refine lv_aload_n C0.1 C0.2.1 dX5_both_32 rfl (lv_at hl 1 rfl) ?_
          refine tg_X5_law C0 h kSC_77 q_380 dX5_both_33 (fun i_36 hi_36 ei_36 => ?_)
          refine y_c3 (n := 2006) C0 (by decide) dX5_both_36 (fun v_37 e_38 => ?_)
          refine y_cv h (y_rV (As := [.int v_37]) (rest := []) C0 hZ h (c_X4_add l G Z ad _ h.2 i_36 hi_36 v_37) k_X4_add q_827 q_828 q_826 hi_36 rfl rfl rfl hl.1 rfl rfl (Nat.le_of_ble_eq_true rfl) dX5_both_39 ⟨Nat.le_of_ble_eq_true rfl, Nat.le_of_ble_eq_true rfl⟩ ⟨Nat.le_of_ble_eq_true rfl, Nat.le_of_ble_eq_true rfl⟩) (fun H locs ws_39 h u_40 p_41 => ?_)
          have e_42 := p_41
          replace HE : FT = g13c_X5_both_6 R7 (xso SC ad ws_39) x2_7.toInt := HE.trans (by rw [e_42, e_38, ei_36]; rfl)
          refine y_inc (kp := 0) (n := 1) (fun v_43 => [(2, .int v_43), (0, .ref (ad 77)), (1, .int a1)]) C0 hl rfl (by decide) (by decide) (fun _ => rfl) (o24_29 b_14 b_15 hn_13 e_17 c_18 (le_min x2_7) (le_max x2_7) (le_min v_16) (le_max v_16)) (o24_30 b_14 b_15 hn_13 e_17 c_18 (le_min x2_7) (le_max x2_7) (le_min v_16) (le_max v_16)) dX5_both_42 (fun v_43 ls e_44 hl => ?_)
          refine lv_goto (tgt := 7) C0.1 C0.2.1 dX5_both_45 (by decide) ?_
          exact ih_11 v_43 _ _ _ _ (o24_31 b_14 b_15 hn_13 e_17 c_18 e_44) (o24_32 b_14 b_15 hn_13 e_17 c_18 e_44) (o24_33 b_14 b_15 hn_13 e_17 c_18 e_44) (((show FT = R7 (xso SC ad ws_39) v_43.toInt from HE.trans (by rw [e_44]; rfl)).trans (by rw [hR7]))) h (Fr.tr (Fr.tr (Fr.tr (Fr.tr hF_9 (Fr.mono u_20 (by decide))) (Fr.mono u_29 (by decide))) u_33) (Fr.mono u_40 (by decide))) (lv_sub hl [0, 1, 2] rfl)
  exact lp_10 ((900 - v_5.toInt + 1).toNat) v_5 _ _ _ _ (o24_34 e_6) (o24_35 e_6) (o24_36 e_6) ((show FT = L2_X5_both_6 (Int.toNat (900 - v_5.toInt + 1)) (xso SC ad ws_1) v_5.toInt from HE.trans (by rw [e_6]; rfl))) h Fr.rf (lv_sub hl [0, 1, 2] rfl)
noncomputable def g5_X5_truth_6 (s : XS) : XR := (s, 0)
noncomputable def g9_X5_truth_6 (s : XS) : XR := (s, 0)
noncomputable def g13c_X5_truth_6 (R7 : XS → Int → XR) (s : XS) (x2_7 : Int) : XR := R7 s ((x2_7 + 1))
noncomputable def g12c_X5_truth_6 (R7 : XS → Int → XR) (s : XS) (x2_7 : Int) : XR := g13c_X5_truth_6 R7 ((f_X4_add s (Int.toNat (s 3 77 10)) 2007).1) x2_7
noncomputable def g11c_X5_truth_6 (R7 : XS → Int → XR) (s : XS) (x2_7 : Int) : XR := g12c_X5_truth_6 R7 ((f_X5_both_6 s 6).1) x2_7
noncomputable def g10_X5_truth_6 (R7 : XS → Int → XR) (s : XS) (x2_7 : Int) : XR := g11c_X5_truth_6 R7 ((f_X5_advance s).1) x2_7
noncomputable def g8b_X5_truth_6 (R7 : XS → Int → XR) (s : XS) (r_22 : Int) (x2_7 : Int) : XR := if r_22 = 0 then g9_X5_truth_6 s else g10_X5_truth_6 R7 s x2_7
noncomputable def g7c_X5_truth_6 (R7 : XS → Int → XR) (s : XS) (r_22 : Int) (x2_7 : Int) : XR := g8b_X5_truth_6 R7 s r_22 x2_7
noncomputable def g6_X5_truth_6 (R7 : XS → Int → XR) (s : XS) (x2_7 : Int) : XR := g7c_X5_truth_6 R7 ((f_X5_isWord s 21).1) (((f_X5_isWord s 21).2)) x2_7
noncomputable def g4b_X5_truth_6 (R7 : XS → Int → XR) (s : XS) (x2_7 : Int) : XR := if x2_7 < 900 then g6_X5_truth_6 R7 s x2_7 else g5_X5_truth_6 s
noncomputable def g3l_X5_truth_6 (R7 : XS → Int → XR) (s : XS) (x2_7 : Int) : XR := g4b_X5_truth_6 R7 s x2_7
noncomputable def L2_X5_truth_6 (n : Nat) : XS → Int → XR := Nat.rec (motive := fun _ => XS → Int → XR) (fun s _ => (s, 0)) (fun _ R7 => g3l_X5_truth_6 R7) n
noncomputable def g1c_X5_truth_6 (s : XS) : XR := L2_X5_truth_6 (Int.toNat (900 - 0 + 1)) s 0
noncomputable def f_X5_truth_6 (s : XS) (a1 : Int) : XR := g1c_X5_truth_6 ((f_X5_both_6 s a1).1)
set_option maxHeartbeats 4000000 in
set_option maxRecDepth 100000 in
theorem c_X5_truth_6 (l : Launch) (G : GG) (Z : RZ) (ad : Nat → Nat) (ws0 : va_W) (hT : Ty G SC ad ws0) (a1 : Int32) (l1 : 6 ≤ a1.toInt) (u1 : a1.toInt ≤ 6) : Mq l yX5_truth cX5_truth 3 none 11 G Z [.ref (ad 77), .int a1] ws0 (PV G SC ad [2, 3, 16] ws0 (fun u => (xso SC ad u = (f_X5_truth_6 (xso SC ad ws0) a1.toInt).1))) := by
  refine Mq.start (by decide) (Nat.le_of_ble_eq_true rfl) ?_
  intro p e s m below meth c A ls C0 hZ h hl
  have hl : lv_has ls 3 [(0, .ref (ad 77)), (1, .int a1)] := hl
  have h : Wt G SC ad A s s.heap [] ws0 := ⟨h, hT⟩
  obtain ⟨args, hargs⟩ : ∃ z, z = ([.ref (ad 77), .int a1] : List Value).toArray := ⟨_, rfl⟩
  rw [← hargs] at C0 ⊢
  have C0 : Cx p s m args meth c RX5 cX5_truth 3 none := C0
  obtain ⟨Q, hQ⟩ : ∃ z, z = MQ below ((PV G SC ad [2, 3, 16] ws0 (fun u => (xso SC ad u = (f_X5_truth_6 (xso SC ad ws0) a1.toInt).1))) A) args s 0 0 A := ⟨_, rfl⟩
  rw [← hQ]
  obtain ⟨FT, hFT⟩ : ∃ z, z = f_X5_truth_6 (xso SC ad ws0) a1.toInt := ⟨_, rfl⟩
  have HE : FT = f_X5_truth_6 (xso SC ad ws0) a1.toInt := hFT
  refine lv_aload_n C0.1 C0.2.1 dX5_truth_0 rfl (lv_at hl 0 rfl) ?_
  refine lv_iload_n C0.1 C0.2.1 dX5_truth_1 rfl (lv_at hl 1 rfl) ?_
  refine y_cv h (y_rV (As := [.int a1]) (rest := []) C0 hZ h (c_X5_both_6 l G Z ad _ h.2 a1 (o24_18 l1 u1) (o24_19 l1 u1)) k_X5_both q_847 q_20 q_845 kSC_77 rfl rfl rfl hl.1 rfl rfl (Nat.le_of_ble_eq_true rfl) dX5_truth_2 ⟨Nat.le_of_ble_eq_true rfl, Nat.le_of_ble_eq_true rfl⟩ ⟨Nat.le_of_ble_eq_true rfl, Nat.le_of_ble_eq_true rfl⟩) (fun H locs ws_1 h u_2 p_3 => ?_)
  have e_4 := p_3
  replace HE : FT = g1c_X5_truth_6 (xso SC ad ws_1) := HE.trans (by rw [e_4]; rfl)
  refine y_c1 (n := 0) C0 (by decide) dX5_truth_5 (fun v_5 e_6 => ?_)
  refine lv_istore_n (lv' := [(2, .int v_5), (0, .ref (ad 77)), (1, .int a1)]) C0.1 C0.2.1 dX5_truth_6 rfl hl (by decide) rfl (fun ls hl => ?_)
  have lp_10 : ∀ (n_12 : Nat) (x2_7 : Int32) (H : Heap) (locs : List Loc) (ls : Array Slot) (ws_8 : va_W), 900 - x2_7.toInt < (n_12 : Int) → 0 ≤ x2_7.toInt → x2_7.toInt ≤ 900 → (FT = L2_X5_truth_6 n_12 (xso SC ad ws_8) x2_7.toInt) → Wt G SC ad A s H locs ws_8 → Fr SC [2, 3, 16] ws_1 ws_8 → lv_has ls 3 [(2, .int x2_7), (0, .ref (ad 77)), (1, .int a1)] → W p l e (rmd 11 0 0) s m args below meth c H locs 0 0 Q (F0 m 7 ls []) := by
    intro n_12
    induction n_12 with
    | zero => intro x2_7 H locs ls ws_8 hn_13 b_14 b_15 HE h hF_9 hl; exact ((o24_22 b_14 b_15 hn_13)).elim
    | succ n_12 ih_11 =>
      intro x2_7 H locs ls ws_8 hn_13 b_14 b_15 HE h hF_9 hl
      obtain ⟨R7, hR7⟩ : ∃ z, z = L2_X5_truth_6 n_12 := ⟨_, rfl⟩
      replace HE : FT = g3l_X5_truth_6 R7 (xso SC ad ws_8) x2_7.toInt := HE.trans (by rw [hR7]; rfl)
      refine lv_iload_n C0.1 C0.2.1 dX5_truth_7 rfl (lv_at hl 0 rfl) ?_
      refine y_c3 (n := 900) C0 (by decide) dX5_truth_8 (fun v_16 e_17 => ?_)
      replace HE : FT = g4b_X5_truth_6 R7 (xso SC ad ws_8) x2_7.toInt := HE.trans rfl
      refine y_icmp_ge (tgt := 48) C0 dX5_truth_11 (by decide) (fun c_18 => ?_) (fun c_18 => ?_)
      · -- 11
        replace HE : FT = g5_X5_truth_6 (xso SC ad ws_8) := HE.trans (if_neg (o24_24 b_14 b_15 hn_13 e_17 c_18))
        replace HE : FT = ((xso SC ad ws_8), 0) := HE.trans rfl
        rw [hQ]
        exact y_vret C0 h (Fr.tr u_2 hF_9) (congrArg Prod.fst (HE.symm.trans hFT)) dX5_truth_48
      · -- 11
        replace HE : FT = g6_X5_truth_6 R7 (xso SC ad ws_8) x2_7.toInt := HE.trans (if_pos (o24_25 b_14 b_15 hn_13 e_17 c_18))
        refine lv_aload_n C0.1 C0.2.1 dX5_truth_14 rfl (lv_at hl 1 rfl) ?_
        refine va_ldcS C0.1 C0.2.1 C0.2.2.2.1 (sr_21 hZ) dX5_truth_15 ?_
        refine y_ci h (y_rV (As := [.ref (Z.2.1 21)]) (rest := []) C0 hZ h (c_X5_isWord l G Z ad _ h.2 21 (by decide)) k_X5_isWord q_724 q_5 q_722 kSC_77 rfl rfl rfl hl.1 rfl rfl (Nat.le_of_ble_eq_true rfl) dX5_truth_17 ⟨Nat.le_of_ble_eq_true rfl, Nat.le_of_ble_eq_true rfl⟩ ⟨Nat.le_of_ble_eq_true rfl, Nat.le_of_ble_eq_true rfl⟩) (fun r_22 H locs ws_19 h u_20 p_21 => ?_)
        obtain ⟨e_23, e_24, e_25, e_26⟩ := p_21
        replace HE : FT = g7c_X5_truth_6 R7 (xso SC ad ws_19) r_22.toInt x2_7.toInt := HE.trans (by rw [e_23, e_24]; rfl)
        replace HE : FT = g8b_X5_truth_6 R7 (xso SC ad ws_19) r_22.toInt x2_7.toInt := HE.trans rfl
        refine y_if_eq (tgt := 48) C0 dX5_truth_20 (by decide) (fun c_27 => ?_) (fun c_27 => ?_)
        · -- 20
          replace HE : FT = g9_X5_truth_6 (xso SC ad ws_19) := HE.trans (if_pos c_27)
          replace HE : FT = ((xso SC ad ws_19), 0) := HE.trans rfl
          rw [hQ]
          exact y_vret C0 h (Fr.tr (Fr.tr u_2 hF_9) (Fr.mono u_20 (by decide))) (congrArg Prod.fst (HE.symm.trans hFT)) dX5_truth_48
        · -- 20
          replace HE : FT = g10_X5_truth_6 R7 (xso SC ad ws_19) x2_7.toInt := HE.trans (if_neg c_27)
          refine lv_aload_n C0.1 C0.2.1 dX5_truth_23 rfl (lv_at hl 1 rfl) ?_
          refine y_cv h (y_rV (As := []) (rest := []) C0 hZ h (c_X5_advance l G Z ad _ h.2) k_X5_advance q_616 q_0 q_614 kSC_77 rfl rfl rfl hl.1 rfl rfl (Nat.le_of_ble_eq_true rfl) dX5_truth_24 ⟨Nat.le_of_ble_eq_true rfl, Nat.le_of_ble_eq_true rfl⟩ ⟨Nat.le_of_ble_eq_true rfl, Nat.le_of_ble_eq_true rfl⟩) (fun H locs ws_28 h u_29 p_30 => ?_)
          have e_31 := p_30
          replace HE : FT = g11c_X5_truth_6 R7 (xso SC ad ws_28) x2_7.toInt := HE.trans (by rw [e_31]; rfl)
          refine lv_aload_n C0.1 C0.2.1 dX5_truth_27 rfl (lv_at hl 1 rfl) ?_
          refine lv_iload_n C0.1 C0.2.1 dX5_truth_28 rfl (lv_at hl 2 rfl) ?_
          refine y_cv h (y_rV (As := [.int a1]) (rest := []) C0 hZ h (c_X5_both_6 l G Z ad _ h.2 a1 (o24_18 l1 u1) (o24_19 l1 u1)) k_X5_both q_847 q_20 q_845 kSC_77 rfl rfl rfl hl.1 rfl rfl (Nat.le_of_ble_eq_true rfl) dX5_truth_29 ⟨Nat.le_of_ble_eq_true rfl, Nat.le_of_ble_eq_true rfl⟩ ⟨Nat.le_of_ble_eq_true rfl, Nat.le_of_ble_eq_true rfl⟩) (fun H locs ws_32 h u_33 p_34 => ?_)
          have e_35 := p_34
          replace HE : FT = g12c_X5_truth_6 R7 (xso SC ad ws_32) x2_7.toInt := HE.trans (by rw [e_35, (o24_20 l1 u1)]; rfl)
          refine lv_aload_n C0.1 C0.2.1 dX5_truth_32 rfl (lv_at hl 1 rfl) ?_
          refine tg_X5_law C0 h kSC_77 q_380 dX5_truth_33 (fun i_36 hi_36 ei_36 => ?_)
          refine y_c3 (n := 2007) C0 (by decide) dX5_truth_36 (fun v_37 e_38 => ?_)
          refine y_cv h (y_rV (As := [.int v_37]) (rest := []) C0 hZ h (c_X4_add l G Z ad _ h.2 i_36 hi_36 v_37) k_X4_add q_827 q_828 q_826 hi_36 rfl rfl rfl hl.1 rfl rfl (Nat.le_of_ble_eq_true rfl) dX5_truth_39 ⟨Nat.le_of_ble_eq_true rfl, Nat.le_of_ble_eq_true rfl⟩ ⟨Nat.le_of_ble_eq_true rfl, Nat.le_of_ble_eq_true rfl⟩) (fun H locs ws_39 h u_40 p_41 => ?_)
          have e_42 := p_41
          replace HE : FT = g13c_X5_truth_6 R7 (xso SC ad ws_39) x2_7.toInt := HE.trans (by rw [e_42, e_38, ei_36]; rfl)
          refine y_inc (kp := 0) (n := 1) (fun v_43 => [(2, .int v_43), (0, .ref (ad 77)), (1, .int a1)]) C0 hl rfl (by decide) (by decide) (fun _ => rfl) (o24_29 b_14 b_15 hn_13 e_17 c_18 (le_min x2_7) (le_max x2_7) (le_min v_16) (le_max v_16)) (o24_30 b_14 b_15 hn_13 e_17 c_18 (le_min x2_7) (le_max x2_7) (le_min v_16) (le_max v_16)) dX5_truth_42 (fun v_43 ls e_44 hl => ?_)
          refine lv_goto (tgt := 7) C0.1 C0.2.1 dX5_truth_45 (by decide) ?_
          exact ih_11 v_43 _ _ _ _ (o24_31 b_14 b_15 hn_13 e_17 c_18 e_44) (o24_32 b_14 b_15 hn_13 e_17 c_18 e_44) (o24_33 b_14 b_15 hn_13 e_17 c_18 e_44) (((show FT = R7 (xso SC ad ws_39) v_43.toInt from HE.trans (by rw [e_44]; rfl)).trans (by rw [hR7]))) h (Fr.tr (Fr.tr (Fr.tr (Fr.tr hF_9 (Fr.mono u_20 (by decide))) (Fr.mono u_29 (by decide))) u_33) (Fr.mono u_40 (by decide))) (lv_sub hl [0, 1, 2] rfl)
  exact lp_10 ((900 - v_5.toInt + 1).toNat) v_5 _ _ _ _ (o24_34 e_6) (o24_35 e_6) (o24_36 e_6) ((show FT = L2_X5_truth_6 (Int.toNat (900 - v_5.toInt + 1)) (xso SC ad ws_1) v_5.toInt from HE.trans (by rw [e_6]; rfl))) h Fr.rf (lv_sub hl [0, 1, 2] rfl)
noncomputable def f_X5_tooDeep_5 (s : XS) (a1 : Int) : XR := (s, 0)
set_option maxHeartbeats 4000000 in
set_option maxRecDepth 100000 in
theorem c_X5_tooDeep_5 (l : Launch) (G : GG) (Z : RZ) (ad : Nat → Nat) (ws0 : va_W) (hT : Ty G SC ad ws0) (a1 : Int32) (l1 : 5 ≤ a1.toInt) (u1 : a1.toInt ≤ 5) : Mq l yX5_tooDeep cX5_tooDeep 2 (some .boolean) 1 G Z [.ref (ad 77), .int a1] ws0 (PI G SC ad [] ws0 (fun r u => (xso SC ad u = (f_X5_tooDeep_5 (xso SC ad ws0) a1.toInt).1) ∧ (r.toInt = (f_X5_tooDeep_5 (xso SC ad ws0) a1.toInt).2) ∧ (0 ≤ r.toInt) ∧ (r.toInt ≤ 0))) := by
  refine Mq.start (by decide) (Nat.le_of_ble_eq_true rfl) ?_
  intro p e s m below meth c A ls C0 hZ h hl
  have hl : lv_has ls 2 [(0, .ref (ad 77)), (1, .int a1)] := hl
  have h : Wt G SC ad A s s.heap [] ws0 := ⟨h, hT⟩
  obtain ⟨args, hargs⟩ : ∃ z, z = ([.ref (ad 77), .int a1] : List Value).toArray := ⟨_, rfl⟩
  rw [← hargs] at C0 ⊢
  have C0 : Cx p s m args meth c RX5 cX5_tooDeep 2 (some .boolean) := C0
  obtain ⟨Q, hQ⟩ : ∃ z, z = MQ below ((PI G SC ad [] ws0 (fun r u => (xso SC ad u = (f_X5_tooDeep_5 (xso SC ad ws0) a1.toInt).1) ∧ (r.toInt = (f_X5_tooDeep_5 (xso SC ad ws0) a1.toInt).2) ∧ (0 ≤ r.toInt) ∧ (r.toInt ≤ 0))) A) args s 0 0 A := ⟨_, rfl⟩
  rw [← hQ]
  obtain ⟨FT, hFT⟩ : ∃ z, z = f_X5_tooDeep_5 (xso SC ad ws0) a1.toInt := ⟨_, rfl⟩
  have HE : FT = f_X5_tooDeep_5 (xso SC ad ws0) a1.toInt := hFT
  refine lv_iload_n C0.1 C0.2.1 dX5_tooDeep_0 rfl (lv_at hl 1 rfl) ?_
  refine y_c2 (n := 6) C0 (by decide) dX5_tooDeep_1 (fun v_1 e_2 => ?_)
  refine y_icmp_lt (tgt := 13) C0 dX5_tooDeep_3 (by decide) (fun c_3 => ?_) (fun c_3 => ((o24_65 l1 u1 e_2 c_3)).elim)
  refine y_c1 (n := 0) C0 (by decide) dX5_tooDeep_13 (fun v_4 e_5 => ?_)
  replace HE : FT = ((xso SC ad ws0), v_4.toInt) := HE.trans (by rw [e_5]; rfl)
  rw [hQ]
  exact y_zret C0 h (o24_35 e_5) (o24_67 e_5) Fr.rf ⟨(congrArg Prod.fst (HE.symm.trans hFT)), (congrArg Prod.snd (HE.symm.trans hFT)), (o24_35 e_5), (o24_66 e_5)⟩ dX5_tooDeep_14
noncomputable def g31c_X5_atom_5 (s : XS) : XR := (s, 0)
noncomputable def g29_X5_atom_5 (s : XS) : XR := g31c_X5_atom_5 ((f_X5_fail s 2).1)
noncomputable def g33c_X5_atom_5 (s : XS) : XR := (s, 0)
noncomputable def g32c_X5_atom_5 (s : XS) : XR := g33c_X5_atom_5 ((f_X5_advance s).1)
noncomputable def g30_X5_atom_5 (s : XS) : XR := g32c_X5_atom_5 ((f_X4_add s (Int.toNat (s 3 77 10)) 1005).1)
noncomputable def g28b_X5_atom_5 (s : XS) (r_64 : Int) : XR := if r_64 = 0 then g29_X5_atom_5 s else g30_X5_atom_5 s
noncomputable def g27c_X5_atom_5 (s : XS) (r_64 : Int) : XR := g28b_X5_atom_5 s r_64
noncomputable def g25_X5_atom_5 (s : XS) : XR := g27c_X5_atom_5 ((f_X5_isWord s 17).1) (((f_X5_isWord s 17).2))
noncomputable def g35c_X5_atom_5 (s : XS) : XR := (s, 0)
noncomputable def g34c_X5_atom_5 (s : XS) : XR := g35c_X5_atom_5 ((f_X5_advance s).1)
noncomputable def g26_X5_atom_5 (s : XS) : XR := g34c_X5_atom_5 ((f_X4_add s (Int.toNat (s 3 77 10)) 1004).1)
noncomputable def g24b_X5_atom_5 (s : XS) (r_55 : Int) : XR := if r_55 = 0 then g25_X5_atom_5 s else g26_X5_atom_5 s
noncomputable def g23c_X5_atom_5 (s : XS) (r_55 : Int) : XR := g24b_X5_atom_5 s r_55
noncomputable def g21_X5_atom_5 (s : XS) : XR := g23c_X5_atom_5 ((f_X5_isWord s 16).1) (((f_X5_isWord s 16).2))
noncomputable def g37c_X5_atom_5 (s : XS) : XR := (s, 0)
noncomputable def g36c_X5_atom_5 (s : XS) : XR := g37c_X5_atom_5 ((f_X5_advance s).1)
noncomputable def g22_X5_atom_5 (s : XS) : XR := g36c_X5_atom_5 ((f_X4_add s (Int.toNat (s 3 77 10)) 1003).1)
noncomputable def g20b_X5_atom_5 (s : XS) (r_46 : Int) : XR := if r_46 = 0 then g21_X5_atom_5 s else g22_X5_atom_5 s
noncomputable def g19c_X5_atom_5 (s : XS) (r_46 : Int) : XR := g20b_X5_atom_5 s r_46
noncomputable def g17_X5_atom_5 (s : XS) : XR := g19c_X5_atom_5 ((f_X5_isWord s 15).1) (((f_X5_isWord s 15).2))
noncomputable def g39c_X5_atom_5 (s : XS) : XR := (s, 0)
noncomputable def g38c_X5_atom_5 (s : XS) : XR := g39c_X5_atom_5 ((f_X5_advance s).1)
noncomputable def g18_X5_atom_5 (s : XS) : XR := g38c_X5_atom_5 ((f_X4_add s (Int.toNat (s 3 77 10)) 1002).1)
noncomputable def g16b_X5_atom_5 (s : XS) (r_37 : Int) : XR := if r_37 = 0 then g17_X5_atom_5 s else g18_X5_atom_5 s
noncomputable def g15c_X5_atom_5 (s : XS) (r_37 : Int) : XR := g16b_X5_atom_5 s r_37
noncomputable def g13_X5_atom_5 (s : XS) : XR := g15c_X5_atom_5 ((f_X5_isWord s 14).1) (((f_X5_isWord s 14).2))
noncomputable def g41c_X5_atom_5 (s : XS) : XR := (s, 0)
noncomputable def g40c_X5_atom_5 (s : XS) : XR := g41c_X5_atom_5 ((f_X5_advance s).1)
noncomputable def g14_X5_atom_5 (s : XS) : XR := g40c_X5_atom_5 ((f_X4_add s (Int.toNat (s 3 77 10)) 1001).1)
noncomputable def g12b_X5_atom_5 (s : XS) (r_28 : Int) : XR := if r_28 = 0 then g13_X5_atom_5 s else g14_X5_atom_5 s
noncomputable def g11c_X5_atom_5 (s : XS) (r_28 : Int) : XR := g12b_X5_atom_5 s r_28
noncomputable def g9_X5_atom_5 (s : XS) : XR := g11c_X5_atom_5 ((f_X5_isWord s 13).1) (((f_X5_isWord s 13).2))
noncomputable def g43c_X5_atom_5 (s : XS) : XR := (s, 0)
noncomputable def g42c_X5_atom_5 (s : XS) : XR := g43c_X5_atom_5 ((f_X5_advance s).1)
noncomputable def g10_X5_atom_5 (s : XS) : XR := g42c_X5_atom_5 ((f_X4_add s (Int.toNat (s 3 77 10)) 1000).1)
noncomputable def g8b_X5_atom_5 (s : XS) (r_19 : Int) : XR := if r_19 = 0 then g9_X5_atom_5 s else g10_X5_atom_5 s
noncomputable def g7c_X5_atom_5 (s : XS) (r_19 : Int) : XR := g8b_X5_atom_5 s r_19
noncomputable def g5_X5_atom_5 (s : XS) : XR := g7c_X5_atom_5 ((f_X5_isWord s 12).1) (((f_X5_isWord s 12).2))
noncomputable def g47c_X5_atom_5 (s : XS) : XR := (s, 0)
noncomputable def g46c_X5_atom_5 (s : XS) : XR := g47c_X5_atom_5 ((f_X5_sign s 41).1)
noncomputable def g45c_X5_atom_5 (s : XS) : XR := g46c_X5_atom_5 ((f_X5_sum_6 s (5 + 1)).1)
noncomputable def g44c_X5_atom_5 (s : XS) : XR := g45c_X5_atom_5 ((f_X5_advance s).1)
noncomputable def g6_X5_atom_5 (s : XS) : XR := g44c_X5_atom_5 ((f_X5_tooDeep_5 s 5).1)
noncomputable def g4b_X5_atom_5 (s : XS) (v_8 : Int) : XR := if v_8 = 40 then g6_X5_atom_5 s else g5_X5_atom_5 s
noncomputable def g2_X5_atom_5 (s : XS) : XR := g4b_X5_atom_5 s ((s 0 77 4))
noncomputable def g49c_X5_atom_5 (s : XS) : XR := (s, 0)
noncomputable def g48c_X5_atom_5 (s : XS) : XR := g49c_X5_atom_5 ((f_X5_advance s).1)
noncomputable def g3_X5_atom_5 (s : XS) : XR := g48c_X5_atom_5 ((f_X4_add s (Int.toNat (s 3 77 10)) (s 0 77 7)).1)
noncomputable def g1b_X5_atom_5 (s : XS) (v_1 : Int) : XR := if v_1 = 2 then g3_X5_atom_5 s else g2_X5_atom_5 s
noncomputable def f_X5_atom_5 (s : XS) (a1 : Int) : XR := g1b_X5_atom_5 s ((s 0 77 4))
set_option maxHeartbeats 4000000 in
set_option maxRecDepth 100000 in
theorem c_X5_atom_5 (l : Launch) (G : GG) (Z : RZ) (ad : Nat → Nat) (ws0 : va_W) (hT : Ty G SC ad ws0) (a1 : Int32) (l1 : 5 ≤ a1.toInt) (u1 : a1.toInt ≤ 5) : Mq l yX5_atom cX5_atom 3 none 9 G Z [.ref (ad 77), .int a1] ws0 (PV G SC ad [2, 3, 16] ws0 (fun u => (xso SC ad u = (f_X5_atom_5 (xso SC ad ws0) a1.toInt).1))) := by
  refine Mq.start (by decide) (Nat.le_of_ble_eq_true rfl) ?_
  intro p e s m below meth c A ls C0 hZ h hl
  have hl : lv_has ls 3 [(0, .ref (ad 77)), (1, .int a1)] := hl
  have h : Wt G SC ad A s s.heap [] ws0 := ⟨h, hT⟩
  obtain ⟨args, hargs⟩ : ∃ z, z = ([.ref (ad 77), .int a1] : List Value).toArray := ⟨_, rfl⟩
  rw [← hargs] at C0 ⊢
  have C0 : Cx p s m args meth c RX5 cX5_atom 3 none := C0
  obtain ⟨Q, hQ⟩ : ∃ z, z = MQ below ((PV G SC ad [2, 3, 16] ws0 (fun u => (xso SC ad u = (f_X5_atom_5 (xso SC ad ws0) a1.toInt).1))) A) args s 0 0 A := ⟨_, rfl⟩
  rw [← hQ]
  obtain ⟨FT, hFT⟩ : ∃ z, z = f_X5_atom_5 (xso SC ad ws0) a1.toInt := ⟨_, rfl⟩
  have HE : FT = f_X5_atom_5 (xso SC ad ws0) a1.toInt := hFT
  refine lv_aload_n C0.1 C0.2.1 dX5_atom_0 rfl (lv_at hl 0 rfl) ?_
  refine tg_X5_kind C0 h kSC_77 q_374 dX5_atom_1 (fun v_1 e_2 e_3 e_4 => ?_)
  refine y_c1 (n := 2) C0 (by decide) dX5_atom_4 (fun v_5 e_6 => ?_)
  replace HE : FT = g1b_X5_atom_5 (xso SC ad ws0) v_1.toInt := HE.trans (by rw [(xg0 e_2 : v_1.toInt = (xso SC ad ws0) 0 77 4)]; rfl)
  refine y_icmp_ne (tgt := 26) C0 dX5_atom_5 (by decide) (fun c_7 => ?_) (fun c_7 => ?_)
  · -- 5
    replace HE : FT = g2_X5_atom_5 (xso SC ad ws0) := HE.trans (if_neg (o24_6 e_6 c_7))
    refine lv_aload_n C0.1 C0.2.1 dX5_atom_26 rfl (lv_at hl 0 rfl) ?_
    refine tg_X5_kind C0 h kSC_77 q_374 dX5_atom_27 (fun v_8 e_9 e_10 e_11 => ?_)
    have qh_12 : v_8.toInt = v_1.toInt := congrArg Int32.toInt (e_9.symm.trans (Eq.trans rfl e_2))
    refine y_c2 (n := 40) C0 (by decide) dX5_atom_30 (fun v_13 e_14 => ?_)
    replace HE : FT = g4b_X5_atom_5 (xso SC ad ws0) v_8.toInt := HE.trans (by rw [(xg0 e_9 : v_8.toInt = (xso SC ad ws0) 0 77 4)]; rfl)
    refine y_icmp_ne (tgt := 63) C0 dX5_atom_32 (by decide) (fun c_15 => ?_) (fun c_15 => ?_)
    · -- 32
      replace HE : FT = g5_X5_atom_5 (xso SC ad ws0) := HE.trans (if_neg (o24_9 e_6 c_7 qh_12 e_14 c_15))
      refine lv_aload_n C0.1 C0.2.1 dX5_atom_63 rfl (lv_at hl 0 rfl) ?_
      refine va_ldcS C0.1 C0.2.1 C0.2.2.2.1 (sr_12 hZ) dX5_atom_64 ?_
      refine y_ci h (y_rV (As := [.ref (Z.2.1 12)]) (rest := []) C0 hZ h (c_X5_isWord l G Z ad _ h.2 12 (by decide)) k_X5_isWord q_724 q_5 q_722 kSC_77 rfl rfl rfl hl.1 rfl rfl (Nat.le_of_ble_eq_true rfl) dX5_atom_66 ⟨Nat.le_of_ble_eq_true rfl, Nat.le_of_ble_eq_true rfl⟩ ⟨Nat.le_of_ble_eq_true rfl, Nat.le_of_ble_eq_true rfl⟩) (fun r_19 H locs ws_16 h u_17 p_18 => ?_)
      obtain ⟨e_20, e_21, e_22, e_23⟩ := p_18
      replace HE : FT = g7c_X5_atom_5 (xso SC ad ws_16) r_19.toInt := HE.trans (by rw [e_20, e_21]; rfl)
      replace HE : FT = g8b_X5_atom_5 (xso SC ad ws_16) r_19.toInt := HE.trans rfl
      refine y_if_eq (tgt := 78) C0 dX5_atom_69 (by decide) (fun c_24 => ?_) (fun c_24 => ?_)
      · -- 69
        replace HE : FT = g9_X5_atom_5 (xso SC ad ws_16) := HE.trans (if_pos c_24)
        refine lv_aload_n C0.1 C0.2.1 dX5_atom_78 rfl (lv_at hl 0 rfl) ?_
        refine va_ldcS C0.1 C0.2.1 C0.2.2.2.1 (sr_13 hZ) dX5_atom_79 ?_
        refine y_ci h (y_rV (As := [.ref (Z.2.1 13)]) (rest := []) C0 hZ h (c_X5_isWord l G Z ad _ h.2 13 (by decide)) k_X5_isWord q_724 q_5 q_722 kSC_77 rfl rfl rfl hl.1 rfl rfl (Nat.le_of_ble_eq_true rfl) dX5_atom_81 ⟨Nat.le_of_ble_eq_true rfl, Nat.le_of_ble_eq_true rfl⟩ ⟨Nat.le_of_ble_eq_true rfl, Nat.le_of_ble_eq_true rfl⟩) (fun r_28 H locs ws_25 h u_26 p_27 => ?_)
        obtain ⟨e_29, e_30, e_31, e_32⟩ := p_27
        replace HE : FT = g11c_X5_atom_5 (xso SC ad ws_25) r_28.toInt := HE.trans (by rw [e_29, e_30]; rfl)
        replace HE : FT = g12b_X5_atom_5 (xso SC ad ws_25) r_28.toInt := HE.trans rfl
        refine y_if_eq (tgt := 93) C0 dX5_atom_84 (by decide) (fun c_33 => ?_) (fun c_33 => ?_)
        · -- 84
          replace HE : FT = g13_X5_atom_5 (xso SC ad ws_25) := HE.trans (if_pos c_33)
          refine lv_aload_n C0.1 C0.2.1 dX5_atom_93 rfl (lv_at hl 0 rfl) ?_
          refine va_ldcS C0.1 C0.2.1 C0.2.2.2.1 (sr_14 hZ) dX5_atom_94 ?_
          refine y_ci h (y_rV (As := [.ref (Z.2.1 14)]) (rest := []) C0 hZ h (c_X5_isWord l G Z ad _ h.2 14 (by decide)) k_X5_isWord q_724 q_5 q_722 kSC_77 rfl rfl rfl hl.1 rfl rfl (Nat.le_of_ble_eq_true rfl) dX5_atom_96 ⟨Nat.le_of_ble_eq_true rfl, Nat.le_of_ble_eq_true rfl⟩ ⟨Nat.le_of_ble_eq_true rfl, Nat.le_of_ble_eq_true rfl⟩) (fun r_37 H locs ws_34 h u_35 p_36 => ?_)
          obtain ⟨e_38, e_39, e_40, e_41⟩ := p_36
          replace HE : FT = g15c_X5_atom_5 (xso SC ad ws_34) r_37.toInt := HE.trans (by rw [e_38, e_39]; rfl)
          replace HE : FT = g16b_X5_atom_5 (xso SC ad ws_34) r_37.toInt := HE.trans rfl
          refine y_if_eq (tgt := 108) C0 dX5_atom_99 (by decide) (fun c_42 => ?_) (fun c_42 => ?_)
          · -- 99
            replace HE : FT = g17_X5_atom_5 (xso SC ad ws_34) := HE.trans (if_pos c_42)
            refine lv_aload_n C0.1 C0.2.1 dX5_atom_108 rfl (lv_at hl 0 rfl) ?_
            refine va_ldcS C0.1 C0.2.1 C0.2.2.2.1 (sr_15 hZ) dX5_atom_109 ?_
            refine y_ci h (y_rV (As := [.ref (Z.2.1 15)]) (rest := []) C0 hZ h (c_X5_isWord l G Z ad _ h.2 15 (by decide)) k_X5_isWord q_724 q_5 q_722 kSC_77 rfl rfl rfl hl.1 rfl rfl (Nat.le_of_ble_eq_true rfl) dX5_atom_111 ⟨Nat.le_of_ble_eq_true rfl, Nat.le_of_ble_eq_true rfl⟩ ⟨Nat.le_of_ble_eq_true rfl, Nat.le_of_ble_eq_true rfl⟩) (fun r_46 H locs ws_43 h u_44 p_45 => ?_)
            obtain ⟨e_47, e_48, e_49, e_50⟩ := p_45
            replace HE : FT = g19c_X5_atom_5 (xso SC ad ws_43) r_46.toInt := HE.trans (by rw [e_47, e_48]; rfl)
            replace HE : FT = g20b_X5_atom_5 (xso SC ad ws_43) r_46.toInt := HE.trans rfl
            refine y_if_eq (tgt := 123) C0 dX5_atom_114 (by decide) (fun c_51 => ?_) (fun c_51 => ?_)
            · -- 114
              replace HE : FT = g21_X5_atom_5 (xso SC ad ws_43) := HE.trans (if_pos c_51)
              refine lv_aload_n C0.1 C0.2.1 dX5_atom_123 rfl (lv_at hl 0 rfl) ?_
              refine va_ldcS C0.1 C0.2.1 C0.2.2.2.1 (sr_16 hZ) dX5_atom_124 ?_
              refine y_ci h (y_rV (As := [.ref (Z.2.1 16)]) (rest := []) C0 hZ h (c_X5_isWord l G Z ad _ h.2 16 (by decide)) k_X5_isWord q_724 q_5 q_722 kSC_77 rfl rfl rfl hl.1 rfl rfl (Nat.le_of_ble_eq_true rfl) dX5_atom_126 ⟨Nat.le_of_ble_eq_true rfl, Nat.le_of_ble_eq_true rfl⟩ ⟨Nat.le_of_ble_eq_true rfl, Nat.le_of_ble_eq_true rfl⟩) (fun r_55 H locs ws_52 h u_53 p_54 => ?_)
              obtain ⟨e_56, e_57, e_58, e_59⟩ := p_54
              replace HE : FT = g23c_X5_atom_5 (xso SC ad ws_52) r_55.toInt := HE.trans (by rw [e_56, e_57]; rfl)
              replace HE : FT = g24b_X5_atom_5 (xso SC ad ws_52) r_55.toInt := HE.trans rfl
              refine y_if_eq (tgt := 138) C0 dX5_atom_129 (by decide) (fun c_60 => ?_) (fun c_60 => ?_)
              · -- 129
                replace HE : FT = g25_X5_atom_5 (xso SC ad ws_52) := HE.trans (if_pos c_60)
                refine lv_aload_n C0.1 C0.2.1 dX5_atom_138 rfl (lv_at hl 0 rfl) ?_
                refine va_ldcS C0.1 C0.2.1 C0.2.2.2.1 (sr_17 hZ) dX5_atom_139 ?_
                refine y_ci h (y_rV (As := [.ref (Z.2.1 17)]) (rest := []) C0 hZ h (c_X5_isWord l G Z ad _ h.2 17 (by decide)) k_X5_isWord q_724 q_5 q_722 kSC_77 rfl rfl rfl hl.1 rfl rfl (Nat.le_of_ble_eq_true rfl) dX5_atom_141 ⟨Nat.le_of_ble_eq_true rfl, Nat.le_of_ble_eq_true rfl⟩ ⟨Nat.le_of_ble_eq_true rfl, Nat.le_of_ble_eq_true rfl⟩) (fun r_64 H locs ws_61 h u_62 p_63 => ?_)
                obtain ⟨e_65, e_66, e_67, e_68⟩ := p_63
                replace HE : FT = g27c_X5_atom_5 (xso SC ad ws_61) r_64.toInt := HE.trans (by rw [e_65, e_66]; rfl)
                replace HE : FT = g28b_X5_atom_5 (xso SC ad ws_61) r_64.toInt := HE.trans rfl
                refine y_if_eq (tgt := 153) C0 dX5_atom_144 (by decide) (fun c_69 => ?_) (fun c_69 => ?_)
                · -- 144
                  replace HE : FT = g29_X5_atom_5 (xso SC ad ws_61) := HE.trans (if_pos c_69)
                  refine y_c1 (n := (-1)) C0 (by decide) dX5_atom_153 (fun v_70 e_71 => ?_)
                  refine lv_istore_n (lv' := [(2, .int v_70), (0, .ref (ad 77)), (1, .int a1)]) C0.1 C0.2.1 dX5_atom_154 rfl hl (by decide) rfl (fun ls hl => ?_)
                  refine lv_iload_n C0.1 C0.2.1 dX5_atom_155 rfl (lv_at hl 0 rfl) ?_
                  refine y_if_ge (tgt := 165) C0 dX5_atom_156 (by decide) (fun c_72 => ((o24_11 e_71 c_72)).elim) (fun c_72 => ?_)
                  refine lv_aload_n C0.1 C0.2.1 dX5_atom_159 rfl (lv_at hl 1 rfl) ?_
                  refine y_c1 (n := 2) C0 (by decide) dX5_atom_160 (fun v_73 e_74 => ?_)
                  refine y_cv h (y_rV (As := [.int v_73]) (rest := []) C0 hZ h (c_X5_fail l G Z ad _ h.2 v_73) k_X5_fail q_628 q_3 q_626 kSC_77 rfl rfl rfl hl.1 rfl rfl (Nat.le_of_ble_eq_true rfl) dX5_atom_161 ⟨Nat.le_of_ble_eq_true rfl, Nat.le_of_ble_eq_true rfl⟩ ⟨Nat.le_of_ble_eq_true rfl, Nat.le_of_ble_eq_true rfl⟩) (fun H locs ws_75 h u_76 p_77 => ?_)
                  have e_78 := p_77
                  replace HE : FT = g31c_X5_atom_5 (xso SC ad ws_75) := HE.trans (by rw [e_78, e_74]; rfl)
                  replace HE : FT = ((xso SC ad ws_75), 0) := HE.trans rfl
                  rw [hQ]
                  exact y_vret C0 h (Fr.tr (Fr.tr (Fr.tr (Fr.tr (Fr.tr (Fr.tr (Fr.mono u_17 (by decide)) (Fr.mono u_26 (by decide))) (Fr.mono u_35 (by decide))) (Fr.mono u_44 (by decide))) (Fr.mono u_53 (by decide))) (Fr.mono u_62 (by decide))) (Fr.mono u_76 (by decide))) (congrArg Prod.fst (HE.symm.trans hFT)) dX5_atom_164
                · -- 144
                  replace HE : FT = g30_X5_atom_5 (xso SC ad ws_61) := HE.trans (if_neg c_69)
                  refine y_c3 (n := 1005) C0 (by decide) dX5_atom_147 (fun v_79 e_80 => ?_)
                  refine lv_goto (tgt := 154) C0.1 C0.2.1 dX5_atom_150 (by decide) ?_
                  refine lv_istore_n (lv' := [(2, .int v_79), (0, .ref (ad 77)), (1, .int a1)]) C0.1 C0.2.1 dX5_atom_154 rfl hl (by decide) rfl (fun ls hl => ?_)
                  refine lv_iload_n C0.1 C0.2.1 dX5_atom_155 rfl (lv_at hl 0 rfl) ?_
                  refine y_if_ge (tgt := 165) C0 dX5_atom_156 (by decide) (fun c_81 => ?_) (fun c_81 => ((o24_12 e_80 c_81)).elim)
                  refine lv_aload_n C0.1 C0.2.1 dX5_atom_165 rfl (lv_at hl 1 rfl) ?_
                  refine tg_X5_law C0 h kSC_77 q_380 dX5_atom_166 (fun i_82 hi_82 ei_82 => ?_)
                  refine lv_iload_n C0.1 C0.2.1 dX5_atom_169 rfl (lv_at hl 0 rfl) ?_
                  refine y_cv h (y_rV (As := [.int v_79]) (rest := []) C0 hZ h (c_X4_add l G Z ad _ h.2 i_82 hi_82 v_79) k_X4_add q_827 q_828 q_826 hi_82 rfl rfl rfl hl.1 rfl rfl (Nat.le_of_ble_eq_true rfl) dX5_atom_170 ⟨Nat.le_of_ble_eq_true rfl, Nat.le_of_ble_eq_true rfl⟩ ⟨Nat.le_of_ble_eq_true rfl, Nat.le_of_ble_eq_true rfl⟩) (fun H locs ws_83 h u_84 p_85 => ?_)
                  have e_86 := p_85
                  replace HE : FT = g32c_X5_atom_5 (xso SC ad ws_83) := HE.trans (by rw [e_86, e_80, ei_82]; rfl)
                  refine lv_aload_n C0.1 C0.2.1 dX5_atom_173 rfl (lv_at hl 1 rfl) ?_
                  refine y_cv h (y_rV (As := []) (rest := []) C0 hZ h (c_X5_advance l G Z ad _ h.2) k_X5_advance q_616 q_0 q_614 kSC_77 rfl rfl rfl hl.1 rfl rfl (Nat.le_of_ble_eq_true rfl) dX5_atom_174 ⟨Nat.le_of_ble_eq_true rfl, Nat.le_of_ble_eq_true rfl⟩ ⟨Nat.le_of_ble_eq_true rfl, Nat.le_of_ble_eq_true rfl⟩) (fun H locs ws_87 h u_88 p_89 => ?_)
                  have e_90 := p_89
                  replace HE : FT = g33c_X5_atom_5 (xso SC ad ws_87) := HE.trans (by rw [e_90]; rfl)
                  replace HE : FT = ((xso SC ad ws_87), 0) := HE.trans rfl
                  rw [hQ]
                  exact y_vret C0 h (Fr.tr (Fr.tr (Fr.tr (Fr.tr (Fr.tr (Fr.tr (Fr.tr (Fr.mono u_17 (by decide)) (Fr.mono u_26 (by decide))) (Fr.mono u_35 (by decide))) (Fr.mono u_44 (by decide))) (Fr.mono u_53 (by decide))) (Fr.mono u_62 (by decide))) (Fr.mono u_84 (by decide))) (Fr.mono u_88 (by decide))) (congrArg Prod.fst (HE.symm.trans hFT)) dX5_atom_177
              · -- 129
                replace HE : FT = g26_X5_atom_5 (xso SC ad ws_52) := HE.trans (if_neg c_60)
                refine y_c3 (n := 1004) C0 (by decide) dX5_atom_132 (fun v_91 e_92 => ?_)
                refine lv_goto (tgt := 154) C0.1 C0.2.1 dX5_atom_135 (by decide) ?_
                refine lv_istore_n (lv' := [(2, .int v_91), (0, .ref (ad 77)), (1, .int a1)]) C0.1 C0.2.1 dX5_atom_154 rfl hl (by decide) rfl (fun ls hl => ?_)
                refine lv_iload_n C0.1 C0.2.1 dX5_atom_155 rfl (lv_at hl 0 rfl) ?_
                refine y_if_ge (tgt := 165) C0 dX5_atom_156 (by decide) (fun c_93 => ?_) (fun c_93 => ((o24_13 e_92 c_93)).elim)
                refine lv_aload_n C0.1 C0.2.1 dX5_atom_165 rfl (lv_at hl 1 rfl) ?_
                refine tg_X5_law C0 h kSC_77 q_380 dX5_atom_166 (fun i_94 hi_94 ei_94 => ?_)
                refine lv_iload_n C0.1 C0.2.1 dX5_atom_169 rfl (lv_at hl 0 rfl) ?_
                refine y_cv h (y_rV (As := [.int v_91]) (rest := []) C0 hZ h (c_X4_add l G Z ad _ h.2 i_94 hi_94 v_91) k_X4_add q_827 q_828 q_826 hi_94 rfl rfl rfl hl.1 rfl rfl (Nat.le_of_ble_eq_true rfl) dX5_atom_170 ⟨Nat.le_of_ble_eq_true rfl, Nat.le_of_ble_eq_true rfl⟩ ⟨Nat.le_of_ble_eq_true rfl, Nat.le_of_ble_eq_true rfl⟩) (fun H locs ws_95 h u_96 p_97 => ?_)
                have e_98 := p_97
                replace HE : FT = g34c_X5_atom_5 (xso SC ad ws_95) := HE.trans (by rw [e_98, e_92, ei_94]; rfl)
                refine lv_aload_n C0.1 C0.2.1 dX5_atom_173 rfl (lv_at hl 1 rfl) ?_
                refine y_cv h (y_rV (As := []) (rest := []) C0 hZ h (c_X5_advance l G Z ad _ h.2) k_X5_advance q_616 q_0 q_614 kSC_77 rfl rfl rfl hl.1 rfl rfl (Nat.le_of_ble_eq_true rfl) dX5_atom_174 ⟨Nat.le_of_ble_eq_true rfl, Nat.le_of_ble_eq_true rfl⟩ ⟨Nat.le_of_ble_eq_true rfl, Nat.le_of_ble_eq_true rfl⟩) (fun H locs ws_99 h u_100 p_101 => ?_)
                have e_102 := p_101
                replace HE : FT = g35c_X5_atom_5 (xso SC ad ws_99) := HE.trans (by rw [e_102]; rfl)
                replace HE : FT = ((xso SC ad ws_99), 0) := HE.trans rfl
                rw [hQ]
                exact y_vret C0 h (Fr.tr (Fr.tr (Fr.tr (Fr.tr (Fr.tr (Fr.tr (Fr.mono u_17 (by decide)) (Fr.mono u_26 (by decide))) (Fr.mono u_35 (by decide))) (Fr.mono u_44 (by decide))) (Fr.mono u_53 (by decide))) (Fr.mono u_96 (by decide))) (Fr.mono u_100 (by decide))) (congrArg Prod.fst (HE.symm.trans hFT)) dX5_atom_177
            · -- 114
              replace HE : FT = g22_X5_atom_5 (xso SC ad ws_43) := HE.trans (if_neg c_51)
              refine y_c3 (n := 1003) C0 (by decide) dX5_atom_117 (fun v_103 e_104 => ?_)
              refine lv_goto (tgt := 154) C0.1 C0.2.1 dX5_atom_120 (by decide) ?_
              refine lv_istore_n (lv' := [(2, .int v_103), (0, .ref (ad 77)), (1, .int a1)]) C0.1 C0.2.1 dX5_atom_154 rfl hl (by decide) rfl (fun ls hl => ?_)
              refine lv_iload_n C0.1 C0.2.1 dX5_atom_155 rfl (lv_at hl 0 rfl) ?_
              refine y_if_ge (tgt := 165) C0 dX5_atom_156 (by decide) (fun c_105 => ?_) (fun c_105 => ((o24_14 e_104 c_105)).elim)
              refine lv_aload_n C0.1 C0.2.1 dX5_atom_165 rfl (lv_at hl 1 rfl) ?_
              refine tg_X5_law C0 h kSC_77 q_380 dX5_atom_166 (fun i_106 hi_106 ei_106 => ?_)
              refine lv_iload_n C0.1 C0.2.1 dX5_atom_169 rfl (lv_at hl 0 rfl) ?_
              refine y_cv h (y_rV (As := [.int v_103]) (rest := []) C0 hZ h (c_X4_add l G Z ad _ h.2 i_106 hi_106 v_103) k_X4_add q_827 q_828 q_826 hi_106 rfl rfl rfl hl.1 rfl rfl (Nat.le_of_ble_eq_true rfl) dX5_atom_170 ⟨Nat.le_of_ble_eq_true rfl, Nat.le_of_ble_eq_true rfl⟩ ⟨Nat.le_of_ble_eq_true rfl, Nat.le_of_ble_eq_true rfl⟩) (fun H locs ws_107 h u_108 p_109 => ?_)
              have e_110 := p_109
              replace HE : FT = g36c_X5_atom_5 (xso SC ad ws_107) := HE.trans (by rw [e_110, e_104, ei_106]; rfl)
              refine lv_aload_n C0.1 C0.2.1 dX5_atom_173 rfl (lv_at hl 1 rfl) ?_
              refine y_cv h (y_rV (As := []) (rest := []) C0 hZ h (c_X5_advance l G Z ad _ h.2) k_X5_advance q_616 q_0 q_614 kSC_77 rfl rfl rfl hl.1 rfl rfl (Nat.le_of_ble_eq_true rfl) dX5_atom_174 ⟨Nat.le_of_ble_eq_true rfl, Nat.le_of_ble_eq_true rfl⟩ ⟨Nat.le_of_ble_eq_true rfl, Nat.le_of_ble_eq_true rfl⟩) (fun H locs ws_111 h u_112 p_113 => ?_)
              have e_114 := p_113
              replace HE : FT = g37c_X5_atom_5 (xso SC ad ws_111) := HE.trans (by rw [e_114]; rfl)
              replace HE : FT = ((xso SC ad ws_111), 0) := HE.trans rfl
              rw [hQ]
              exact y_vret C0 h (Fr.tr (Fr.tr (Fr.tr (Fr.tr (Fr.tr (Fr.mono u_17 (by decide)) (Fr.mono u_26 (by decide))) (Fr.mono u_35 (by decide))) (Fr.mono u_44 (by decide))) (Fr.mono u_108 (by decide))) (Fr.mono u_112 (by decide))) (congrArg Prod.fst (HE.symm.trans hFT)) dX5_atom_177
          · -- 99
            replace HE : FT = g18_X5_atom_5 (xso SC ad ws_34) := HE.trans (if_neg c_42)
            refine y_c3 (n := 1002) C0 (by decide) dX5_atom_102 (fun v_115 e_116 => ?_)
            refine lv_goto (tgt := 154) C0.1 C0.2.1 dX5_atom_105 (by decide) ?_
            refine lv_istore_n (lv' := [(2, .int v_115), (0, .ref (ad 77)), (1, .int a1)]) C0.1 C0.2.1 dX5_atom_154 rfl hl (by decide) rfl (fun ls hl => ?_)
            refine lv_iload_n C0.1 C0.2.1 dX5_atom_155 rfl (lv_at hl 0 rfl) ?_
            refine y_if_ge (tgt := 165) C0 dX5_atom_156 (by decide) (fun c_117 => ?_) (fun c_117 => ((o24_15 e_116 c_117)).elim)
            refine lv_aload_n C0.1 C0.2.1 dX5_atom_165 rfl (lv_at hl 1 rfl) ?_
            refine tg_X5_law C0 h kSC_77 q_380 dX5_atom_166 (fun i_118 hi_118 ei_118 => ?_)
            refine lv_iload_n C0.1 C0.2.1 dX5_atom_169 rfl (lv_at hl 0 rfl) ?_
            refine y_cv h (y_rV (As := [.int v_115]) (rest := []) C0 hZ h (c_X4_add l G Z ad _ h.2 i_118 hi_118 v_115) k_X4_add q_827 q_828 q_826 hi_118 rfl rfl rfl hl.1 rfl rfl (Nat.le_of_ble_eq_true rfl) dX5_atom_170 ⟨Nat.le_of_ble_eq_true rfl, Nat.le_of_ble_eq_true rfl⟩ ⟨Nat.le_of_ble_eq_true rfl, Nat.le_of_ble_eq_true rfl⟩) (fun H locs ws_119 h u_120 p_121 => ?_)
            have e_122 := p_121
            replace HE : FT = g38c_X5_atom_5 (xso SC ad ws_119) := HE.trans (by rw [e_122, e_116, ei_118]; rfl)
            refine lv_aload_n C0.1 C0.2.1 dX5_atom_173 rfl (lv_at hl 1 rfl) ?_
            refine y_cv h (y_rV (As := []) (rest := []) C0 hZ h (c_X5_advance l G Z ad _ h.2) k_X5_advance q_616 q_0 q_614 kSC_77 rfl rfl rfl hl.1 rfl rfl (Nat.le_of_ble_eq_true rfl) dX5_atom_174 ⟨Nat.le_of_ble_eq_true rfl, Nat.le_of_ble_eq_true rfl⟩ ⟨Nat.le_of_ble_eq_true rfl, Nat.le_of_ble_eq_true rfl⟩) (fun H locs ws_123 h u_124 p_125 => ?_)
            have e_126 := p_125
            replace HE : FT = g39c_X5_atom_5 (xso SC ad ws_123) := HE.trans (by rw [e_126]; rfl)
            replace HE : FT = ((xso SC ad ws_123), 0) := HE.trans rfl
            rw [hQ]
            exact y_vret C0 h (Fr.tr (Fr.tr (Fr.tr (Fr.tr (Fr.mono u_17 (by decide)) (Fr.mono u_26 (by decide))) (Fr.mono u_35 (by decide))) (Fr.mono u_120 (by decide))) (Fr.mono u_124 (by decide))) (congrArg Prod.fst (HE.symm.trans hFT)) dX5_atom_177
        · -- 84
          replace HE : FT = g14_X5_atom_5 (xso SC ad ws_25) := HE.trans (if_neg c_33)
          refine y_c3 (n := 1001) C0 (by decide) dX5_atom_87 (fun v_127 e_128 => ?_)
          refine lv_goto (tgt := 154) C0.1 C0.2.1 dX5_atom_90 (by decide) ?_
          refine lv_istore_n (lv' := [(2, .int v_127), (0, .ref (ad 77)), (1, .int a1)]) C0.1 C0.2.1 dX5_atom_154 rfl hl (by decide) rfl (fun ls hl => ?_)
          refine lv_iload_n C0.1 C0.2.1 dX5_atom_155 rfl (lv_at hl 0 rfl) ?_
          refine y_if_ge (tgt := 165) C0 dX5_atom_156 (by decide) (fun c_129 => ?_) (fun c_129 => ((o24_16 e_128 c_129)).elim)
          refine lv_aload_n C0.1 C0.2.1 dX5_atom_165 rfl (lv_at hl 1 rfl) ?_
          refine tg_X5_law C0 h kSC_77 q_380 dX5_atom_166 (fun i_130 hi_130 ei_130 => ?_)
          refine lv_iload_n C0.1 C0.2.1 dX5_atom_169 rfl (lv_at hl 0 rfl) ?_
          refine y_cv h (y_rV (As := [.int v_127]) (rest := []) C0 hZ h (c_X4_add l G Z ad _ h.2 i_130 hi_130 v_127) k_X4_add q_827 q_828 q_826 hi_130 rfl rfl rfl hl.1 rfl rfl (Nat.le_of_ble_eq_true rfl) dX5_atom_170 ⟨Nat.le_of_ble_eq_true rfl, Nat.le_of_ble_eq_true rfl⟩ ⟨Nat.le_of_ble_eq_true rfl, Nat.le_of_ble_eq_true rfl⟩) (fun H locs ws_131 h u_132 p_133 => ?_)
          have e_134 := p_133
          replace HE : FT = g40c_X5_atom_5 (xso SC ad ws_131) := HE.trans (by rw [e_134, e_128, ei_130]; rfl)
          refine lv_aload_n C0.1 C0.2.1 dX5_atom_173 rfl (lv_at hl 1 rfl) ?_
          refine y_cv h (y_rV (As := []) (rest := []) C0 hZ h (c_X5_advance l G Z ad _ h.2) k_X5_advance q_616 q_0 q_614 kSC_77 rfl rfl rfl hl.1 rfl rfl (Nat.le_of_ble_eq_true rfl) dX5_atom_174 ⟨Nat.le_of_ble_eq_true rfl, Nat.le_of_ble_eq_true rfl⟩ ⟨Nat.le_of_ble_eq_true rfl, Nat.le_of_ble_eq_true rfl⟩) (fun H locs ws_135 h u_136 p_137 => ?_)
          have e_138 := p_137
          replace HE : FT = g41c_X5_atom_5 (xso SC ad ws_135) := HE.trans (by rw [e_138]; rfl)
          replace HE : FT = ((xso SC ad ws_135), 0) := HE.trans rfl
          rw [hQ]
          exact y_vret C0 h (Fr.tr (Fr.tr (Fr.tr (Fr.mono u_17 (by decide)) (Fr.mono u_26 (by decide))) (Fr.mono u_132 (by decide))) (Fr.mono u_136 (by decide))) (congrArg Prod.fst (HE.symm.trans hFT)) dX5_atom_177
      · -- 69
        replace HE : FT = g10_X5_atom_5 (xso SC ad ws_16) := HE.trans (if_neg c_24)
        refine y_c3 (n := 1000) C0 (by decide) dX5_atom_72 (fun v_139 e_140 => ?_)
        refine lv_goto (tgt := 154) C0.1 C0.2.1 dX5_atom_75 (by decide) ?_
        refine lv_istore_n (lv' := [(2, .int v_139), (0, .ref (ad 77)), (1, .int a1)]) C0.1 C0.2.1 dX5_atom_154 rfl hl (by decide) rfl (fun ls hl => ?_)
        refine lv_iload_n C0.1 C0.2.1 dX5_atom_155 rfl (lv_at hl 0 rfl) ?_
        refine y_if_ge (tgt := 165) C0 dX5_atom_156 (by decide) (fun c_141 => ?_) (fun c_141 => ((o24_17 e_140 c_141)).elim)
        refine lv_aload_n C0.1 C0.2.1 dX5_atom_165 rfl (lv_at hl 1 rfl) ?_
        refine tg_X5_law C0 h kSC_77 q_380 dX5_atom_166 (fun i_142 hi_142 ei_142 => ?_)
        refine lv_iload_n C0.1 C0.2.1 dX5_atom_169 rfl (lv_at hl 0 rfl) ?_
        refine y_cv h (y_rV (As := [.int v_139]) (rest := []) C0 hZ h (c_X4_add l G Z ad _ h.2 i_142 hi_142 v_139) k_X4_add q_827 q_828 q_826 hi_142 rfl rfl rfl hl.1 rfl rfl (Nat.le_of_ble_eq_true rfl) dX5_atom_170 ⟨Nat.le_of_ble_eq_true rfl, Nat.le_of_ble_eq_true rfl⟩ ⟨Nat.le_of_ble_eq_true rfl, Nat.le_of_ble_eq_true rfl⟩) (fun H locs ws_143 h u_144 p_145 => ?_)
        have e_146 := p_145
        replace HE : FT = g42c_X5_atom_5 (xso SC ad ws_143) := HE.trans (by rw [e_146, e_140, ei_142]; rfl)
        refine lv_aload_n C0.1 C0.2.1 dX5_atom_173 rfl (lv_at hl 1 rfl) ?_
        refine y_cv h (y_rV (As := []) (rest := []) C0 hZ h (c_X5_advance l G Z ad _ h.2) k_X5_advance q_616 q_0 q_614 kSC_77 rfl rfl rfl hl.1 rfl rfl (Nat.le_of_ble_eq_true rfl) dX5_atom_174 ⟨Nat.le_of_ble_eq_true rfl, Nat.le_of_ble_eq_true rfl⟩ ⟨Nat.le_of_ble_eq_true rfl, Nat.le_of_ble_eq_true rfl⟩) (fun H locs ws_147 h u_148 p_149 => ?_)
        have e_150 := p_149
        replace HE : FT = g43c_X5_atom_5 (xso SC ad ws_147) := HE.trans (by rw [e_150]; rfl)
        replace HE : FT = ((xso SC ad ws_147), 0) := HE.trans rfl
        rw [hQ]
        exact y_vret C0 h (Fr.tr (Fr.tr (Fr.mono u_17 (by decide)) (Fr.mono u_144 (by decide))) (Fr.mono u_148 (by decide))) (congrArg Prod.fst (HE.symm.trans hFT)) dX5_atom_177
    · -- 32
      replace HE : FT = g6_X5_atom_5 (xso SC ad ws0) := HE.trans (if_pos (o24_10 e_6 c_7 qh_12 e_14 c_15))
      refine lv_aload_n C0.1 C0.2.1 dX5_atom_35 rfl (lv_at hl 0 rfl) ?_
      refine lv_iload_n C0.1 C0.2.1 dX5_atom_36 rfl (lv_at hl 1 rfl) ?_
      refine y_ci h (y_rV (As := [.int a1]) (rest := []) C0 hZ h (c_X5_tooDeep_5 l G Z ad _ h.2 a1 (o24_68 l1 u1) (o24_69 l1 u1)) k_X5_tooDeep q_832 q_18 q_830 kSC_77 rfl rfl rfl hl.1 rfl rfl (Nat.le_of_ble_eq_true rfl) dX5_atom_37 ⟨Nat.le_of_ble_eq_true rfl, Nat.le_of_ble_eq_true rfl⟩ ⟨Nat.le_of_ble_eq_true rfl, Nat.le_of_ble_eq_true rfl⟩) (fun r_154 H locs ws_151 h u_152 p_153 => ?_)
      obtain ⟨e_155, e_156, e_157, e_158⟩ := p_153
      replace HE : FT = g44c_X5_atom_5 (xso SC ad ws_151) := HE.trans (by rw [e_155, (o24_70 l1 u1)]; rfl)
      refine y_if_ne (tgt := 177) C0 dX5_atom_40 (by decide) (fun c_159 => ((o24_71 e_157 e_158 c_159)).elim) (fun c_159 => ?_)
      refine lv_aload_n C0.1 C0.2.1 dX5_atom_43 rfl (lv_at hl 0 rfl) ?_
      refine y_cv h (y_rV (As := []) (rest := []) C0 hZ h (c_X5_advance l G Z ad _ h.2) k_X5_advance q_616 q_0 q_614 kSC_77 rfl rfl rfl hl.1 rfl rfl (Nat.le_of_ble_eq_true rfl) dX5_atom_44 ⟨Nat.le_of_ble_eq_true rfl, Nat.le_of_ble_eq_true rfl⟩ ⟨Nat.le_of_ble_eq_true rfl, Nat.le_of_ble_eq_true rfl⟩) (fun H locs ws_160 h u_161 p_162 => ?_)
      have e_163 := p_162
      replace HE : FT = g45c_X5_atom_5 (xso SC ad ws_160) := HE.trans (by rw [e_163]; rfl)
      refine lv_aload_n C0.1 C0.2.1 dX5_atom_47 rfl (lv_at hl 0 rfl) ?_
      refine lv_iload_n C0.1 C0.2.1 dX5_atom_48 rfl (lv_at hl 1 rfl) ?_
      refine y_c1 (n := 1) C0 (by decide) dX5_atom_49 (fun v_164 e_165 => ?_)
      refine y_add C0 (o24_72 l1 u1 e_165 (le_min a1) (le_max a1) (le_min v_164) (le_max v_164)) (o24_73 l1 u1 e_165 (le_min a1) (le_max a1) (le_min v_164) (le_max v_164)) dX5_atom_50 (fun v_166 e_167 => ?_)
      refine y_cv h (y_rV (As := [.int v_166]) (rest := []) C0 hZ h (c_X5_sum_6 l G Z ad _ h.2 v_166 (o24_74 l1 u1 e_165 e_167) (o24_75 l1 u1 e_165 e_167)) k_X5_sum q_816 q_15 q_814 kSC_77 rfl rfl rfl hl.1 rfl rfl (Nat.le_of_ble_eq_true rfl) dX5_atom_51 ⟨Nat.le_of_ble_eq_true rfl, Nat.le_of_ble_eq_true rfl⟩ ⟨Nat.le_of_ble_eq_true rfl, Nat.le_of_ble_eq_true rfl⟩) (fun H locs ws_168 h u_169 p_170 => ?_)
      have e_171 := p_170
      replace HE : FT = g46c_X5_atom_5 (xso SC ad ws_168) := HE.trans (by rw [e_171, e_167, e_165, (o24_76 l1 u1 e_165 e_167)]; rfl)
      refine lv_aload_n C0.1 C0.2.1 dX5_atom_54 rfl (lv_at hl 0 rfl) ?_
      refine y_c2 (n := 41) C0 (by decide) dX5_atom_55 (fun v_172 e_173 => ?_)
      refine y_cv h (y_rV (As := [.int v_172]) (rest := []) C0 hZ h (c_X5_sign l G Z ad _ h.2 v_172 (o24_77 e_173) (o24_78 e_173)) k_X5_sign q_812 q_14 q_810 kSC_77 rfl rfl rfl hl.1 rfl rfl (Nat.le_of_ble_eq_true rfl) dX5_atom_57 ⟨Nat.le_of_ble_eq_true rfl, Nat.le_of_ble_eq_true rfl⟩ ⟨Nat.le_of_ble_eq_true rfl, Nat.le_of_ble_eq_true rfl⟩) (fun H locs ws_174 h u_175 p_176 => ?_)
      have e_177 := p_176
      replace HE : FT = g47c_X5_atom_5 (xso SC ad ws_174) := HE.trans (by rw [e_177, e_173]; rfl)
      refine lv_goto (tgt := 177) C0.1 C0.2.1 dX5_atom_60 (by decide) ?_
      replace HE : FT = ((xso SC ad ws_174), 0) := HE.trans rfl
      rw [hQ]
      exact y_vret C0 h (Fr.tr (Fr.tr (Fr.tr (Fr.mono u_152 (by decide)) (Fr.mono u_161 (by decide))) u_169) (Fr.mono u_175 (by decide))) (congrArg Prod.fst (HE.symm.trans hFT)) dX5_atom_177
  · -- 5
    replace HE : FT = g3_X5_atom_5 (xso SC ad ws0) := HE.trans (if_pos (o24_7 e_6 c_7))
    refine lv_aload_n C0.1 C0.2.1 dX5_atom_8 rfl (lv_at hl 0 rfl) ?_
    refine tg_X5_law C0 h kSC_77 q_380 dX5_atom_9 (fun i_178 hi_178 ei_178 => ?_)
    refine lv_aload_n C0.1 C0.2.1 dX5_atom_12 rfl (lv_at hl 0 rfl) ?_
    refine tg_X5_number C0 h kSC_77 q_377 dX5_atom_13 (fun v_179 e_180 e_181 e_182 => ?_)
    refine y_cv h (y_rV (As := [.int v_179]) (rest := []) C0 hZ h (c_X4_add l G Z ad _ h.2 i_178 hi_178 v_179) k_X4_add q_827 q_828 q_826 hi_178 rfl rfl rfl hl.1 rfl rfl (Nat.le_of_ble_eq_true rfl) dX5_atom_16 ⟨Nat.le_of_ble_eq_true rfl, Nat.le_of_ble_eq_true rfl⟩ ⟨Nat.le_of_ble_eq_true rfl, Nat.le_of_ble_eq_true rfl⟩) (fun H locs ws_183 h u_184 p_185 => ?_)
    have e_186 := p_185
    replace HE : FT = g48c_X5_atom_5 (xso SC ad ws_183) := HE.trans (by rw [e_186, (xg0 e_180 : v_179.toInt = (xso SC ad ws0) 0 77 7), ei_178]; rfl)
    refine lv_aload_n C0.1 C0.2.1 dX5_atom_19 rfl (lv_at hl 0 rfl) ?_
    refine y_cv h (y_rV (As := []) (rest := []) C0 hZ h (c_X5_advance l G Z ad _ h.2) k_X5_advance q_616 q_0 q_614 kSC_77 rfl rfl rfl hl.1 rfl rfl (Nat.le_of_ble_eq_true rfl) dX5_atom_20 ⟨Nat.le_of_ble_eq_true rfl, Nat.le_of_ble_eq_true rfl⟩ ⟨Nat.le_of_ble_eq_true rfl, Nat.le_of_ble_eq_true rfl⟩) (fun H locs ws_187 h u_188 p_189 => ?_)
    have e_190 := p_189
    replace HE : FT = g49c_X5_atom_5 (xso SC ad ws_187) := HE.trans (by rw [e_190]; rfl)
    refine lv_goto (tgt := 177) C0.1 C0.2.1 dX5_atom_23 (by decide) ?_
    replace HE : FT = ((xso SC ad ws_187), 0) := HE.trans rfl
    rw [hQ]
    exact y_vret C0 h (Fr.tr (Fr.mono u_184 (by decide)) (Fr.mono u_188 (by decide))) (congrArg Prod.fst (HE.symm.trans hFT)) dX5_atom_177
noncomputable def g5_X5_term_5 (s : XS) : XR := (s, 0)
noncomputable def g8_X5_term_5 (s : XS) : XR := (s, 0)
noncomputable def g12c_X5_term_5 (R7 : XS → Int → XR) (s : XS) (x2_7 : Int) : XR := R7 s ((x2_7 + 1))
noncomputable def g11c_X5_term_5 (R7 : XS → Int → XR) (s : XS) (x2_7 : Int) : XR := g12c_X5_term_5 R7 ((f_X4_add s (Int.toNat (s 3 77 10)) 2002).1) x2_7
noncomputable def g10c_X5_term_5 (R7 : XS → Int → XR) (s : XS) (x2_7 : Int) : XR := g11c_X5_term_5 R7 ((f_X5_atom_5 s 5).1) x2_7
noncomputable def g9_X5_term_5 (R7 : XS → Int → XR) (s : XS) (x2_7 : Int) : XR := g10c_X5_term_5 R7 ((f_X5_advance s).1) x2_7
noncomputable def g7b_X5_term_5 (R7 : XS → Int → XR) (s : XS) (v_19 : Int) (x2_7 : Int) : XR := if v_19 = 42 then g9_X5_term_5 R7 s x2_7 else g8_X5_term_5 s
noncomputable def g6_X5_term_5 (R7 : XS → Int → XR) (s : XS) (x2_7 : Int) : XR := g7b_X5_term_5 R7 s ((s 0 77 4)) x2_7
noncomputable def g4b_X5_term_5 (R7 : XS → Int → XR) (s : XS) (x2_7 : Int) : XR := if x2_7 < 900 then g6_X5_term_5 R7 s x2_7 else g5_X5_term_5 s
noncomputable def g3l_X5_term_5 (R7 : XS → Int → XR) (s : XS) (x2_7 : Int) : XR := g4b_X5_term_5 R7 s x2_7
noncomputable def L2_X5_term_5 (n : Nat) : XS → Int → XR := Nat.rec (motive := fun _ => XS → Int → XR) (fun s _ => (s, 0)) (fun _ R7 => g3l_X5_term_5 R7) n
noncomputable def g1c_X5_term_5 (s : XS) : XR := L2_X5_term_5 (Int.toNat (900 - 0 + 1)) s 0
noncomputable def f_X5_term_5 (s : XS) (a1 : Int) : XR := g1c_X5_term_5 ((f_X5_atom_5 s a1).1)
set_option maxHeartbeats 4000000 in
set_option maxRecDepth 100000 in
theorem c_X5_term_5 (l : Launch) (G : GG) (Z : RZ) (ad : Nat → Nat) (ws0 : va_W) (hT : Ty G SC ad ws0) (a1 : Int32) (l1 : 5 ≤ a1.toInt) (u1 : a1.toInt ≤ 5) : Mq l yX5_term cX5_term 3 none 10 G Z [.ref (ad 77), .int a1] ws0 (PV G SC ad [2, 3, 16] ws0 (fun u => (xso SC ad u = (f_X5_term_5 (xso SC ad ws0) a1.toInt).1))) := by
  refine Mq.start (by decide) (Nat.le_of_ble_eq_true rfl) ?_
  intro p e s m below meth c A ls C0 hZ h hl
  have hl : lv_has ls 3 [(0, .ref (ad 77)), (1, .int a1)] := hl
  have h : Wt G SC ad A s s.heap [] ws0 := ⟨h, hT⟩
  obtain ⟨args, hargs⟩ : ∃ z, z = ([.ref (ad 77), .int a1] : List Value).toArray := ⟨_, rfl⟩
  rw [← hargs] at C0 ⊢
  have C0 : Cx p s m args meth c RX5 cX5_term 3 none := C0
  obtain ⟨Q, hQ⟩ : ∃ z, z = MQ below ((PV G SC ad [2, 3, 16] ws0 (fun u => (xso SC ad u = (f_X5_term_5 (xso SC ad ws0) a1.toInt).1))) A) args s 0 0 A := ⟨_, rfl⟩
  rw [← hQ]
  obtain ⟨FT, hFT⟩ : ∃ z, z = f_X5_term_5 (xso SC ad ws0) a1.toInt := ⟨_, rfl⟩
  have HE : FT = f_X5_term_5 (xso SC ad ws0) a1.toInt := hFT
  refine lv_aload_n C0.1 C0.2.1 dX5_term_0 rfl (lv_at hl 0 rfl) ?_
  refine lv_iload_n C0.1 C0.2.1 dX5_term_1 rfl (lv_at hl 1 rfl) ?_
  refine y_cv h (y_rV (As := [.int a1]) (rest := []) C0 hZ h (c_X5_atom_5 l G Z ad _ h.2 a1 (o24_68 l1 u1) (o24_69 l1 u1)) k_X5_atom q_824 q_17 q_822 kSC_77 rfl rfl rfl hl.1 rfl rfl (Nat.le_of_ble_eq_true rfl) dX5_term_2 ⟨Nat.le_of_ble_eq_true rfl, Nat.le_of_ble_eq_true rfl⟩ ⟨Nat.le_of_ble_eq_true rfl, Nat.le_of_ble_eq_true rfl⟩) (fun H locs ws_1 h u_2 p_3 => ?_)
  have e_4 := p_3
  replace HE : FT = g1c_X5_term_5 (xso SC ad ws_1) := HE.trans (by rw [e_4]; rfl)
  refine y_c1 (n := 0) C0 (by decide) dX5_term_5 (fun v_5 e_6 => ?_)
  refine lv_istore_n (lv' := [(2, .int v_5), (0, .ref (ad 77)), (1, .int a1)]) C0.1 C0.2.1 dX5_term_6 rfl hl (by decide) rfl (fun ls hl => ?_)
  have lp_10 : ∀ (n_12 : Nat) (x2_7 : Int32) (H : Heap) (locs : List Loc) (ls : Array Slot) (ws_8 : va_W), 900 - x2_7.toInt < (n_12 : Int) → 0 ≤ x2_7.toInt → x2_7.toInt ≤ 900 → (FT = L2_X5_term_5 n_12 (xso SC ad ws_8) x2_7.toInt) → Wt G SC ad A s H locs ws_8 → Fr SC [2, 3, 16] ws_1 ws_8 → lv_has ls 3 [(2, .int x2_7), (0, .ref (ad 77)), (1, .int a1)] → W p l e (rmd 10 0 0) s m args below meth c H locs 0 0 Q (F0 m 7 ls []) := by
    intro n_12
    induction n_12 with
    | zero => intro x2_7 H locs ls ws_8 hn_13 b_14 b_15 HE h hF_9 hl; exact ((o24_22 b_14 b_15 hn_13)).elim
    | succ n_12 ih_11 =>
      intro x2_7 H locs ls ws_8 hn_13 b_14 b_15 HE h hF_9 hl
      obtain ⟨R7, hR7⟩ : ∃ z, z = L2_X5_term_5 n_12 := ⟨_, rfl⟩
      replace HE : FT = g3l_X5_term_5 R7 (xso SC ad ws_8) x2_7.toInt := HE.trans (by rw [hR7]; rfl)
      refine lv_iload_n C0.1 C0.2.1 dX5_term_7 rfl (lv_at hl 0 rfl) ?_
      refine y_c3 (n := 900) C0 (by decide) dX5_term_8 (fun v_16 e_17 => ?_)
      replace HE : FT = g4b_X5_term_5 R7 (xso SC ad ws_8) x2_7.toInt := HE.trans rfl
      refine y_icmp_ge (tgt := 48) C0 dX5_term_11 (by decide) (fun c_18 => ?_) (fun c_18 => ?_)
      · -- 11
        replace HE : FT = g5_X5_term_5 (xso SC ad ws_8) := HE.trans (if_neg (o24_24 b_14 b_15 hn_13 e_17 c_18))
        replace HE : FT = ((xso SC ad ws_8), 0) := HE.trans rfl
        rw [hQ]
        exact y_vret C0 h (Fr.tr u_2 hF_9) (congrArg Prod.fst (HE.symm.trans hFT)) dX5_term_48
      · -- 11
        replace HE : FT = g6_X5_term_5 R7 (xso SC ad ws_8) x2_7.toInt := HE.trans (if_pos (o24_25 b_14 b_15 hn_13 e_17 c_18))
        refine lv_aload_n C0.1 C0.2.1 dX5_term_14 rfl (lv_at hl 1 rfl) ?_
        refine tg_X5_kind C0 h kSC_77 q_374 dX5_term_15 (fun v_19 e_20 e_21 e_22 => ?_)
        refine y_c2 (n := 42) C0 (by decide) dX5_term_18 (fun v_23 e_24 => ?_)
        replace HE : FT = g7b_X5_term_5 R7 (xso SC ad ws_8) v_19.toInt x2_7.toInt := HE.trans (by rw [(xg0 e_20 : v_19.toInt = (xso SC ad ws_8) 0 77 4)]; rfl)
        refine y_icmp_ne (tgt := 48) C0 dX5_term_20 (by decide) (fun c_25 => ?_) (fun c_25 => ?_)
        · -- 20
          replace HE : FT = g8_X5_term_5 (xso SC ad ws_8) := HE.trans (if_neg (o24_27 e_24 c_25))
          replace HE : FT = ((xso SC ad ws_8), 0) := HE.trans rfl
          rw [hQ]
          exact y_vret C0 h (Fr.tr u_2 hF_9) (congrArg Prod.fst (HE.symm.trans hFT)) dX5_term_48
        · -- 20
          replace HE : FT = g9_X5_term_5 R7 (xso SC ad ws_8) x2_7.toInt := HE.trans (if_pos (o24_28 e_24 c_25))
          refine lv_aload_n C0.1 C0.2.1 dX5_term_23 rfl (lv_at hl 1 rfl) ?_
          refine y_cv h (y_rV (As := []) (rest := []) C0 hZ h (c_X5_advance l G Z ad _ h.2) k_X5_advance q_616 q_0 q_614 kSC_77 rfl rfl rfl hl.1 rfl rfl (Nat.le_of_ble_eq_true rfl) dX5_term_24 ⟨Nat.le_of_ble_eq_true rfl, Nat.le_of_ble_eq_true rfl⟩ ⟨Nat.le_of_ble_eq_true rfl, Nat.le_of_ble_eq_true rfl⟩) (fun H locs ws_26 h u_27 p_28 => ?_)
          have e_29 := p_28
          replace HE : FT = g10c_X5_term_5 R7 (xso SC ad ws_26) x2_7.toInt := HE.trans (by rw [e_29]; rfl)
          refine lv_aload_n C0.1 C0.2.1 dX5_term_27 rfl (lv_at hl 1 rfl) ?_
          refine lv_iload_n C0.1 C0.2.1 dX5_term_28 rfl (lv_at hl 2 rfl) ?_
          refine y_cv h (y_rV (As := [.int a1]) (rest := []) C0 hZ h (c_X5_atom_5 l G Z ad _ h.2 a1 (o24_68 l1 u1) (o24_69 l1 u1)) k_X5_atom q_824 q_17 q_822 kSC_77 rfl rfl rfl hl.1 rfl rfl (Nat.le_of_ble_eq_true rfl) dX5_term_29 ⟨Nat.le_of_ble_eq_true rfl, Nat.le_of_ble_eq_true rfl⟩ ⟨Nat.le_of_ble_eq_true rfl, Nat.le_of_ble_eq_true rfl⟩) (fun H locs ws_30 h u_31 p_32 => ?_)
          have e_33 := p_32
          replace HE : FT = g11c_X5_term_5 R7 (xso SC ad ws_30) x2_7.toInt := HE.trans (by rw [e_33, (o24_70 l1 u1)]; rfl)
          refine lv_aload_n C0.1 C0.2.1 dX5_term_32 rfl (lv_at hl 1 rfl) ?_
          refine tg_X5_law C0 h kSC_77 q_380 dX5_term_33 (fun i_34 hi_34 ei_34 => ?_)
          refine y_c3 (n := 2002) C0 (by decide) dX5_term_36 (fun v_35 e_36 => ?_)
          refine y_cv h (y_rV (As := [.int v_35]) (rest := []) C0 hZ h (c_X4_add l G Z ad _ h.2 i_34 hi_34 v_35) k_X4_add q_827 q_828 q_826 hi_34 rfl rfl rfl hl.1 rfl rfl (Nat.le_of_ble_eq_true rfl) dX5_term_39 ⟨Nat.le_of_ble_eq_true rfl, Nat.le_of_ble_eq_true rfl⟩ ⟨Nat.le_of_ble_eq_true rfl, Nat.le_of_ble_eq_true rfl⟩) (fun H locs ws_37 h u_38 p_39 => ?_)
          have e_40 := p_39
          replace HE : FT = g12c_X5_term_5 R7 (xso SC ad ws_37) x2_7.toInt := HE.trans (by rw [e_40, e_36, ei_34]; rfl)
          refine y_inc (kp := 0) (n := 1) (fun v_41 => [(2, .int v_41), (0, .ref (ad 77)), (1, .int a1)]) C0 hl rfl (by decide) (by decide) (fun _ => rfl) (o24_29 b_14 b_15 hn_13 e_17 c_18 (le_min x2_7) (le_max x2_7) (le_min v_16) (le_max v_16)) (o24_30 b_14 b_15 hn_13 e_17 c_18 (le_min x2_7) (le_max x2_7) (le_min v_16) (le_max v_16)) dX5_term_42 (fun v_41 ls e_42 hl => ?_)
          refine lv_goto (tgt := 7) C0.1 C0.2.1 dX5_term_45 (by decide) ?_
          exact ih_11 v_41 _ _ _ _ (o24_31 b_14 b_15 hn_13 e_17 c_18 e_42) (o24_32 b_14 b_15 hn_13 e_17 c_18 e_42) (o24_33 b_14 b_15 hn_13 e_17 c_18 e_42) (((show FT = R7 (xso SC ad ws_37) v_41.toInt from HE.trans (by rw [e_42]; rfl)).trans (by rw [hR7]))) h (Fr.tr (Fr.tr (Fr.tr hF_9 (Fr.mono u_27 (by decide))) u_31) (Fr.mono u_38 (by decide))) (lv_sub hl [0, 1, 2] rfl)
  exact lp_10 ((900 - v_5.toInt + 1).toNat) v_5 _ _ _ _ (o24_34 e_6) (o24_35 e_6) (o24_36 e_6) ((show FT = L2_X5_term_5 (Int.toNat (900 - v_5.toInt + 1)) (xso SC ad ws_1) v_5.toInt from HE.trans (by rw [e_6]; rfl))) h Fr.rf (lv_sub hl [0, 1, 2] rfl)
noncomputable def g5_X5_sum_5 (s : XS) : XR := (s, 0)
noncomputable def g12c_X5_sum_5 (R7 : XS → Int → XR) (s : XS) (x2_7 : Int) : XR := R7 s ((x2_7 + 1))
noncomputable def g11c_X5_sum_5 (R7 : XS → Int → XR) (s : XS) (x2_7 : Int) : XR := g12c_X5_sum_5 R7 ((f_X4_add s (Int.toNat (s 3 77 10)) 2000).1) x2_7
noncomputable def g10c_X5_sum_5 (R7 : XS → Int → XR) (s : XS) (x2_7 : Int) : XR := g11c_X5_sum_5 R7 ((f_X5_term_5 s 5).1) x2_7
noncomputable def g8_X5_sum_5 (R7 : XS → Int → XR) (s : XS) (x2_7 : Int) : XR := g10c_X5_sum_5 R7 ((f_X5_advance s).1) x2_7
noncomputable def g14_X5_sum_5 (s : XS) : XR := (s, 0)
noncomputable def g18c_X5_sum_5 (R7 : XS → Int → XR) (s : XS) (x2_7 : Int) : XR := R7 s ((x2_7 + 1))
noncomputable def g17c_X5_sum_5 (R7 : XS → Int → XR) (s : XS) (x2_7 : Int) : XR := g18c_X5_sum_5 R7 ((f_X4_add s (Int.toNat (s 3 77 10)) 2001).1) x2_7
noncomputable def g16c_X5_sum_5 (R7 : XS → Int → XR) (s : XS) (x2_7 : Int) : XR := g17c_X5_sum_5 R7 ((f_X5_term_5 s 5).1) x2_7
noncomputable def g15_X5_sum_5 (R7 : XS → Int → XR) (s : XS) (x2_7 : Int) : XR := g16c_X5_sum_5 R7 ((f_X5_advance s).1) x2_7
noncomputable def g13b_X5_sum_5 (R7 : XS → Int → XR) (s : XS) (v_51 : Int) (x2_7 : Int) : XR := if v_51 = 45 then g15_X5_sum_5 R7 s x2_7 else g14_X5_sum_5 s
noncomputable def g9_X5_sum_5 (R7 : XS → Int → XR) (s : XS) (x2_7 : Int) : XR := g13b_X5_sum_5 R7 s ((s 0 77 4)) x2_7
noncomputable def g7b_X5_sum_5 (R7 : XS → Int → XR) (s : XS) (v_19 : Int) (x2_7 : Int) : XR := if v_19 = 43 then g8_X5_sum_5 R7 s x2_7 else g9_X5_sum_5 R7 s x2_7
noncomputable def g6_X5_sum_5 (R7 : XS → Int → XR) (s : XS) (x2_7 : Int) : XR := g7b_X5_sum_5 R7 s ((s 0 77 4)) x2_7
noncomputable def g4b_X5_sum_5 (R7 : XS → Int → XR) (s : XS) (x2_7 : Int) : XR := if x2_7 < 900 then g6_X5_sum_5 R7 s x2_7 else g5_X5_sum_5 s
noncomputable def g3l_X5_sum_5 (R7 : XS → Int → XR) (s : XS) (x2_7 : Int) : XR := g4b_X5_sum_5 R7 s x2_7
noncomputable def L2_X5_sum_5 (n : Nat) : XS → Int → XR := Nat.rec (motive := fun _ => XS → Int → XR) (fun s _ => (s, 0)) (fun _ R7 => g3l_X5_sum_5 R7) n
noncomputable def g1c_X5_sum_5 (s : XS) : XR := L2_X5_sum_5 (Int.toNat (900 - 0 + 1)) s 0
noncomputable def f_X5_sum_5 (s : XS) (a1 : Int) : XR := g1c_X5_sum_5 ((f_X5_term_5 s a1).1)
set_option maxHeartbeats 4000000 in
set_option maxRecDepth 100000 in
theorem c_X5_sum_5 (l : Launch) (G : GG) (Z : RZ) (ad : Nat → Nat) (ws0 : va_W) (hT : Ty G SC ad ws0) (a1 : Int32) (l1 : 5 ≤ a1.toInt) (u1 : a1.toInt ≤ 5) : Mq l yX5_sum cX5_sum 4 none 11 G Z [.ref (ad 77), .int a1] ws0 (PV G SC ad [2, 3, 16] ws0 (fun u => (xso SC ad u = (f_X5_sum_5 (xso SC ad ws0) a1.toInt).1))) := by
  refine Mq.start (by decide) (Nat.le_of_ble_eq_true rfl) ?_
  intro p e s m below meth c A ls C0 hZ h hl
  have hl : lv_has ls 4 [(0, .ref (ad 77)), (1, .int a1)] := hl
  have h : Wt G SC ad A s s.heap [] ws0 := ⟨h, hT⟩
  obtain ⟨args, hargs⟩ : ∃ z, z = ([.ref (ad 77), .int a1] : List Value).toArray := ⟨_, rfl⟩
  rw [← hargs] at C0 ⊢
  have C0 : Cx p s m args meth c RX5 cX5_sum 4 none := C0
  obtain ⟨Q, hQ⟩ : ∃ z, z = MQ below ((PV G SC ad [2, 3, 16] ws0 (fun u => (xso SC ad u = (f_X5_sum_5 (xso SC ad ws0) a1.toInt).1))) A) args s 0 0 A := ⟨_, rfl⟩
  rw [← hQ]
  obtain ⟨FT, hFT⟩ : ∃ z, z = f_X5_sum_5 (xso SC ad ws0) a1.toInt := ⟨_, rfl⟩
  have HE : FT = f_X5_sum_5 (xso SC ad ws0) a1.toInt := hFT
  refine lv_aload_n C0.1 C0.2.1 dX5_sum_0 rfl (lv_at hl 0 rfl) ?_
  refine lv_iload_n C0.1 C0.2.1 dX5_sum_1 rfl (lv_at hl 1 rfl) ?_
  refine y_cv h (y_rV (As := [.int a1]) (rest := []) C0 hZ h (c_X5_term_5 l G Z ad _ h.2 a1 (o24_68 l1 u1) (o24_69 l1 u1)) k_X5_term q_820 q_16 q_818 kSC_77 rfl rfl rfl hl.1 rfl rfl (Nat.le_of_ble_eq_true rfl) dX5_sum_2 ⟨Nat.le_of_ble_eq_true rfl, Nat.le_of_ble_eq_true rfl⟩ ⟨Nat.le_of_ble_eq_true rfl, Nat.le_of_ble_eq_true rfl⟩) (fun H locs ws_1 h u_2 p_3 => ?_)
  have e_4 := p_3
  replace HE : FT = g1c_X5_sum_5 (xso SC ad ws_1) := HE.trans (by rw [e_4]; rfl)
  refine y_c1 (n := 0) C0 (by decide) dX5_sum_5 (fun v_5 e_6 => ?_)
  refine lv_istore_n (lv' := [(2, .int v_5), (0, .ref (ad 77)), (1, .int a1)]) C0.1 C0.2.1 dX5_sum_6 rfl hl (by decide) rfl (fun ls hl => ?_)
  have lp_10 : ∀ (n_12 : Nat) (x2_7 : Int32) (H : Heap) (locs : List Loc) (ls : Array Slot) (ws_8 : va_W), 900 - x2_7.toInt < (n_12 : Int) → 0 ≤ x2_7.toInt → x2_7.toInt ≤ 900 → (FT = L2_X5_sum_5 n_12 (xso SC ad ws_8) x2_7.toInt) → Wt G SC ad A s H locs ws_8 → Fr SC [2, 3, 16] ws_1 ws_8 → lv_has ls 4 [(2, .int x2_7), (0, .ref (ad 77)), (1, .int a1)] → W p l e (rmd 11 0 0) s m args below meth c H locs 0 0 Q (F0 m 7 ls []) := by
    intro n_12
    induction n_12 with
    | zero => intro x2_7 H locs ls ws_8 hn_13 b_14 b_15 HE h hF_9 hl; exact ((o24_22 b_14 b_15 hn_13)).elim
    | succ n_12 ih_11 =>
      intro x2_7 H locs ls ws_8 hn_13 b_14 b_15 HE h hF_9 hl
      obtain ⟨R7, hR7⟩ : ∃ z, z = L2_X5_sum_5 n_12 := ⟨_, rfl⟩
      replace HE : FT = g3l_X5_sum_5 R7 (xso SC ad ws_8) x2_7.toInt := HE.trans (by rw [hR7]; rfl)
      refine lv_iload_n C0.1 C0.2.1 dX5_sum_7 rfl (lv_at hl 0 rfl) ?_
      refine y_c3 (n := 900) C0 (by decide) dX5_sum_8 (fun v_16 e_17 => ?_)
      replace HE : FT = g4b_X5_sum_5 R7 (xso SC ad ws_8) x2_7.toInt := HE.trans rfl
      refine y_icmp_ge (tgt := 74) C0 dX5_sum_11 (by decide) (fun c_18 => ?_) (fun c_18 => ?_)
      · -- 11
        replace HE : FT = g5_X5_sum_5 (xso SC ad ws_8) := HE.trans (if_neg (o24_24 b_14 b_15 hn_13 e_17 c_18))
        replace HE : FT = ((xso SC ad ws_8), 0) := HE.trans rfl
        rw [hQ]
        exact y_vret C0 h (Fr.tr u_2 hF_9) (congrArg Prod.fst (HE.symm.trans hFT)) dX5_sum_74
      · -- 11
        replace HE : FT = g6_X5_sum_5 R7 (xso SC ad ws_8) x2_7.toInt := HE.trans (if_pos (o24_25 b_14 b_15 hn_13 e_17 c_18))
        refine lv_aload_n C0.1 C0.2.1 dX5_sum_14 rfl (lv_at hl 1 rfl) ?_
        refine tg_X5_kind C0 h kSC_77 q_374 dX5_sum_15 (fun v_19 e_20 e_21 e_22 => ?_)
        refine y_c2 (n := 43) C0 (by decide) dX5_sum_18 (fun v_23 e_24 => ?_)
        replace HE : FT = g7b_X5_sum_5 R7 (xso SC ad ws_8) v_19.toInt x2_7.toInt := HE.trans (by rw [(xg0 e_20 : v_19.toInt = (xso SC ad ws_8) 0 77 4)]; rfl)
        refine y_icmp_eq (tgt := 32) C0 dX5_sum_20 (by decide) (fun c_25 => ?_) (fun c_25 => ?_)
        · -- 20
          replace HE : FT = g8_X5_sum_5 R7 (xso SC ad ws_8) x2_7.toInt := HE.trans (if_pos (o24_38 e_24 c_25))
          refine lv_aload_n C0.1 C0.2.1 dX5_sum_32 rfl (lv_at hl 1 rfl) ?_
          refine tg_X5_kind C0 h kSC_77 q_374 dX5_sum_33 (fun v_26 e_27 e_28 e_29 => ?_)
          have qh_30 : v_26.toInt = v_19.toInt := congrArg Int32.toInt (e_27.symm.trans (Eq.trans rfl e_20))
          refine y_c2 (n := 43) C0 (by decide) dX5_sum_36 (fun v_31 e_32 => ?_)
          refine y_icmp_ne (tgt := 47) C0 dX5_sum_38 (by decide) (fun c_33 => ((o24_40 e_24 c_25 qh_30 e_32 c_33)).elim) (fun c_33 => ?_)
          refine y_c3 (n := 2000) C0 (by decide) dX5_sum_41 (fun v_34 e_35 => ?_)
          refine lv_goto (tgt := 50) C0.1 C0.2.1 dX5_sum_44 (by decide) ?_
          refine lv_istore_n (lv' := [(3, .int v_34), (2, .int x2_7), (0, .ref (ad 77)), (1, .int a1)]) C0.1 C0.2.1 dX5_sum_50 rfl hl (by decide) rfl (fun ls hl => ?_)
          refine lv_aload_n C0.1 C0.2.1 dX5_sum_51 rfl (lv_at hl 2 rfl) ?_
          refine y_cv h (y_rV (As := []) (rest := []) C0 hZ h (c_X5_advance l G Z ad _ h.2) k_X5_advance q_616 q_0 q_614 kSC_77 rfl rfl rfl hl.1 rfl rfl (Nat.le_of_ble_eq_true rfl) dX5_sum_52 ⟨Nat.le_of_ble_eq_true rfl, Nat.le_of_ble_eq_true rfl⟩ ⟨Nat.le_of_ble_eq_true rfl, Nat.le_of_ble_eq_true rfl⟩) (fun H locs ws_36 h u_37 p_38 => ?_)
          have e_39 := p_38
          replace HE : FT = g10c_X5_sum_5 R7 (xso SC ad ws_36) x2_7.toInt := HE.trans (by rw [e_39]; rfl)
          refine lv_aload_n C0.1 C0.2.1 dX5_sum_55 rfl (lv_at hl 2 rfl) ?_
          refine lv_iload_n C0.1 C0.2.1 dX5_sum_56 rfl (lv_at hl 3 rfl) ?_
          refine y_cv h (y_rV (As := [.int a1]) (rest := []) C0 hZ h (c_X5_term_5 l G Z ad _ h.2 a1 (o24_68 l1 u1) (o24_69 l1 u1)) k_X5_term q_820 q_16 q_818 kSC_77 rfl rfl rfl hl.1 rfl rfl (Nat.le_of_ble_eq_true rfl) dX5_sum_57 ⟨Nat.le_of_ble_eq_true rfl, Nat.le_of_ble_eq_true rfl⟩ ⟨Nat.le_of_ble_eq_true rfl, Nat.le_of_ble_eq_true rfl⟩) (fun H locs ws_40 h u_41 p_42 => ?_)
          have e_43 := p_42
          replace HE : FT = g11c_X5_sum_5 R7 (xso SC ad ws_40) x2_7.toInt := HE.trans (by rw [e_43, (o24_70 l1 u1)]; rfl)
          refine lv_aload_n C0.1 C0.2.1 dX5_sum_60 rfl (lv_at hl 2 rfl) ?_
          refine tg_X5_law C0 h kSC_77 q_380 dX5_sum_61 (fun i_44 hi_44 ei_44 => ?_)
          refine lv_iload_n C0.1 C0.2.1 dX5_sum_64 rfl (lv_at hl 0 rfl) ?_
          refine y_cv h (y_rV (As := [.int v_34]) (rest := []) C0 hZ h (c_X4_add l G Z ad _ h.2 i_44 hi_44 v_34) k_X4_add q_827 q_828 q_826 hi_44 rfl rfl rfl hl.1 rfl rfl (Nat.le_of_ble_eq_true rfl) dX5_sum_65 ⟨Nat.le_of_ble_eq_true rfl, Nat.le_of_ble_eq_true rfl⟩ ⟨Nat.le_of_ble_eq_true rfl, Nat.le_of_ble_eq_true rfl⟩) (fun H locs ws_45 h u_46 p_47 => ?_)
          have e_48 := p_47
          replace HE : FT = g12c_X5_sum_5 R7 (xso SC ad ws_45) x2_7.toInt := HE.trans (by rw [e_48, (o24_41 e_35), ei_44]; rfl)
          refine y_inc (kp := 1) (n := 1) (fun v_49 => [(2, .int v_49), (3, .int v_34), (0, .ref (ad 77)), (1, .int a1)]) C0 hl rfl (by decide) (by decide) (fun _ => rfl) (o24_29 b_14 b_15 hn_13 e_17 c_18 (le_min x2_7) (le_max x2_7) (le_min v_16) (le_max v_16)) (o24_30 b_14 b_15 hn_13 e_17 c_18 (le_min x2_7) (le_max x2_7) (le_min v_16) (le_max v_16)) dX5_sum_68 (fun v_49 ls e_50 hl => ?_)
          refine lv_goto (tgt := 7) C0.1 C0.2.1 dX5_sum_71 (by decide) ?_
          exact ih_11 v_49 _ _ _ _ (o24_31 b_14 b_15 hn_13 e_17 c_18 e_50) (o24_32 b_14 b_15 hn_13 e_17 c_18 e_50) (o24_33 b_14 b_15 hn_13 e_17 c_18 e_50) (((show FT = R7 (xso SC ad ws_45) v_49.toInt from HE.trans (by rw [e_50]; rfl)).trans (by rw [hR7]))) h (Fr.tr (Fr.tr (Fr.tr hF_9 (Fr.mono u_37 (by decide))) u_41) (Fr.mono u_46 (by decide))) (lv_sub hl [0, 2, 3] rfl)
        · -- 20
          replace HE : FT = g9_X5_sum_5 R7 (xso SC ad ws_8) x2_7.toInt := HE.trans (if_neg (o24_39 e_24 c_25))
          refine lv_aload_n C0.1 C0.2.1 dX5_sum_23 rfl (lv_at hl 1 rfl) ?_
          refine tg_X5_kind C0 h kSC_77 q_374 dX5_sum_24 (fun v_51 e_52 e_53 e_54 => ?_)
          have qh_55 : v_51.toInt = v_19.toInt := congrArg Int32.toInt (e_52.symm.trans (Eq.trans rfl e_20))
          refine y_c2 (n := 45) C0 (by decide) dX5_sum_27 (fun v_56 e_57 => ?_)
          replace HE : FT = g13b_X5_sum_5 R7 (xso SC ad ws_8) v_51.toInt x2_7.toInt := HE.trans (by rw [(xg0 e_52 : v_51.toInt = (xso SC ad ws_8) 0 77 4)]; rfl)
          refine y_icmp_ne (tgt := 74) C0 dX5_sum_29 (by decide) (fun c_58 => ?_) (fun c_58 => ?_)
          · -- 29
            replace HE : FT = g14_X5_sum_5 (xso SC ad ws_8) := HE.trans (if_neg (o24_43 e_24 c_25 qh_55 e_57 c_58))
            replace HE : FT = ((xso SC ad ws_8), 0) := HE.trans rfl
            rw [hQ]
            exact y_vret C0 h (Fr.tr u_2 hF_9) (congrArg Prod.fst (HE.symm.trans hFT)) dX5_sum_74
          · -- 29
            replace HE : FT = g15_X5_sum_5 R7 (xso SC ad ws_8) x2_7.toInt := HE.trans (if_pos (o24_44 e_24 c_25 qh_55 e_57 c_58))
            refine lv_aload_n C0.1 C0.2.1 dX5_sum_32 rfl (lv_at hl 1 rfl) ?_
            refine tg_X5_kind C0 h kSC_77 q_374 dX5_sum_33 (fun v_59 e_60 e_61 e_62 => ?_)
            have qh_63 : v_59.toInt = v_19.toInt := congrArg Int32.toInt (e_60.symm.trans (Eq.trans rfl e_20))
            refine y_c2 (n := 43) C0 (by decide) dX5_sum_36 (fun v_64 e_65 => ?_)
            refine y_icmp_ne (tgt := 47) C0 dX5_sum_38 (by decide) (fun c_66 => ?_) (fun c_66 => ((o24_45 e_24 c_25 qh_55 e_57 c_58 qh_63 e_65 c_66)).elim)
            refine y_c3 (n := 2001) C0 (by decide) dX5_sum_47 (fun v_67 e_68 => ?_)
            refine lv_istore_n (lv' := [(3, .int v_67), (2, .int x2_7), (0, .ref (ad 77)), (1, .int a1)]) C0.1 C0.2.1 dX5_sum_50 rfl hl (by decide) rfl (fun ls hl => ?_)
            refine lv_aload_n C0.1 C0.2.1 dX5_sum_51 rfl (lv_at hl 2 rfl) ?_
            refine y_cv h (y_rV (As := []) (rest := []) C0 hZ h (c_X5_advance l G Z ad _ h.2) k_X5_advance q_616 q_0 q_614 kSC_77 rfl rfl rfl hl.1 rfl rfl (Nat.le_of_ble_eq_true rfl) dX5_sum_52 ⟨Nat.le_of_ble_eq_true rfl, Nat.le_of_ble_eq_true rfl⟩ ⟨Nat.le_of_ble_eq_true rfl, Nat.le_of_ble_eq_true rfl⟩) (fun H locs ws_69 h u_70 p_71 => ?_)
            have e_72 := p_71
            replace HE : FT = g16c_X5_sum_5 R7 (xso SC ad ws_69) x2_7.toInt := HE.trans (by rw [e_72]; rfl)
            refine lv_aload_n C0.1 C0.2.1 dX5_sum_55 rfl (lv_at hl 2 rfl) ?_
            refine lv_iload_n C0.1 C0.2.1 dX5_sum_56 rfl (lv_at hl 3 rfl) ?_
            refine y_cv h (y_rV (As := [.int a1]) (rest := []) C0 hZ h (c_X5_term_5 l G Z ad _ h.2 a1 (o24_68 l1 u1) (o24_69 l1 u1)) k_X5_term q_820 q_16 q_818 kSC_77 rfl rfl rfl hl.1 rfl rfl (Nat.le_of_ble_eq_true rfl) dX5_sum_57 ⟨Nat.le_of_ble_eq_true rfl, Nat.le_of_ble_eq_true rfl⟩ ⟨Nat.le_of_ble_eq_true rfl, Nat.le_of_ble_eq_true rfl⟩) (fun H locs ws_73 h u_74 p_75 => ?_)
            have e_76 := p_75
            replace HE : FT = g17c_X5_sum_5 R7 (xso SC ad ws_73) x2_7.toInt := HE.trans (by rw [e_76, (o24_70 l1 u1)]; rfl)
            refine lv_aload_n C0.1 C0.2.1 dX5_sum_60 rfl (lv_at hl 2 rfl) ?_
            refine tg_X5_law C0 h kSC_77 q_380 dX5_sum_61 (fun i_77 hi_77 ei_77 => ?_)
            refine lv_iload_n C0.1 C0.2.1 dX5_sum_64 rfl (lv_at hl 0 rfl) ?_
            refine y_cv h (y_rV (As := [.int v_67]) (rest := []) C0 hZ h (c_X4_add l G Z ad _ h.2 i_77 hi_77 v_67) k_X4_add q_827 q_828 q_826 hi_77 rfl rfl rfl hl.1 rfl rfl (Nat.le_of_ble_eq_true rfl) dX5_sum_65 ⟨Nat.le_of_ble_eq_true rfl, Nat.le_of_ble_eq_true rfl⟩ ⟨Nat.le_of_ble_eq_true rfl, Nat.le_of_ble_eq_true rfl⟩) (fun H locs ws_78 h u_79 p_80 => ?_)
            have e_81 := p_80
            replace HE : FT = g18c_X5_sum_5 R7 (xso SC ad ws_78) x2_7.toInt := HE.trans (by rw [e_81, (o24_46 e_68), ei_77]; rfl)
            refine y_inc (kp := 1) (n := 1) (fun v_82 => [(2, .int v_82), (3, .int v_67), (0, .ref (ad 77)), (1, .int a1)]) C0 hl rfl (by decide) (by decide) (fun _ => rfl) (o24_29 b_14 b_15 hn_13 e_17 c_18 (le_min x2_7) (le_max x2_7) (le_min v_16) (le_max v_16)) (o24_30 b_14 b_15 hn_13 e_17 c_18 (le_min x2_7) (le_max x2_7) (le_min v_16) (le_max v_16)) dX5_sum_68 (fun v_82 ls e_83 hl => ?_)
            refine lv_goto (tgt := 7) C0.1 C0.2.1 dX5_sum_71 (by decide) ?_
            exact ih_11 v_82 _ _ _ _ (o24_31 b_14 b_15 hn_13 e_17 c_18 e_83) (o24_32 b_14 b_15 hn_13 e_17 c_18 e_83) (o24_33 b_14 b_15 hn_13 e_17 c_18 e_83) (((show FT = R7 (xso SC ad ws_78) v_82.toInt from HE.trans (by rw [e_83]; rfl)).trans (by rw [hR7]))) h (Fr.tr (Fr.tr (Fr.tr hF_9 (Fr.mono u_70 (by decide))) u_74) (Fr.mono u_79 (by decide))) (lv_sub hl [0, 2, 3] rfl)
  exact lp_10 ((900 - v_5.toInt + 1).toNat) v_5 _ _ _ _ (o24_34 e_6) (o24_35 e_6) (o24_36 e_6) ((show FT = L2_X5_sum_5 (Int.toNat (900 - v_5.toInt + 1)) (xso SC ad ws_1) v_5.toInt from HE.trans (by rw [e_6]; rfl))) h Fr.rf (lv_sub hl [0, 1, 2] rfl)
noncomputable def g18c_X5_unit_5 (s : XS) : XR := (s, 0)
noncomputable def g16_X5_unit_5 (s : XS) : XR := g18c_X5_unit_5 ((f_X5_fail s 2).1)
noncomputable def g21c_X5_unit_5 (s : XS) : XR := (s, 0)
noncomputable def g20c_X5_unit_5 (s : XS) : XR := g21c_X5_unit_5 ((f_X4_add s (Int.toNat (s 3 77 10)) 2005).1)
noncomputable def g19c_X5_unit_5 (s : XS) : XR := g20c_X5_unit_5 ((f_X5_sum_5 s 5).1)
noncomputable def g17_X5_unit_5 (s : XS) : XR := g19c_X5_unit_5 ((f_X5_advance s).1)
noncomputable def g15b_X5_unit_5 (s : XS) (v_36 : Int) : XR := if v_36 = 62 then g17_X5_unit_5 s else g16_X5_unit_5 s
noncomputable def g13_X5_unit_5 (s : XS) : XR := g15b_X5_unit_5 s ((s 0 77 4))
noncomputable def g24c_X5_unit_5 (s : XS) : XR := (s, 0)
noncomputable def g23c_X5_unit_5 (s : XS) : XR := g24c_X5_unit_5 ((f_X4_add s (Int.toNat (s 3 77 10)) 2004).1)
noncomputable def g22c_X5_unit_5 (s : XS) : XR := g23c_X5_unit_5 ((f_X5_sum_5 s 5).1)
noncomputable def g14_X5_unit_5 (s : XS) : XR := g22c_X5_unit_5 ((f_X5_advance s).1)
noncomputable def g12b_X5_unit_5 (s : XS) (v_28 : Int) : XR := if v_28 = 60 then g14_X5_unit_5 s else g13_X5_unit_5 s
noncomputable def g10_X5_unit_5 (s : XS) : XR := g12b_X5_unit_5 s ((s 0 77 4))
noncomputable def g27c_X5_unit_5 (s : XS) : XR := (s, 0)
noncomputable def g26c_X5_unit_5 (s : XS) : XR := g27c_X5_unit_5 ((f_X4_add s (Int.toNat (s 3 77 10)) 2003).1)
noncomputable def g25c_X5_unit_5 (s : XS) : XR := g26c_X5_unit_5 ((f_X5_sum_5 s 5).1)
noncomputable def g11_X5_unit_5 (s : XS) : XR := g25c_X5_unit_5 ((f_X5_advance s).1)
noncomputable def g9b_X5_unit_5 (s : XS) (v_21 : Int) : XR := if v_21 = 61 then g11_X5_unit_5 s else g10_X5_unit_5 s
noncomputable def g8c_X5_unit_5 (s : XS) : XR := g9b_X5_unit_5 s ((s 0 77 4))
noncomputable def g6_X5_unit_5 (s : XS) : XR := g8c_X5_unit_5 ((f_X5_sum_5 s 5).1)
noncomputable def g31c_X5_unit_5 (s : XS) : XR := (s, 0)
noncomputable def g30c_X5_unit_5 (s : XS) : XR := g31c_X5_unit_5 ((f_X5_sign s 93).1)
noncomputable def g29c_X5_unit_5 (s : XS) : XR := g30c_X5_unit_5 ((f_X5_truth_6 s (5 + 1)).1)
noncomputable def g28c_X5_unit_5 (s : XS) : XR := g29c_X5_unit_5 ((f_X5_advance s).1)
noncomputable def g7_X5_unit_5 (s : XS) : XR := g28c_X5_unit_5 ((f_X5_tooDeep_5 s 5).1)
noncomputable def g5b_X5_unit_5 (s : XS) (v_10 : Int) : XR := if v_10 = 91 then g7_X5_unit_5 s else g6_X5_unit_5 s
noncomputable def g3_X5_unit_5 (s : XS) : XR := g5b_X5_unit_5 s ((s 0 77 4))
noncomputable def g36c_X5_unit_5 (s : XS) : XR := (s, 0)
noncomputable def g35c_X5_unit_5 (s : XS) : XR := g36c_X5_unit_5 ((f_X4_add s (Int.toNat (s 3 77 10)) 2003).1)
noncomputable def g34c_X5_unit_5 (s : XS) : XR := g35c_X5_unit_5 ((f_X4_add s (Int.toNat (s 3 77 10)) 0).1)
noncomputable def g33c_X5_unit_5 (s : XS) : XR := g34c_X5_unit_5 ((f_X5_unit_6 s (5 + 1)).1)
noncomputable def g32c_X5_unit_5 (s : XS) : XR := g33c_X5_unit_5 ((f_X5_advance s).1)
noncomputable def g4_X5_unit_5 (s : XS) : XR := g32c_X5_unit_5 ((f_X5_tooDeep_5 s 5).1)
noncomputable def g2b_X5_unit_5 (s : XS) (r_4 : Int) : XR := if r_4 = 0 then g3_X5_unit_5 s else g4_X5_unit_5 s
noncomputable def g1c_X5_unit_5 (s : XS) (r_4 : Int) : XR := g2b_X5_unit_5 s r_4
noncomputable def f_X5_unit_5 (s : XS) (a1 : Int) : XR := g1c_X5_unit_5 ((f_X5_isWord s 19).1) (((f_X5_isWord s 19).2))
set_option maxHeartbeats 4000000 in
set_option maxRecDepth 100000 in
theorem c_X5_unit_5 (l : Launch) (G : GG) (Z : RZ) (ad : Nat → Nat) (ws0 : va_W) (hT : Ty G SC ad ws0) (a1 : Int32) (l1 : 5 ≤ a1.toInt) (u1 : a1.toInt ≤ 5) : Mq l yX5_unit cX5_unit 3 none 12 G Z [.ref (ad 77), .int a1] ws0 (PV G SC ad [2, 3, 16] ws0 (fun u => (xso SC ad u = (f_X5_unit_5 (xso SC ad ws0) a1.toInt).1))) := by
  refine Mq.start (by decide) (Nat.le_of_ble_eq_true rfl) ?_
  intro p e s m below meth c A ls C0 hZ h hl
  have hl : lv_has ls 3 [(0, .ref (ad 77)), (1, .int a1)] := hl
  have h : Wt G SC ad A s s.heap [] ws0 := ⟨h, hT⟩
  obtain ⟨args, hargs⟩ : ∃ z, z = ([.ref (ad 77), .int a1] : List Value).toArray := ⟨_, rfl⟩
  rw [← hargs] at C0 ⊢
  have C0 : Cx p s m args meth c RX5 cX5_unit 3 none := C0
  obtain ⟨Q, hQ⟩ : ∃ z, z = MQ below ((PV G SC ad [2, 3, 16] ws0 (fun u => (xso SC ad u = (f_X5_unit_5 (xso SC ad ws0) a1.toInt).1))) A) args s 0 0 A := ⟨_, rfl⟩
  rw [← hQ]
  obtain ⟨FT, hFT⟩ : ∃ z, z = f_X5_unit_5 (xso SC ad ws0) a1.toInt := ⟨_, rfl⟩
  have HE : FT = f_X5_unit_5 (xso SC ad ws0) a1.toInt := hFT
  refine lv_aload_n C0.1 C0.2.1 dX5_unit_0 rfl (lv_at hl 0 rfl) ?_
  refine va_ldcS C0.1 C0.2.1 C0.2.2.2.1 (sr_19 hZ) dX5_unit_1 ?_
  refine y_ci h (y_rV (As := [.ref (Z.2.1 19)]) (rest := []) C0 hZ h (c_X5_isWord l G Z ad _ h.2 19 (by decide)) k_X5_isWord q_724 q_5 q_722 kSC_77 rfl rfl rfl hl.1 rfl rfl (Nat.le_of_ble_eq_true rfl) dX5_unit_3 ⟨Nat.le_of_ble_eq_true rfl, Nat.le_of_ble_eq_true rfl⟩ ⟨Nat.le_of_ble_eq_true rfl, Nat.le_of_ble_eq_true rfl⟩) (fun r_4 H locs ws_1 h u_2 p_3 => ?_)
  obtain ⟨e_5, e_6, e_7, e_8⟩ := p_3
  replace HE : FT = g1c_X5_unit_5 (xso SC ad ws_1) r_4.toInt := HE.trans (by rw [e_5, e_6]; rfl)
  replace HE : FT = g2b_X5_unit_5 (xso SC ad ws_1) r_4.toInt := HE.trans rfl
  refine y_if_eq (tgt := 49) C0 dX5_unit_6 (by decide) (fun c_9 => ?_) (fun c_9 => ?_)
  · -- 6
    replace HE : FT = g3_X5_unit_5 (xso SC ad ws_1) := HE.trans (if_pos c_9)
    refine lv_aload_n C0.1 C0.2.1 dX5_unit_49 rfl (lv_at hl 0 rfl) ?_
    refine tg_X5_kind C0 h kSC_77 q_374 dX5_unit_50 (fun v_10 e_11 e_12 e_13 => ?_)
    refine y_c2 (n := 91) C0 (by decide) dX5_unit_53 (fun v_14 e_15 => ?_)
    replace HE : FT = g5b_X5_unit_5 (xso SC ad ws_1) v_10.toInt := HE.trans (by rw [(xg0 e_11 : v_10.toInt = (xso SC ad ws_1) 0 77 4)]; rfl)
    refine y_icmp_ne (tgt := 86) C0 dX5_unit_55 (by decide) (fun c_16 => ?_) (fun c_16 => ?_)
    · -- 55
      replace HE : FT = g6_X5_unit_5 (xso SC ad ws_1) := HE.trans (if_neg (o24_48 e_15 c_16))
      refine lv_aload_n C0.1 C0.2.1 dX5_unit_86 rfl (lv_at hl 0 rfl) ?_
      refine lv_iload_n C0.1 C0.2.1 dX5_unit_87 rfl (lv_at hl 1 rfl) ?_
      refine y_cv h (y_rV (As := [.int a1]) (rest := []) C0 hZ h (c_X5_sum_5 l G Z ad _ h.2 a1 (o24_68 l1 u1) (o24_69 l1 u1)) k_X5_sum q_816 q_15 q_814 kSC_77 rfl rfl rfl hl.1 rfl rfl (Nat.le_of_ble_eq_true rfl) dX5_unit_88 ⟨Nat.le_of_ble_eq_true rfl, Nat.le_of_ble_eq_true rfl⟩ ⟨Nat.le_of_ble_eq_true rfl, Nat.le_of_ble_eq_true rfl⟩) (fun H locs ws_17 h u_18 p_19 => ?_)
      have e_20 := p_19
      replace HE : FT = g8c_X5_unit_5 (xso SC ad ws_17) := HE.trans (by rw [e_20, (o24_70 l1 u1)]; rfl)
      refine lv_aload_n C0.1 C0.2.1 dX5_unit_91 rfl (lv_at hl 0 rfl) ?_
      refine tg_X5_kind C0 h kSC_77 q_374 dX5_unit_92 (fun v_21 e_22 e_23 e_24 => ?_)
      refine y_c2 (n := 61) C0 (by decide) dX5_unit_95 (fun v_25 e_26 => ?_)
      replace HE : FT = g9b_X5_unit_5 (xso SC ad ws_17) v_21.toInt := HE.trans (by rw [(xg0 e_22 : v_21.toInt = (xso SC ad ws_17) 0 77 4)]; rfl)
      refine y_icmp_ne (tgt := 106) C0 dX5_unit_97 (by decide) (fun c_27 => ?_) (fun c_27 => ?_)
      · -- 97
        replace HE : FT = g10_X5_unit_5 (xso SC ad ws_17) := HE.trans (if_neg (o24_51 e_26 c_27))
        refine lv_aload_n C0.1 C0.2.1 dX5_unit_106 rfl (lv_at hl 0 rfl) ?_
        refine tg_X5_kind C0 h kSC_77 q_374 dX5_unit_107 (fun v_28 e_29 e_30 e_31 => ?_)
        have qh_32 : v_28.toInt = v_21.toInt := congrArg Int32.toInt (e_29.symm.trans (Eq.trans rfl e_22))
        refine y_c2 (n := 60) C0 (by decide) dX5_unit_110 (fun v_33 e_34 => ?_)
        replace HE : FT = g12b_X5_unit_5 (xso SC ad ws_17) v_28.toInt := HE.trans (by rw [(xg0 e_29 : v_28.toInt = (xso SC ad ws_17) 0 77 4)]; rfl)
        refine y_icmp_ne (tgt := 121) C0 dX5_unit_112 (by decide) (fun c_35 => ?_) (fun c_35 => ?_)
        · -- 112
          replace HE : FT = g13_X5_unit_5 (xso SC ad ws_17) := HE.trans (if_neg (o24_54 e_26 c_27 qh_32 e_34 c_35))
          refine lv_aload_n C0.1 C0.2.1 dX5_unit_121 rfl (lv_at hl 0 rfl) ?_
          refine tg_X5_kind C0 h kSC_77 q_374 dX5_unit_122 (fun v_36 e_37 e_38 e_39 => ?_)
          have qh_40 : v_36.toInt = v_21.toInt := congrArg Int32.toInt (e_37.symm.trans (Eq.trans rfl e_22))
          refine y_c2 (n := 62) C0 (by decide) dX5_unit_125 (fun v_41 e_42 => ?_)
          replace HE : FT = g15b_X5_unit_5 (xso SC ad ws_17) v_36.toInt := HE.trans (by rw [(xg0 e_37 : v_36.toInt = (xso SC ad ws_17) 0 77 4)]; rfl)
          refine y_icmp_ne (tgt := 136) C0 dX5_unit_127 (by decide) (fun c_43 => ?_) (fun c_43 => ?_)
          · -- 127
            replace HE : FT = g16_X5_unit_5 (xso SC ad ws_17) := HE.trans (if_neg (o24_57 e_26 c_27 qh_32 e_34 c_35 qh_40 e_42 c_43))
            refine y_c1 (n := (-1)) C0 (by decide) dX5_unit_136 (fun v_44 e_45 => ?_)
            refine lv_istore_n (lv' := [(2, .int v_44), (0, .ref (ad 77)), (1, .int a1)]) C0.1 C0.2.1 dX5_unit_137 rfl hl (by decide) rfl (fun ls hl => ?_)
            refine lv_iload_n C0.1 C0.2.1 dX5_unit_138 rfl (lv_at hl 0 rfl) ?_
            refine y_if_ge (tgt := 148) C0 dX5_unit_139 (by decide) (fun c_46 => ((o24_11 e_45 c_46)).elim) (fun c_46 => ?_)
            refine lv_aload_n C0.1 C0.2.1 dX5_unit_142 rfl (lv_at hl 1 rfl) ?_
            refine y_c1 (n := 2) C0 (by decide) dX5_unit_143 (fun v_47 e_48 => ?_)
            refine y_cv h (y_rV (As := [.int v_47]) (rest := []) C0 hZ h (c_X5_fail l G Z ad _ h.2 v_47) k_X5_fail q_628 q_3 q_626 kSC_77 rfl rfl rfl hl.1 rfl rfl (Nat.le_of_ble_eq_true rfl) dX5_unit_144 ⟨Nat.le_of_ble_eq_true rfl, Nat.le_of_ble_eq_true rfl⟩ ⟨Nat.le_of_ble_eq_true rfl, Nat.le_of_ble_eq_true rfl⟩) (fun H locs ws_49 h u_50 p_51 => ?_)
            have e_52 := p_51
            replace HE : FT = g18c_X5_unit_5 (xso SC ad ws_49) := HE.trans (by rw [e_52, e_48]; rfl)
            replace HE : FT = ((xso SC ad ws_49), 0) := HE.trans rfl
            rw [hQ]
            exact y_vret C0 h (Fr.tr (Fr.tr (Fr.mono u_2 (by decide)) u_18) (Fr.mono u_50 (by decide))) (congrArg Prod.fst (HE.symm.trans hFT)) dX5_unit_147
          · -- 127
            replace HE : FT = g17_X5_unit_5 (xso SC ad ws_17) := HE.trans (if_pos (o24_58 e_26 c_27 qh_32 e_34 c_35 qh_40 e_42 c_43))
            refine y_c3 (n := 2005) C0 (by decide) dX5_unit_130 (fun v_53 e_54 => ?_)
            refine lv_goto (tgt := 137) C0.1 C0.2.1 dX5_unit_133 (by decide) ?_
            refine lv_istore_n (lv' := [(2, .int v_53), (0, .ref (ad 77)), (1, .int a1)]) C0.1 C0.2.1 dX5_unit_137 rfl hl (by decide) rfl (fun ls hl => ?_)
            refine lv_iload_n C0.1 C0.2.1 dX5_unit_138 rfl (lv_at hl 0 rfl) ?_
            refine y_if_ge (tgt := 148) C0 dX5_unit_139 (by decide) (fun c_55 => ?_) (fun c_55 => ((o24_59 e_54 c_55)).elim)
            refine lv_aload_n C0.1 C0.2.1 dX5_unit_148 rfl (lv_at hl 1 rfl) ?_
            refine y_cv h (y_rV (As := []) (rest := []) C0 hZ h (c_X5_advance l G Z ad _ h.2) k_X5_advance q_616 q_0 q_614 kSC_77 rfl rfl rfl hl.1 rfl rfl (Nat.le_of_ble_eq_true rfl) dX5_unit_149 ⟨Nat.le_of_ble_eq_true rfl, Nat.le_of_ble_eq_true rfl⟩ ⟨Nat.le_of_ble_eq_true rfl, Nat.le_of_ble_eq_true rfl⟩) (fun H locs ws_56 h u_57 p_58 => ?_)
            have e_59 := p_58
            replace HE : FT = g19c_X5_unit_5 (xso SC ad ws_56) := HE.trans (by rw [e_59]; rfl)
            refine lv_aload_n C0.1 C0.2.1 dX5_unit_152 rfl (lv_at hl 1 rfl) ?_
            refine lv_iload_n C0.1 C0.2.1 dX5_unit_153 rfl (lv_at hl 2 rfl) ?_
            refine y_cv h (y_rV (As := [.int a1]) (rest := []) C0 hZ h (c_X5_sum_5 l G Z ad _ h.2 a1 (o24_68 l1 u1) (o24_69 l1 u1)) k_X5_sum q_816 q_15 q_814 kSC_77 rfl rfl rfl hl.1 rfl rfl (Nat.le_of_ble_eq_true rfl) dX5_unit_154 ⟨Nat.le_of_ble_eq_true rfl, Nat.le_of_ble_eq_true rfl⟩ ⟨Nat.le_of_ble_eq_true rfl, Nat.le_of_ble_eq_true rfl⟩) (fun H locs ws_60 h u_61 p_62 => ?_)
            have e_63 := p_62
            replace HE : FT = g20c_X5_unit_5 (xso SC ad ws_60) := HE.trans (by rw [e_63, (o24_70 l1 u1)]; rfl)
            refine lv_aload_n C0.1 C0.2.1 dX5_unit_157 rfl (lv_at hl 1 rfl) ?_
            refine tg_X5_law C0 h kSC_77 q_380 dX5_unit_158 (fun i_64 hi_64 ei_64 => ?_)
            refine lv_iload_n C0.1 C0.2.1 dX5_unit_161 rfl (lv_at hl 0 rfl) ?_
            refine y_cv h (y_rV (As := [.int v_53]) (rest := []) C0 hZ h (c_X4_add l G Z ad _ h.2 i_64 hi_64 v_53) k_X4_add q_827 q_828 q_826 hi_64 rfl rfl rfl hl.1 rfl rfl (Nat.le_of_ble_eq_true rfl) dX5_unit_162 ⟨Nat.le_of_ble_eq_true rfl, Nat.le_of_ble_eq_true rfl⟩ ⟨Nat.le_of_ble_eq_true rfl, Nat.le_of_ble_eq_true rfl⟩) (fun H locs ws_65 h u_66 p_67 => ?_)
            have e_68 := p_67
            replace HE : FT = g21c_X5_unit_5 (xso SC ad ws_65) := HE.trans (by rw [e_68, (o24_60 e_54 c_55), ei_64]; rfl)
            replace HE : FT = ((xso SC ad ws_65), 0) := HE.trans rfl
            rw [hQ]
            exact y_vret C0 h (Fr.tr (Fr.tr (Fr.tr (Fr.tr (Fr.mono u_2 (by decide)) u_18) (Fr.mono u_57 (by decide))) u_61) (Fr.mono u_66 (by decide))) (congrArg Prod.fst (HE.symm.trans hFT)) dX5_unit_165
        · -- 112
          replace HE : FT = g14_X5_unit_5 (xso SC ad ws_17) := HE.trans (if_pos (o24_55 e_26 c_27 qh_32 e_34 c_35))
          refine y_c3 (n := 2004) C0 (by decide) dX5_unit_115 (fun v_69 e_70 => ?_)
          refine lv_goto (tgt := 137) C0.1 C0.2.1 dX5_unit_118 (by decide) ?_
          refine lv_istore_n (lv' := [(2, .int v_69), (0, .ref (ad 77)), (1, .int a1)]) C0.1 C0.2.1 dX5_unit_137 rfl hl (by decide) rfl (fun ls hl => ?_)
          refine lv_iload_n C0.1 C0.2.1 dX5_unit_138 rfl (lv_at hl 0 rfl) ?_
          refine y_if_ge (tgt := 148) C0 dX5_unit_139 (by decide) (fun c_71 => ?_) (fun c_71 => ((o24_61 e_70 c_71)).elim)
          refine lv_aload_n C0.1 C0.2.1 dX5_unit_148 rfl (lv_at hl 1 rfl) ?_
          refine y_cv h (y_rV (As := []) (rest := []) C0 hZ h (c_X5_advance l G Z ad _ h.2) k_X5_advance q_616 q_0 q_614 kSC_77 rfl rfl rfl hl.1 rfl rfl (Nat.le_of_ble_eq_true rfl) dX5_unit_149 ⟨Nat.le_of_ble_eq_true rfl, Nat.le_of_ble_eq_true rfl⟩ ⟨Nat.le_of_ble_eq_true rfl, Nat.le_of_ble_eq_true rfl⟩) (fun H locs ws_72 h u_73 p_74 => ?_)
          have e_75 := p_74
          replace HE : FT = g22c_X5_unit_5 (xso SC ad ws_72) := HE.trans (by rw [e_75]; rfl)
          refine lv_aload_n C0.1 C0.2.1 dX5_unit_152 rfl (lv_at hl 1 rfl) ?_
          refine lv_iload_n C0.1 C0.2.1 dX5_unit_153 rfl (lv_at hl 2 rfl) ?_
          refine y_cv h (y_rV (As := [.int a1]) (rest := []) C0 hZ h (c_X5_sum_5 l G Z ad _ h.2 a1 (o24_68 l1 u1) (o24_69 l1 u1)) k_X5_sum q_816 q_15 q_814 kSC_77 rfl rfl rfl hl.1 rfl rfl (Nat.le_of_ble_eq_true rfl) dX5_unit_154 ⟨Nat.le_of_ble_eq_true rfl, Nat.le_of_ble_eq_true rfl⟩ ⟨Nat.le_of_ble_eq_true rfl, Nat.le_of_ble_eq_true rfl⟩) (fun H locs ws_76 h u_77 p_78 => ?_)
          have e_79 := p_78
          replace HE : FT = g23c_X5_unit_5 (xso SC ad ws_76) := HE.trans (by rw [e_79, (o24_70 l1 u1)]; rfl)
          refine lv_aload_n C0.1 C0.2.1 dX5_unit_157 rfl (lv_at hl 1 rfl) ?_
          refine tg_X5_law C0 h kSC_77 q_380 dX5_unit_158 (fun i_80 hi_80 ei_80 => ?_)
          refine lv_iload_n C0.1 C0.2.1 dX5_unit_161 rfl (lv_at hl 0 rfl) ?_
          refine y_cv h (y_rV (As := [.int v_69]) (rest := []) C0 hZ h (c_X4_add l G Z ad _ h.2 i_80 hi_80 v_69) k_X4_add q_827 q_828 q_826 hi_80 rfl rfl rfl hl.1 rfl rfl (Nat.le_of_ble_eq_true rfl) dX5_unit_162 ⟨Nat.le_of_ble_eq_true rfl, Nat.le_of_ble_eq_true rfl⟩ ⟨Nat.le_of_ble_eq_true rfl, Nat.le_of_ble_eq_true rfl⟩) (fun H locs ws_81 h u_82 p_83 => ?_)
          have e_84 := p_83
          replace HE : FT = g24c_X5_unit_5 (xso SC ad ws_81) := HE.trans (by rw [e_84, (o24_62 e_70 c_71), ei_80]; rfl)
          replace HE : FT = ((xso SC ad ws_81), 0) := HE.trans rfl
          rw [hQ]
          exact y_vret C0 h (Fr.tr (Fr.tr (Fr.tr (Fr.tr (Fr.mono u_2 (by decide)) u_18) (Fr.mono u_73 (by decide))) u_77) (Fr.mono u_82 (by decide))) (congrArg Prod.fst (HE.symm.trans hFT)) dX5_unit_165
      · -- 97
        replace HE : FT = g11_X5_unit_5 (xso SC ad ws_17) := HE.trans (if_pos (o24_52 e_26 c_27))
        refine y_c3 (n := 2003) C0 (by decide) dX5_unit_100 (fun v_85 e_86 => ?_)
        refine lv_goto (tgt := 137) C0.1 C0.2.1 dX5_unit_103 (by decide) ?_
        refine lv_istore_n (lv' := [(2, .int v_85), (0, .ref (ad 77)), (1, .int a1)]) C0.1 C0.2.1 dX5_unit_137 rfl hl (by decide) rfl (fun ls hl => ?_)
        refine lv_iload_n C0.1 C0.2.1 dX5_unit_138 rfl (lv_at hl 0 rfl) ?_
        refine y_if_ge (tgt := 148) C0 dX5_unit_139 (by decide) (fun c_87 => ?_) (fun c_87 => ((o24_63 e_86 c_87)).elim)
        refine lv_aload_n C0.1 C0.2.1 dX5_unit_148 rfl (lv_at hl 1 rfl) ?_
        refine y_cv h (y_rV (As := []) (rest := []) C0 hZ h (c_X5_advance l G Z ad _ h.2) k_X5_advance q_616 q_0 q_614 kSC_77 rfl rfl rfl hl.1 rfl rfl (Nat.le_of_ble_eq_true rfl) dX5_unit_149 ⟨Nat.le_of_ble_eq_true rfl, Nat.le_of_ble_eq_true rfl⟩ ⟨Nat.le_of_ble_eq_true rfl, Nat.le_of_ble_eq_true rfl⟩) (fun H locs ws_88 h u_89 p_90 => ?_)
        have e_91 := p_90
        replace HE : FT = g25c_X5_unit_5 (xso SC ad ws_88) := HE.trans (by rw [e_91]; rfl)
        refine lv_aload_n C0.1 C0.2.1 dX5_unit_152 rfl (lv_at hl 1 rfl) ?_
        refine lv_iload_n C0.1 C0.2.1 dX5_unit_153 rfl (lv_at hl 2 rfl) ?_
        refine y_cv h (y_rV (As := [.int a1]) (rest := []) C0 hZ h (c_X5_sum_5 l G Z ad _ h.2 a1 (o24_68 l1 u1) (o24_69 l1 u1)) k_X5_sum q_816 q_15 q_814 kSC_77 rfl rfl rfl hl.1 rfl rfl (Nat.le_of_ble_eq_true rfl) dX5_unit_154 ⟨Nat.le_of_ble_eq_true rfl, Nat.le_of_ble_eq_true rfl⟩ ⟨Nat.le_of_ble_eq_true rfl, Nat.le_of_ble_eq_true rfl⟩) (fun H locs ws_92 h u_93 p_94 => ?_)
        have e_95 := p_94
        replace HE : FT = g26c_X5_unit_5 (xso SC ad ws_92) := HE.trans (by rw [e_95, (o24_70 l1 u1)]; rfl)
        refine lv_aload_n C0.1 C0.2.1 dX5_unit_157 rfl (lv_at hl 1 rfl) ?_
        refine tg_X5_law C0 h kSC_77 q_380 dX5_unit_158 (fun i_96 hi_96 ei_96 => ?_)
        refine lv_iload_n C0.1 C0.2.1 dX5_unit_161 rfl (lv_at hl 0 rfl) ?_
        refine y_cv h (y_rV (As := [.int v_85]) (rest := []) C0 hZ h (c_X4_add l G Z ad _ h.2 i_96 hi_96 v_85) k_X4_add q_827 q_828 q_826 hi_96 rfl rfl rfl hl.1 rfl rfl (Nat.le_of_ble_eq_true rfl) dX5_unit_162 ⟨Nat.le_of_ble_eq_true rfl, Nat.le_of_ble_eq_true rfl⟩ ⟨Nat.le_of_ble_eq_true rfl, Nat.le_of_ble_eq_true rfl⟩) (fun H locs ws_97 h u_98 p_99 => ?_)
        have e_100 := p_99
        replace HE : FT = g27c_X5_unit_5 (xso SC ad ws_97) := HE.trans (by rw [e_100, (o24_64 e_86 c_87), ei_96]; rfl)
        replace HE : FT = ((xso SC ad ws_97), 0) := HE.trans rfl
        rw [hQ]
        exact y_vret C0 h (Fr.tr (Fr.tr (Fr.tr (Fr.tr (Fr.mono u_2 (by decide)) u_18) (Fr.mono u_89 (by decide))) u_93) (Fr.mono u_98 (by decide))) (congrArg Prod.fst (HE.symm.trans hFT)) dX5_unit_165
    · -- 55
      replace HE : FT = g7_X5_unit_5 (xso SC ad ws_1) := HE.trans (if_pos (o24_49 e_15 c_16))
      refine lv_aload_n C0.1 C0.2.1 dX5_unit_58 rfl (lv_at hl 0 rfl) ?_
      refine lv_iload_n C0.1 C0.2.1 dX5_unit_59 rfl (lv_at hl 1 rfl) ?_
      refine y_ci h (y_rV (As := [.int a1]) (rest := []) C0 hZ h (c_X5_tooDeep_5 l G Z ad _ h.2 a1 (o24_68 l1 u1) (o24_69 l1 u1)) k_X5_tooDeep q_832 q_18 q_830 kSC_77 rfl rfl rfl hl.1 rfl rfl (Nat.le_of_ble_eq_true rfl) dX5_unit_60 ⟨Nat.le_of_ble_eq_true rfl, Nat.le_of_ble_eq_true rfl⟩ ⟨Nat.le_of_ble_eq_true rfl, Nat.le_of_ble_eq_true rfl⟩) (fun r_104 H locs ws_101 h u_102 p_103 => ?_)
      obtain ⟨e_105, e_106, e_107, e_108⟩ := p_103
      replace HE : FT = g28c_X5_unit_5 (xso SC ad ws_101) := HE.trans (by rw [e_105, (o24_70 l1 u1)]; rfl)
      refine y_if_ne (tgt := 165) C0 dX5_unit_63 (by decide) (fun c_109 => ((o24_71 e_107 e_108 c_109)).elim) (fun c_109 => ?_)
      refine lv_aload_n C0.1 C0.2.1 dX5_unit_66 rfl (lv_at hl 0 rfl) ?_
      refine y_cv h (y_rV (As := []) (rest := []) C0 hZ h (c_X5_advance l G Z ad _ h.2) k_X5_advance q_616 q_0 q_614 kSC_77 rfl rfl rfl hl.1 rfl rfl (Nat.le_of_ble_eq_true rfl) dX5_unit_67 ⟨Nat.le_of_ble_eq_true rfl, Nat.le_of_ble_eq_true rfl⟩ ⟨Nat.le_of_ble_eq_true rfl, Nat.le_of_ble_eq_true rfl⟩) (fun H locs ws_110 h u_111 p_112 => ?_)
      have e_113 := p_112
      replace HE : FT = g29c_X5_unit_5 (xso SC ad ws_110) := HE.trans (by rw [e_113]; rfl)
      refine lv_aload_n C0.1 C0.2.1 dX5_unit_70 rfl (lv_at hl 0 rfl) ?_
      refine lv_iload_n C0.1 C0.2.1 dX5_unit_71 rfl (lv_at hl 1 rfl) ?_
      refine y_c1 (n := 1) C0 (by decide) dX5_unit_72 (fun v_114 e_115 => ?_)
      refine y_add C0 (o24_72 l1 u1 e_115 (le_min a1) (le_max a1) (le_min v_114) (le_max v_114)) (o24_73 l1 u1 e_115 (le_min a1) (le_max a1) (le_min v_114) (le_max v_114)) dX5_unit_73 (fun v_116 e_117 => ?_)
      refine y_cv h (y_rV (As := [.int v_116]) (rest := []) C0 hZ h (c_X5_truth_6 l G Z ad _ h.2 v_116 (o24_74 l1 u1 e_115 e_117) (o24_75 l1 u1 e_115 e_117)) k_X5_truth q_843 q_19 q_841 kSC_77 rfl rfl rfl hl.1 rfl rfl (Nat.le_of_ble_eq_true rfl) dX5_unit_74 ⟨Nat.le_of_ble_eq_true rfl, Nat.le_of_ble_eq_true rfl⟩ ⟨Nat.le_of_ble_eq_true rfl, Nat.le_of_ble_eq_true rfl⟩) (fun H locs ws_118 h u_119 p_120 => ?_)
      have e_121 := p_120
      replace HE : FT = g30c_X5_unit_5 (xso SC ad ws_118) := HE.trans (by rw [e_121, e_117, e_115, (o24_76 l1 u1 e_115 e_117)]; rfl)
      refine lv_aload_n C0.1 C0.2.1 dX5_unit_77 rfl (lv_at hl 0 rfl) ?_
      refine y_c2 (n := 93) C0 (by decide) dX5_unit_78 (fun v_122 e_123 => ?_)
      refine y_cv h (y_rV (As := [.int v_122]) (rest := []) C0 hZ h (c_X5_sign l G Z ad _ h.2 v_122 (o24_79 e_123) (o24_80 e_123)) k_X5_sign q_812 q_14 q_810 kSC_77 rfl rfl rfl hl.1 rfl rfl (Nat.le_of_ble_eq_true rfl) dX5_unit_80 ⟨Nat.le_of_ble_eq_true rfl, Nat.le_of_ble_eq_true rfl⟩ ⟨Nat.le_of_ble_eq_true rfl, Nat.le_of_ble_eq_true rfl⟩) (fun H locs ws_124 h u_125 p_126 => ?_)
      have e_127 := p_126
      replace HE : FT = g31c_X5_unit_5 (xso SC ad ws_124) := HE.trans (by rw [e_127, e_123]; rfl)
      refine lv_goto (tgt := 165) C0.1 C0.2.1 dX5_unit_83 (by decide) ?_
      replace HE : FT = ((xso SC ad ws_124), 0) := HE.trans rfl
      rw [hQ]
      exact y_vret C0 h (Fr.tr (Fr.tr (Fr.tr (Fr.tr (Fr.mono u_2 (by decide)) (Fr.mono u_102 (by decide))) (Fr.mono u_111 (by decide))) u_119) (Fr.mono u_125 (by decide))) (congrArg Prod.fst (HE.symm.trans hFT)) dX5_unit_165
  · -- 6
    replace HE : FT = g4_X5_unit_5 (xso SC ad ws_1) := HE.trans (if_neg c_9)
    refine lv_aload_n C0.1 C0.2.1 dX5_unit_9 rfl (lv_at hl 0 rfl) ?_
    refine lv_iload_n C0.1 C0.2.1 dX5_unit_10 rfl (lv_at hl 1 rfl) ?_
    refine y_ci h (y_rV (As := [.int a1]) (rest := []) C0 hZ h (c_X5_tooDeep_5 l G Z ad _ h.2 a1 (o24_68 l1 u1) (o24_69 l1 u1)) k_X5_tooDeep q_832 q_18 q_830 kSC_77 rfl rfl rfl hl.1 rfl rfl (Nat.le_of_ble_eq_true rfl) dX5_unit_11 ⟨Nat.le_of_ble_eq_true rfl, Nat.le_of_ble_eq_true rfl⟩ ⟨Nat.le_of_ble_eq_true rfl, Nat.le_of_ble_eq_true rfl⟩) (fun r_131 H locs ws_128 h u_129 p_130 => ?_)
    obtain ⟨e_132, e_133, e_134, e_135⟩ := p_130
    replace HE : FT = g32c_X5_unit_5 (xso SC ad ws_128) := HE.trans (by rw [e_132, (o24_70 l1 u1)]; rfl)
    refine y_if_ne (tgt := 165) C0 dX5_unit_14 (by decide) (fun c_136 => ((o24_71 e_134 e_135 c_136)).elim) (fun c_136 => ?_)
    refine lv_aload_n C0.1 C0.2.1 dX5_unit_17 rfl (lv_at hl 0 rfl) ?_
    refine y_cv h (y_rV (As := []) (rest := []) C0 hZ h (c_X5_advance l G Z ad _ h.2) k_X5_advance q_616 q_0 q_614 kSC_77 rfl rfl rfl hl.1 rfl rfl (Nat.le_of_ble_eq_true rfl) dX5_unit_18 ⟨Nat.le_of_ble_eq_true rfl, Nat.le_of_ble_eq_true rfl⟩ ⟨Nat.le_of_ble_eq_true rfl, Nat.le_of_ble_eq_true rfl⟩) (fun H locs ws_137 h u_138 p_139 => ?_)
    have e_140 := p_139
    replace HE : FT = g33c_X5_unit_5 (xso SC ad ws_137) := HE.trans (by rw [e_140]; rfl)
    refine lv_aload_n C0.1 C0.2.1 dX5_unit_21 rfl (lv_at hl 0 rfl) ?_
    refine lv_iload_n C0.1 C0.2.1 dX5_unit_22 rfl (lv_at hl 1 rfl) ?_
    refine y_c1 (n := 1) C0 (by decide) dX5_unit_23 (fun v_141 e_142 => ?_)
    refine y_add C0 (o24_72 l1 u1 e_142 (le_min a1) (le_max a1) (le_min v_141) (le_max v_141)) (o24_73 l1 u1 e_142 (le_min a1) (le_max a1) (le_min v_141) (le_max v_141)) dX5_unit_24 (fun v_143 e_144 => ?_)
    refine y_cv h (y_rV (As := [.int v_143]) (rest := []) C0 hZ h (c_X5_unit_6 l G Z ad _ h.2 v_143 (o24_74 l1 u1 e_142 e_144) (o24_75 l1 u1 e_142 e_144)) k_X5_unit q_851 q_21 q_849 kSC_77 rfl rfl rfl hl.1 rfl rfl (Nat.le_of_ble_eq_true rfl) dX5_unit_25 ⟨Nat.le_of_ble_eq_true rfl, Nat.le_of_ble_eq_true rfl⟩ ⟨Nat.le_of_ble_eq_true rfl, Nat.le_of_ble_eq_true rfl⟩) (fun H locs ws_145 h u_146 p_147 => ?_)
    have e_148 := p_147
    replace HE : FT = g34c_X5_unit_5 (xso SC ad ws_145) := HE.trans (by rw [e_148, e_144, e_142, (o24_76 l1 u1 e_142 e_144)]; rfl)
    refine lv_aload_n C0.1 C0.2.1 dX5_unit_28 rfl (lv_at hl 0 rfl) ?_
    refine tg_X5_law C0 h kSC_77 q_380 dX5_unit_29 (fun i_149 hi_149 ei_149 => ?_)
    refine y_c1 (n := 0) C0 (by decide) dX5_unit_32 (fun v_150 e_151 => ?_)
    refine y_cv h (y_rV (As := [.int v_150]) (rest := []) C0 hZ h (c_X4_add l G Z ad _ h.2 i_149 hi_149 v_150) k_X4_add q_827 q_828 q_826 hi_149 rfl rfl rfl hl.1 rfl rfl (Nat.le_of_ble_eq_true rfl) dX5_unit_33 ⟨Nat.le_of_ble_eq_true rfl, Nat.le_of_ble_eq_true rfl⟩ ⟨Nat.le_of_ble_eq_true rfl, Nat.le_of_ble_eq_true rfl⟩) (fun H locs ws_152 h u_153 p_154 => ?_)
    have e_155 := p_154
    replace HE : FT = g35c_X5_unit_5 (xso SC ad ws_152) := HE.trans (by rw [e_155, e_151, ei_149]; rfl)
    refine lv_aload_n C0.1 C0.2.1 dX5_unit_36 rfl (lv_at hl 0 rfl) ?_
    refine tg_X5_law C0 h kSC_77 q_380 dX5_unit_37 (fun i_156 hi_156 ei_156 => ?_)
    refine y_c3 (n := 2003) C0 (by decide) dX5_unit_40 (fun v_157 e_158 => ?_)
    refine y_cv h (y_rV (As := [.int v_157]) (rest := []) C0 hZ h (c_X4_add l G Z ad _ h.2 i_156 hi_156 v_157) k_X4_add q_827 q_828 q_826 hi_156 rfl rfl rfl hl.1 rfl rfl (Nat.le_of_ble_eq_true rfl) dX5_unit_43 ⟨Nat.le_of_ble_eq_true rfl, Nat.le_of_ble_eq_true rfl⟩ ⟨Nat.le_of_ble_eq_true rfl, Nat.le_of_ble_eq_true rfl⟩) (fun H locs ws_159 h u_160 p_161 => ?_)
    have e_162 := p_161
    replace HE : FT = g36c_X5_unit_5 (xso SC ad ws_159) := HE.trans (by rw [e_162, e_158, ei_156]; rfl)
    refine lv_goto (tgt := 165) C0.1 C0.2.1 dX5_unit_46 (by decide) ?_
    replace HE : FT = ((xso SC ad ws_159), 0) := HE.trans rfl
    rw [hQ]
    exact y_vret C0 h (Fr.tr (Fr.tr (Fr.tr (Fr.tr (Fr.tr (Fr.mono u_2 (by decide)) (Fr.mono u_129 (by decide))) (Fr.mono u_138 (by decide))) u_146) (Fr.mono u_153 (by decide))) (Fr.mono u_160 (by decide))) (congrArg Prod.fst (HE.symm.trans hFT)) dX5_unit_165
noncomputable def g5_X5_both_5 (s : XS) : XR := (s, 0)
noncomputable def g9_X5_both_5 (s : XS) : XR := (s, 0)
noncomputable def g13c_X5_both_5 (R7 : XS → Int → XR) (s : XS) (x2_7 : Int) : XR := R7 s ((x2_7 + 1))
noncomputable def g12c_X5_both_5 (R7 : XS → Int → XR) (s : XS) (x2_7 : Int) : XR := g13c_X5_both_5 R7 ((f_X4_add s (Int.toNat (s 3 77 10)) 2006).1) x2_7
noncomputable def g11c_X5_both_5 (R7 : XS → Int → XR) (s : XS) (x2_7 : Int) : XR := g12c_X5_both_5 R7 ((f_X5_unit_5 s 5).1) x2_7
noncomputable def g10_X5_both_5 (R7 : XS → Int → XR) (s : XS) (x2_7 : Int) : XR := g11c_X5_both_5 R7 ((f_X5_advance s).1) x2_7
noncomputable def g8b_X5_both_5 (R7 : XS → Int → XR) (s : XS) (r_22 : Int) (x2_7 : Int) : XR := if r_22 = 0 then g9_X5_both_5 s else g10_X5_both_5 R7 s x2_7
noncomputable def g7c_X5_both_5 (R7 : XS → Int → XR) (s : XS) (r_22 : Int) (x2_7 : Int) : XR := g8b_X5_both_5 R7 s r_22 x2_7
noncomputable def g6_X5_both_5 (R7 : XS → Int → XR) (s : XS) (x2_7 : Int) : XR := g7c_X5_both_5 R7 ((f_X5_isWord s 20).1) (((f_X5_isWord s 20).2)) x2_7
noncomputable def g4b_X5_both_5 (R7 : XS → Int → XR) (s : XS) (x2_7 : Int) : XR := if x2_7 < 900 then g6_X5_both_5 R7 s x2_7 else g5_X5_both_5 s
noncomputable def g3l_X5_both_5 (R7 : XS → Int → XR) (s : XS) (x2_7 : Int) : XR := g4b_X5_both_5 R7 s x2_7
noncomputable def L2_X5_both_5 (n : Nat) : XS → Int → XR := Nat.rec (motive := fun _ => XS → Int → XR) (fun s _ => (s, 0)) (fun _ R7 => g3l_X5_both_5 R7) n
noncomputable def g1c_X5_both_5 (s : XS) : XR := L2_X5_both_5 (Int.toNat (900 - 0 + 1)) s 0
noncomputable def f_X5_both_5 (s : XS) (a1 : Int) : XR := g1c_X5_both_5 ((f_X5_unit_5 s a1).1)
set_option maxHeartbeats 4000000 in
set_option maxRecDepth 100000 in
theorem c_X5_both_5 (l : Launch) (G : GG) (Z : RZ) (ad : Nat → Nat) (ws0 : va_W) (hT : Ty G SC ad ws0) (a1 : Int32) (l1 : 5 ≤ a1.toInt) (u1 : a1.toInt ≤ 5) : Mq l yX5_both cX5_both 3 none 13 G Z [.ref (ad 77), .int a1] ws0 (PV G SC ad [2, 3, 16] ws0 (fun u => (xso SC ad u = (f_X5_both_5 (xso SC ad ws0) a1.toInt).1))) := by
  refine Mq.start (by decide) (Nat.le_of_ble_eq_true rfl) ?_
  intro p e s m below meth c A ls C0 hZ h hl
  have hl : lv_has ls 3 [(0, .ref (ad 77)), (1, .int a1)] := hl
  have h : Wt G SC ad A s s.heap [] ws0 := ⟨h, hT⟩
  obtain ⟨args, hargs⟩ : ∃ z, z = ([.ref (ad 77), .int a1] : List Value).toArray := ⟨_, rfl⟩
  rw [← hargs] at C0 ⊢
  have C0 : Cx p s m args meth c RX5 cX5_both 3 none := C0
  obtain ⟨Q, hQ⟩ : ∃ z, z = MQ below ((PV G SC ad [2, 3, 16] ws0 (fun u => (xso SC ad u = (f_X5_both_5 (xso SC ad ws0) a1.toInt).1))) A) args s 0 0 A := ⟨_, rfl⟩
  rw [← hQ]
  obtain ⟨FT, hFT⟩ : ∃ z, z = f_X5_both_5 (xso SC ad ws0) a1.toInt := ⟨_, rfl⟩
  have HE : FT = f_X5_both_5 (xso SC ad ws0) a1.toInt := hFT
  refine lv_aload_n C0.1 C0.2.1 dX5_both_0 rfl (lv_at hl 0 rfl) ?_
  refine lv_iload_n C0.1 C0.2.1 dX5_both_1 rfl (lv_at hl 1 rfl) ?_
  refine y_cv h (y_rV (As := [.int a1]) (rest := []) C0 hZ h (c_X5_unit_5 l G Z ad _ h.2 a1 (o24_68 l1 u1) (o24_69 l1 u1)) k_X5_unit q_851 q_21 q_849 kSC_77 rfl rfl rfl hl.1 rfl rfl (Nat.le_of_ble_eq_true rfl) dX5_both_2 ⟨Nat.le_of_ble_eq_true rfl, Nat.le_of_ble_eq_true rfl⟩ ⟨Nat.le_of_ble_eq_true rfl, Nat.le_of_ble_eq_true rfl⟩) (fun H locs ws_1 h u_2 p_3 => ?_)
  have e_4 := p_3
  replace HE : FT = g1c_X5_both_5 (xso SC ad ws_1) := HE.trans (by rw [e_4]; rfl)
  refine y_c1 (n := 0) C0 (by decide) dX5_both_5 (fun v_5 e_6 => ?_)
  refine lv_istore_n (lv' := [(2, .int v_5), (0, .ref (ad 77)), (1, .int a1)]) C0.1 C0.2.1 dX5_both_6 rfl hl (by decide) rfl (fun ls hl => ?_)
  have lp_10 : ∀ (n_12 : Nat) (x2_7 : Int32) (H : Heap) (locs : List Loc) (ls : Array Slot) (ws_8 : va_W), 900 - x2_7.toInt < (n_12 : Int) → 0 ≤ x2_7.toInt → x2_7.toInt ≤ 900 → (FT = L2_X5_both_5 n_12 (xso SC ad ws_8) x2_7.toInt) → Wt G SC ad A s H locs ws_8 → Fr SC [2, 3, 16] ws_1 ws_8 → lv_has ls 3 [(2, .int x2_7), (0, .ref (ad 77)), (1, .int a1)] → W p l e (rmd 13 0 0) s m args below meth c H locs 0 0 Q (F0 m 7 ls []) := by
    intro n_12
    induction n_12 with
    | zero => intro x2_7 H locs ls ws_8 hn_13 b_14 b_15 HE h hF_9 hl; exact ((o24_22 b_14 b_15 hn_13)).elim
    | succ n_12 ih_11 =>
      intro x2_7 H locs ls ws_8 hn_13 b_14 b_15 HE h hF_9 hl
      obtain ⟨R7, hR7⟩ : ∃ z, z = L2_X5_both_5 n_12 := ⟨_, rfl⟩
      replace HE : FT = g3l_X5_both_5 R7 (xso SC ad ws_8) x2_7.toInt := HE.trans (by rw [hR7]; rfl)
      refine lv_iload_n C0.1 C0.2.1 dX5_both_7 rfl (lv_at hl 0 rfl) ?_
      refine y_c3 (n := 900) C0 (by decide) dX5_both_8 (fun v_16 e_17 => ?_)
      replace HE : FT = g4b_X5_both_5 R7 (xso SC ad ws_8) x2_7.toInt := HE.trans rfl
      refine y_icmp_ge (tgt := 48) C0 dX5_both_11 (by decide) (fun c_18 => ?_) (fun c_18 => ?_)
      · -- 11
        replace HE : FT = g5_X5_both_5 (xso SC ad ws_8) := HE.trans (if_neg (o24_24 b_14 b_15 hn_13 e_17 c_18))
        replace HE : FT = ((xso SC ad ws_8), 0) := HE.trans rfl
        rw [hQ]
        exact y_vret C0 h (Fr.tr u_2 hF_9) (congrArg Prod.fst (HE.symm.trans hFT)) dX5_both_48
      · -- 11
        replace HE : FT = g6_X5_both_5 R7 (xso SC ad ws_8) x2_7.toInt := HE.trans (if_pos (o24_25 b_14 b_15 hn_13 e_17 c_18))
        refine lv_aload_n C0.1 C0.2.1 dX5_both_14 rfl (lv_at hl 1 rfl) ?_
        refine va_ldcS C0.1 C0.2.1 C0.2.2.2.1 (sr_20 hZ) dX5_both_15 ?_
        refine y_ci h (y_rV (As := [.ref (Z.2.1 20)]) (rest := []) C0 hZ h (c_X5_isWord l G Z ad _ h.2 20 (by decide)) k_X5_isWord q_724 q_5 q_722 kSC_77 rfl rfl rfl hl.1 rfl rfl (Nat.le_of_ble_eq_true rfl) dX5_both_17 ⟨Nat.le_of_ble_eq_true rfl, Nat.le_of_ble_eq_true rfl⟩ ⟨Nat.le_of_ble_eq_true rfl, Nat.le_of_ble_eq_true rfl⟩) (fun r_22 H locs ws_19 h u_20 p_21 => ?_)
        obtain ⟨e_23, e_24, e_25, e_26⟩ := p_21
        replace HE : FT = g7c_X5_both_5 R7 (xso SC ad ws_19) r_22.toInt x2_7.toInt := HE.trans (by rw [e_23, e_24]; rfl)
        replace HE : FT = g8b_X5_both_5 R7 (xso SC ad ws_19) r_22.toInt x2_7.toInt := HE.trans rfl
        refine y_if_eq (tgt := 48) C0 dX5_both_20 (by decide) (fun c_27 => ?_) (fun c_27 => ?_)
        · -- 20
          replace HE : FT = g9_X5_both_5 (xso SC ad ws_19) := HE.trans (if_pos c_27)
          replace HE : FT = ((xso SC ad ws_19), 0) := HE.trans rfl
          rw [hQ]
          exact y_vret C0 h (Fr.tr (Fr.tr u_2 hF_9) (Fr.mono u_20 (by decide))) (congrArg Prod.fst (HE.symm.trans hFT)) dX5_both_48
        · -- 20
          replace HE : FT = g10_X5_both_5 R7 (xso SC ad ws_19) x2_7.toInt := HE.trans (if_neg c_27)
          refine lv_aload_n C0.1 C0.2.1 dX5_both_23 rfl (lv_at hl 1 rfl) ?_
          refine y_cv h (y_rV (As := []) (rest := []) C0 hZ h (c_X5_advance l G Z ad _ h.2) k_X5_advance q_616 q_0 q_614 kSC_77 rfl rfl rfl hl.1 rfl rfl (Nat.le_of_ble_eq_true rfl) dX5_both_24 ⟨Nat.le_of_ble_eq_true rfl, Nat.le_of_ble_eq_true rfl⟩ ⟨Nat.le_of_ble_eq_true rfl, Nat.le_of_ble_eq_true rfl⟩) (fun H locs ws_28 h u_29 p_30 => ?_)
          have e_31 := p_30
          replace HE : FT = g11c_X5_both_5 R7 (xso SC ad ws_28) x2_7.toInt := HE.trans (by rw [e_31]; rfl)
          refine lv_aload_n C0.1 C0.2.1 dX5_both_27 rfl (lv_at hl 1 rfl) ?_
          refine lv_iload_n C0.1 C0.2.1 dX5_both_28 rfl (lv_at hl 2 rfl) ?_
          refine y_cv h (y_rV (As := [.int a1]) (rest := []) C0 hZ h (c_X5_unit_5 l G Z ad _ h.2 a1 (o24_68 l1 u1) (o24_69 l1 u1)) k_X5_unit q_851 q_21 q_849 kSC_77 rfl rfl rfl hl.1 rfl rfl (Nat.le_of_ble_eq_true rfl) dX5_both_29 ⟨Nat.le_of_ble_eq_true rfl, Nat.le_of_ble_eq_true rfl⟩ ⟨Nat.le_of_ble_eq_true rfl, Nat.le_of_ble_eq_true rfl⟩) (fun H locs ws_32 h u_33 p_34 => ?_)
          have e_35 := p_34
          replace HE : FT = g12c_X5_both_5 R7 (xso SC ad ws_32) x2_7.toInt := HE.trans (by rw [e_35, (o24_70 l1 u1)]; rfl)
          refine lv_aload_n C0.1 C0.2.1 dX5_both_32 rfl (lv_at hl 1 rfl) ?_
          refine tg_X5_law C0 h kSC_77 q_380 dX5_both_33 (fun i_36 hi_36 ei_36 => ?_)
          refine y_c3 (n := 2006) C0 (by decide) dX5_both_36 (fun v_37 e_38 => ?_)
          refine y_cv h (y_rV (As := [.int v_37]) (rest := []) C0 hZ h (c_X4_add l G Z ad _ h.2 i_36 hi_36 v_37) k_X4_add q_827 q_828 q_826 hi_36 rfl rfl rfl hl.1 rfl rfl (Nat.le_of_ble_eq_true rfl) dX5_both_39 ⟨Nat.le_of_ble_eq_true rfl, Nat.le_of_ble_eq_true rfl⟩ ⟨Nat.le_of_ble_eq_true rfl, Nat.le_of_ble_eq_true rfl⟩) (fun H locs ws_39 h u_40 p_41 => ?_)
          have e_42 := p_41
          replace HE : FT = g13c_X5_both_5 R7 (xso SC ad ws_39) x2_7.toInt := HE.trans (by rw [e_42, e_38, ei_36]; rfl)
          refine y_inc (kp := 0) (n := 1) (fun v_43 => [(2, .int v_43), (0, .ref (ad 77)), (1, .int a1)]) C0 hl rfl (by decide) (by decide) (fun _ => rfl) (o24_29 b_14 b_15 hn_13 e_17 c_18 (le_min x2_7) (le_max x2_7) (le_min v_16) (le_max v_16)) (o24_30 b_14 b_15 hn_13 e_17 c_18 (le_min x2_7) (le_max x2_7) (le_min v_16) (le_max v_16)) dX5_both_42 (fun v_43 ls e_44 hl => ?_)
          refine lv_goto (tgt := 7) C0.1 C0.2.1 dX5_both_45 (by decide) ?_
          exact ih_11 v_43 _ _ _ _ (o24_31 b_14 b_15 hn_13 e_17 c_18 e_44) (o24_32 b_14 b_15 hn_13 e_17 c_18 e_44) (o24_33 b_14 b_15 hn_13 e_17 c_18 e_44) (((show FT = R7 (xso SC ad ws_39) v_43.toInt from HE.trans (by rw [e_44]; rfl)).trans (by rw [hR7]))) h (Fr.tr (Fr.tr (Fr.tr (Fr.tr hF_9 (Fr.mono u_20 (by decide))) (Fr.mono u_29 (by decide))) u_33) (Fr.mono u_40 (by decide))) (lv_sub hl [0, 1, 2] rfl)
  exact lp_10 ((900 - v_5.toInt + 1).toNat) v_5 _ _ _ _ (o24_34 e_6) (o24_35 e_6) (o24_36 e_6) ((show FT = L2_X5_both_5 (Int.toNat (900 - v_5.toInt + 1)) (xso SC ad ws_1) v_5.toInt from HE.trans (by rw [e_6]; rfl))) h Fr.rf (lv_sub hl [0, 1, 2] rfl)
noncomputable def g5_X5_truth_5 (s : XS) : XR := (s, 0)
noncomputable def g9_X5_truth_5 (s : XS) : XR := (s, 0)
noncomputable def g13c_X5_truth_5 (R7 : XS → Int → XR) (s : XS) (x2_7 : Int) : XR := R7 s ((x2_7 + 1))
noncomputable def g12c_X5_truth_5 (R7 : XS → Int → XR) (s : XS) (x2_7 : Int) : XR := g13c_X5_truth_5 R7 ((f_X4_add s (Int.toNat (s 3 77 10)) 2007).1) x2_7
noncomputable def g11c_X5_truth_5 (R7 : XS → Int → XR) (s : XS) (x2_7 : Int) : XR := g12c_X5_truth_5 R7 ((f_X5_both_5 s 5).1) x2_7
noncomputable def g10_X5_truth_5 (R7 : XS → Int → XR) (s : XS) (x2_7 : Int) : XR := g11c_X5_truth_5 R7 ((f_X5_advance s).1) x2_7
noncomputable def g8b_X5_truth_5 (R7 : XS → Int → XR) (s : XS) (r_22 : Int) (x2_7 : Int) : XR := if r_22 = 0 then g9_X5_truth_5 s else g10_X5_truth_5 R7 s x2_7
noncomputable def g7c_X5_truth_5 (R7 : XS → Int → XR) (s : XS) (r_22 : Int) (x2_7 : Int) : XR := g8b_X5_truth_5 R7 s r_22 x2_7
noncomputable def g6_X5_truth_5 (R7 : XS → Int → XR) (s : XS) (x2_7 : Int) : XR := g7c_X5_truth_5 R7 ((f_X5_isWord s 21).1) (((f_X5_isWord s 21).2)) x2_7
noncomputable def g4b_X5_truth_5 (R7 : XS → Int → XR) (s : XS) (x2_7 : Int) : XR := if x2_7 < 900 then g6_X5_truth_5 R7 s x2_7 else g5_X5_truth_5 s
noncomputable def g3l_X5_truth_5 (R7 : XS → Int → XR) (s : XS) (x2_7 : Int) : XR := g4b_X5_truth_5 R7 s x2_7
noncomputable def L2_X5_truth_5 (n : Nat) : XS → Int → XR := Nat.rec (motive := fun _ => XS → Int → XR) (fun s _ => (s, 0)) (fun _ R7 => g3l_X5_truth_5 R7) n
noncomputable def g1c_X5_truth_5 (s : XS) : XR := L2_X5_truth_5 (Int.toNat (900 - 0 + 1)) s 0
noncomputable def f_X5_truth_5 (s : XS) (a1 : Int) : XR := g1c_X5_truth_5 ((f_X5_both_5 s a1).1)
set_option maxHeartbeats 4000000 in
set_option maxRecDepth 100000 in
theorem c_X5_truth_5 (l : Launch) (G : GG) (Z : RZ) (ad : Nat → Nat) (ws0 : va_W) (hT : Ty G SC ad ws0) (a1 : Int32) (l1 : 5 ≤ a1.toInt) (u1 : a1.toInt ≤ 5) : Mq l yX5_truth cX5_truth 3 none 14 G Z [.ref (ad 77), .int a1] ws0 (PV G SC ad [2, 3, 16] ws0 (fun u => (xso SC ad u = (f_X5_truth_5 (xso SC ad ws0) a1.toInt).1))) := by
  refine Mq.start (by decide) (Nat.le_of_ble_eq_true rfl) ?_
  intro p e s m below meth c A ls C0 hZ h hl
  have hl : lv_has ls 3 [(0, .ref (ad 77)), (1, .int a1)] := hl
  have h : Wt G SC ad A s s.heap [] ws0 := ⟨h, hT⟩
  obtain ⟨args, hargs⟩ : ∃ z, z = ([.ref (ad 77), .int a1] : List Value).toArray := ⟨_, rfl⟩
  rw [← hargs] at C0 ⊢
  have C0 : Cx p s m args meth c RX5 cX5_truth 3 none := C0
  obtain ⟨Q, hQ⟩ : ∃ z, z = MQ below ((PV G SC ad [2, 3, 16] ws0 (fun u => (xso SC ad u = (f_X5_truth_5 (xso SC ad ws0) a1.toInt).1))) A) args s 0 0 A := ⟨_, rfl⟩
  rw [← hQ]
  obtain ⟨FT, hFT⟩ : ∃ z, z = f_X5_truth_5 (xso SC ad ws0) a1.toInt := ⟨_, rfl⟩
  have HE : FT = f_X5_truth_5 (xso SC ad ws0) a1.toInt := hFT
  refine lv_aload_n C0.1 C0.2.1 dX5_truth_0 rfl (lv_at hl 0 rfl) ?_
  refine lv_iload_n C0.1 C0.2.1 dX5_truth_1 rfl (lv_at hl 1 rfl) ?_
  refine y_cv h (y_rV (As := [.int a1]) (rest := []) C0 hZ h (c_X5_both_5 l G Z ad _ h.2 a1 (o24_68 l1 u1) (o24_69 l1 u1)) k_X5_both q_847 q_20 q_845 kSC_77 rfl rfl rfl hl.1 rfl rfl (Nat.le_of_ble_eq_true rfl) dX5_truth_2 ⟨Nat.le_of_ble_eq_true rfl, Nat.le_of_ble_eq_true rfl⟩ ⟨Nat.le_of_ble_eq_true rfl, Nat.le_of_ble_eq_true rfl⟩) (fun H locs ws_1 h u_2 p_3 => ?_)
  have e_4 := p_3
  replace HE : FT = g1c_X5_truth_5 (xso SC ad ws_1) := HE.trans (by rw [e_4]; rfl)
  refine y_c1 (n := 0) C0 (by decide) dX5_truth_5 (fun v_5 e_6 => ?_)
  refine lv_istore_n (lv' := [(2, .int v_5), (0, .ref (ad 77)), (1, .int a1)]) C0.1 C0.2.1 dX5_truth_6 rfl hl (by decide) rfl (fun ls hl => ?_)
  have lp_10 : ∀ (n_12 : Nat) (x2_7 : Int32) (H : Heap) (locs : List Loc) (ls : Array Slot) (ws_8 : va_W), 900 - x2_7.toInt < (n_12 : Int) → 0 ≤ x2_7.toInt → x2_7.toInt ≤ 900 → (FT = L2_X5_truth_5 n_12 (xso SC ad ws_8) x2_7.toInt) → Wt G SC ad A s H locs ws_8 → Fr SC [2, 3, 16] ws_1 ws_8 → lv_has ls 3 [(2, .int x2_7), (0, .ref (ad 77)), (1, .int a1)] → W p l e (rmd 14 0 0) s m args below meth c H locs 0 0 Q (F0 m 7 ls []) := by
    intro n_12
    induction n_12 with
    | zero => intro x2_7 H locs ls ws_8 hn_13 b_14 b_15 HE h hF_9 hl; exact ((o24_22 b_14 b_15 hn_13)).elim
    | succ n_12 ih_11 =>
      intro x2_7 H locs ls ws_8 hn_13 b_14 b_15 HE h hF_9 hl
      obtain ⟨R7, hR7⟩ : ∃ z, z = L2_X5_truth_5 n_12 := ⟨_, rfl⟩
      replace HE : FT = g3l_X5_truth_5 R7 (xso SC ad ws_8) x2_7.toInt := HE.trans (by rw [hR7]; rfl)
      refine lv_iload_n C0.1 C0.2.1 dX5_truth_7 rfl (lv_at hl 0 rfl) ?_
      refine y_c3 (n := 900) C0 (by decide) dX5_truth_8 (fun v_16 e_17 => ?_)
      replace HE : FT = g4b_X5_truth_5 R7 (xso SC ad ws_8) x2_7.toInt := HE.trans rfl
      refine y_icmp_ge (tgt := 48) C0 dX5_truth_11 (by decide) (fun c_18 => ?_) (fun c_18 => ?_)
      · -- 11
        replace HE : FT = g5_X5_truth_5 (xso SC ad ws_8) := HE.trans (if_neg (o24_24 b_14 b_15 hn_13 e_17 c_18))
        replace HE : FT = ((xso SC ad ws_8), 0) := HE.trans rfl
        rw [hQ]
        exact y_vret C0 h (Fr.tr u_2 hF_9) (congrArg Prod.fst (HE.symm.trans hFT)) dX5_truth_48
      · -- 11
        replace HE : FT = g6_X5_truth_5 R7 (xso SC ad ws_8) x2_7.toInt := HE.trans (if_pos (o24_25 b_14 b_15 hn_13 e_17 c_18))
        refine lv_aload_n C0.1 C0.2.1 dX5_truth_14 rfl (lv_at hl 1 rfl) ?_
        refine va_ldcS C0.1 C0.2.1 C0.2.2.2.1 (sr_21 hZ) dX5_truth_15 ?_
        refine y_ci h (y_rV (As := [.ref (Z.2.1 21)]) (rest := []) C0 hZ h (c_X5_isWord l G Z ad _ h.2 21 (by decide)) k_X5_isWord q_724 q_5 q_722 kSC_77 rfl rfl rfl hl.1 rfl rfl (Nat.le_of_ble_eq_true rfl) dX5_truth_17 ⟨Nat.le_of_ble_eq_true rfl, Nat.le_of_ble_eq_true rfl⟩ ⟨Nat.le_of_ble_eq_true rfl, Nat.le_of_ble_eq_true rfl⟩) (fun r_22 H locs ws_19 h u_20 p_21 => ?_)
        obtain ⟨e_23, e_24, e_25, e_26⟩ := p_21
        replace HE : FT = g7c_X5_truth_5 R7 (xso SC ad ws_19) r_22.toInt x2_7.toInt := HE.trans (by rw [e_23, e_24]; rfl)
        replace HE : FT = g8b_X5_truth_5 R7 (xso SC ad ws_19) r_22.toInt x2_7.toInt := HE.trans rfl
        refine y_if_eq (tgt := 48) C0 dX5_truth_20 (by decide) (fun c_27 => ?_) (fun c_27 => ?_)
        · -- 20
          replace HE : FT = g9_X5_truth_5 (xso SC ad ws_19) := HE.trans (if_pos c_27)
          replace HE : FT = ((xso SC ad ws_19), 0) := HE.trans rfl
          rw [hQ]
          exact y_vret C0 h (Fr.tr (Fr.tr u_2 hF_9) (Fr.mono u_20 (by decide))) (congrArg Prod.fst (HE.symm.trans hFT)) dX5_truth_48
        · -- 20
          replace HE : FT = g10_X5_truth_5 R7 (xso SC ad ws_19) x2_7.toInt := HE.trans (if_neg c_27)
          refine lv_aload_n C0.1 C0.2.1 dX5_truth_23 rfl (lv_at hl 1 rfl) ?_
          refine y_cv h (y_rV (As := []) (rest := []) C0 hZ h (c_X5_advance l G Z ad _ h.2) k_X5_advance q_616 q_0 q_614 kSC_77 rfl rfl rfl hl.1 rfl rfl (Nat.le_of_ble_eq_true rfl) dX5_truth_24 ⟨Nat.le_of_ble_eq_true rfl, Nat.le_of_ble_eq_true rfl⟩ ⟨Nat.le_of_ble_eq_true rfl, Nat.le_of_ble_eq_true rfl⟩) (fun H locs ws_28 h u_29 p_30 => ?_)
          have e_31 := p_30
          replace HE : FT = g11c_X5_truth_5 R7 (xso SC ad ws_28) x2_7.toInt := HE.trans (by rw [e_31]; rfl)
          refine lv_aload_n C0.1 C0.2.1 dX5_truth_27 rfl (lv_at hl 1 rfl) ?_
          refine lv_iload_n C0.1 C0.2.1 dX5_truth_28 rfl (lv_at hl 2 rfl) ?_
          refine y_cv h (y_rV (As := [.int a1]) (rest := []) C0 hZ h (c_X5_both_5 l G Z ad _ h.2 a1 (o24_68 l1 u1) (o24_69 l1 u1)) k_X5_both q_847 q_20 q_845 kSC_77 rfl rfl rfl hl.1 rfl rfl (Nat.le_of_ble_eq_true rfl) dX5_truth_29 ⟨Nat.le_of_ble_eq_true rfl, Nat.le_of_ble_eq_true rfl⟩ ⟨Nat.le_of_ble_eq_true rfl, Nat.le_of_ble_eq_true rfl⟩) (fun H locs ws_32 h u_33 p_34 => ?_)
          have e_35 := p_34
          replace HE : FT = g12c_X5_truth_5 R7 (xso SC ad ws_32) x2_7.toInt := HE.trans (by rw [e_35, (o24_70 l1 u1)]; rfl)
          refine lv_aload_n C0.1 C0.2.1 dX5_truth_32 rfl (lv_at hl 1 rfl) ?_
          refine tg_X5_law C0 h kSC_77 q_380 dX5_truth_33 (fun i_36 hi_36 ei_36 => ?_)
          refine y_c3 (n := 2007) C0 (by decide) dX5_truth_36 (fun v_37 e_38 => ?_)
          refine y_cv h (y_rV (As := [.int v_37]) (rest := []) C0 hZ h (c_X4_add l G Z ad _ h.2 i_36 hi_36 v_37) k_X4_add q_827 q_828 q_826 hi_36 rfl rfl rfl hl.1 rfl rfl (Nat.le_of_ble_eq_true rfl) dX5_truth_39 ⟨Nat.le_of_ble_eq_true rfl, Nat.le_of_ble_eq_true rfl⟩ ⟨Nat.le_of_ble_eq_true rfl, Nat.le_of_ble_eq_true rfl⟩) (fun H locs ws_39 h u_40 p_41 => ?_)
          have e_42 := p_41
          replace HE : FT = g13c_X5_truth_5 R7 (xso SC ad ws_39) x2_7.toInt := HE.trans (by rw [e_42, e_38, ei_36]; rfl)
          refine y_inc (kp := 0) (n := 1) (fun v_43 => [(2, .int v_43), (0, .ref (ad 77)), (1, .int a1)]) C0 hl rfl (by decide) (by decide) (fun _ => rfl) (o24_29 b_14 b_15 hn_13 e_17 c_18 (le_min x2_7) (le_max x2_7) (le_min v_16) (le_max v_16)) (o24_30 b_14 b_15 hn_13 e_17 c_18 (le_min x2_7) (le_max x2_7) (le_min v_16) (le_max v_16)) dX5_truth_42 (fun v_43 ls e_44 hl => ?_)
          refine lv_goto (tgt := 7) C0.1 C0.2.1 dX5_truth_45 (by decide) ?_
          exact ih_11 v_43 _ _ _ _ (o24_31 b_14 b_15 hn_13 e_17 c_18 e_44) (o24_32 b_14 b_15 hn_13 e_17 c_18 e_44) (o24_33 b_14 b_15 hn_13 e_17 c_18 e_44) (((show FT = R7 (xso SC ad ws_39) v_43.toInt from HE.trans (by rw [e_44]; rfl)).trans (by rw [hR7]))) h (Fr.tr (Fr.tr (Fr.tr (Fr.tr hF_9 (Fr.mono u_20 (by decide))) (Fr.mono u_29 (by decide))) u_33) (Fr.mono u_40 (by decide))) (lv_sub hl [0, 1, 2] rfl)
  exact lp_10 ((900 - v_5.toInt + 1).toNat) v_5 _ _ _ _ (o24_34 e_6) (o24_35 e_6) (o24_36 e_6) ((show FT = L2_X5_truth_5 (Int.toNat (900 - v_5.toInt + 1)) (xso SC ad ws_1) v_5.toInt from HE.trans (by rw [e_6]; rfl))) h Fr.rf (lv_sub hl [0, 1, 2] rfl)
noncomputable def f_X5_tooDeep_4 (s : XS) (a1 : Int) : XR := (s, 0)
set_option maxHeartbeats 4000000 in
set_option maxRecDepth 100000 in
theorem c_X5_tooDeep_4 (l : Launch) (G : GG) (Z : RZ) (ad : Nat → Nat) (ws0 : va_W) (hT : Ty G SC ad ws0) (a1 : Int32) (l1 : 4 ≤ a1.toInt) (u1 : a1.toInt ≤ 4) : Mq l yX5_tooDeep cX5_tooDeep 2 (some .boolean) 1 G Z [.ref (ad 77), .int a1] ws0 (PI G SC ad [] ws0 (fun r u => (xso SC ad u = (f_X5_tooDeep_4 (xso SC ad ws0) a1.toInt).1) ∧ (r.toInt = (f_X5_tooDeep_4 (xso SC ad ws0) a1.toInt).2) ∧ (0 ≤ r.toInt) ∧ (r.toInt ≤ 0))) := by
  refine Mq.start (by decide) (Nat.le_of_ble_eq_true rfl) ?_
  intro p e s m below meth c A ls C0 hZ h hl
  have hl : lv_has ls 2 [(0, .ref (ad 77)), (1, .int a1)] := hl
  have h : Wt G SC ad A s s.heap [] ws0 := ⟨h, hT⟩
  obtain ⟨args, hargs⟩ : ∃ z, z = ([.ref (ad 77), .int a1] : List Value).toArray := ⟨_, rfl⟩
  rw [← hargs] at C0 ⊢
  have C0 : Cx p s m args meth c RX5 cX5_tooDeep 2 (some .boolean) := C0
  obtain ⟨Q, hQ⟩ : ∃ z, z = MQ below ((PI G SC ad [] ws0 (fun r u => (xso SC ad u = (f_X5_tooDeep_4 (xso SC ad ws0) a1.toInt).1) ∧ (r.toInt = (f_X5_tooDeep_4 (xso SC ad ws0) a1.toInt).2) ∧ (0 ≤ r.toInt) ∧ (r.toInt ≤ 0))) A) args s 0 0 A := ⟨_, rfl⟩
  rw [← hQ]
  obtain ⟨FT, hFT⟩ : ∃ z, z = f_X5_tooDeep_4 (xso SC ad ws0) a1.toInt := ⟨_, rfl⟩
  have HE : FT = f_X5_tooDeep_4 (xso SC ad ws0) a1.toInt := hFT
  refine lv_iload_n C0.1 C0.2.1 dX5_tooDeep_0 rfl (lv_at hl 1 rfl) ?_
  refine y_c2 (n := 6) C0 (by decide) dX5_tooDeep_1 (fun v_1 e_2 => ?_)
  refine y_icmp_lt (tgt := 13) C0 dX5_tooDeep_3 (by decide) (fun c_3 => ?_) (fun c_3 => ((o24_81 l1 u1 e_2 c_3)).elim)
  refine y_c1 (n := 0) C0 (by decide) dX5_tooDeep_13 (fun v_4 e_5 => ?_)
  replace HE : FT = ((xso SC ad ws0), v_4.toInt) := HE.trans (by rw [e_5]; rfl)
  rw [hQ]
  exact y_zret C0 h (o24_35 e_5) (o24_67 e_5) Fr.rf ⟨(congrArg Prod.fst (HE.symm.trans hFT)), (congrArg Prod.snd (HE.symm.trans hFT)), (o24_35 e_5), (o24_66 e_5)⟩ dX5_tooDeep_14
noncomputable def g31c_X5_atom_4 (s : XS) : XR := (s, 0)
noncomputable def g29_X5_atom_4 (s : XS) : XR := g31c_X5_atom_4 ((f_X5_fail s 2).1)
noncomputable def g33c_X5_atom_4 (s : XS) : XR := (s, 0)
noncomputable def g32c_X5_atom_4 (s : XS) : XR := g33c_X5_atom_4 ((f_X5_advance s).1)
noncomputable def g30_X5_atom_4 (s : XS) : XR := g32c_X5_atom_4 ((f_X4_add s (Int.toNat (s 3 77 10)) 1005).1)
noncomputable def g28b_X5_atom_4 (s : XS) (r_64 : Int) : XR := if r_64 = 0 then g29_X5_atom_4 s else g30_X5_atom_4 s
noncomputable def g27c_X5_atom_4 (s : XS) (r_64 : Int) : XR := g28b_X5_atom_4 s r_64
noncomputable def g25_X5_atom_4 (s : XS) : XR := g27c_X5_atom_4 ((f_X5_isWord s 17).1) (((f_X5_isWord s 17).2))
noncomputable def g35c_X5_atom_4 (s : XS) : XR := (s, 0)
noncomputable def g34c_X5_atom_4 (s : XS) : XR := g35c_X5_atom_4 ((f_X5_advance s).1)
noncomputable def g26_X5_atom_4 (s : XS) : XR := g34c_X5_atom_4 ((f_X4_add s (Int.toNat (s 3 77 10)) 1004).1)
noncomputable def g24b_X5_atom_4 (s : XS) (r_55 : Int) : XR := if r_55 = 0 then g25_X5_atom_4 s else g26_X5_atom_4 s
noncomputable def g23c_X5_atom_4 (s : XS) (r_55 : Int) : XR := g24b_X5_atom_4 s r_55
noncomputable def g21_X5_atom_4 (s : XS) : XR := g23c_X5_atom_4 ((f_X5_isWord s 16).1) (((f_X5_isWord s 16).2))
noncomputable def g37c_X5_atom_4 (s : XS) : XR := (s, 0)
noncomputable def g36c_X5_atom_4 (s : XS) : XR := g37c_X5_atom_4 ((f_X5_advance s).1)
noncomputable def g22_X5_atom_4 (s : XS) : XR := g36c_X5_atom_4 ((f_X4_add s (Int.toNat (s 3 77 10)) 1003).1)
noncomputable def g20b_X5_atom_4 (s : XS) (r_46 : Int) : XR := if r_46 = 0 then g21_X5_atom_4 s else g22_X5_atom_4 s
noncomputable def g19c_X5_atom_4 (s : XS) (r_46 : Int) : XR := g20b_X5_atom_4 s r_46
noncomputable def g17_X5_atom_4 (s : XS) : XR := g19c_X5_atom_4 ((f_X5_isWord s 15).1) (((f_X5_isWord s 15).2))
noncomputable def g39c_X5_atom_4 (s : XS) : XR := (s, 0)
noncomputable def g38c_X5_atom_4 (s : XS) : XR := g39c_X5_atom_4 ((f_X5_advance s).1)
noncomputable def g18_X5_atom_4 (s : XS) : XR := g38c_X5_atom_4 ((f_X4_add s (Int.toNat (s 3 77 10)) 1002).1)
noncomputable def g16b_X5_atom_4 (s : XS) (r_37 : Int) : XR := if r_37 = 0 then g17_X5_atom_4 s else g18_X5_atom_4 s
noncomputable def g15c_X5_atom_4 (s : XS) (r_37 : Int) : XR := g16b_X5_atom_4 s r_37
noncomputable def g13_X5_atom_4 (s : XS) : XR := g15c_X5_atom_4 ((f_X5_isWord s 14).1) (((f_X5_isWord s 14).2))
noncomputable def g41c_X5_atom_4 (s : XS) : XR := (s, 0)
noncomputable def g40c_X5_atom_4 (s : XS) : XR := g41c_X5_atom_4 ((f_X5_advance s).1)
noncomputable def g14_X5_atom_4 (s : XS) : XR := g40c_X5_atom_4 ((f_X4_add s (Int.toNat (s 3 77 10)) 1001).1)
noncomputable def g12b_X5_atom_4 (s : XS) (r_28 : Int) : XR := if r_28 = 0 then g13_X5_atom_4 s else g14_X5_atom_4 s
noncomputable def g11c_X5_atom_4 (s : XS) (r_28 : Int) : XR := g12b_X5_atom_4 s r_28
noncomputable def g9_X5_atom_4 (s : XS) : XR := g11c_X5_atom_4 ((f_X5_isWord s 13).1) (((f_X5_isWord s 13).2))
noncomputable def g43c_X5_atom_4 (s : XS) : XR := (s, 0)
noncomputable def g42c_X5_atom_4 (s : XS) : XR := g43c_X5_atom_4 ((f_X5_advance s).1)
noncomputable def g10_X5_atom_4 (s : XS) : XR := g42c_X5_atom_4 ((f_X4_add s (Int.toNat (s 3 77 10)) 1000).1)
noncomputable def g8b_X5_atom_4 (s : XS) (r_19 : Int) : XR := if r_19 = 0 then g9_X5_atom_4 s else g10_X5_atom_4 s
noncomputable def g7c_X5_atom_4 (s : XS) (r_19 : Int) : XR := g8b_X5_atom_4 s r_19
noncomputable def g5_X5_atom_4 (s : XS) : XR := g7c_X5_atom_4 ((f_X5_isWord s 12).1) (((f_X5_isWord s 12).2))
noncomputable def g47c_X5_atom_4 (s : XS) : XR := (s, 0)
noncomputable def g46c_X5_atom_4 (s : XS) : XR := g47c_X5_atom_4 ((f_X5_sign s 41).1)
noncomputable def g45c_X5_atom_4 (s : XS) : XR := g46c_X5_atom_4 ((f_X5_sum_5 s (4 + 1)).1)
noncomputable def g44c_X5_atom_4 (s : XS) : XR := g45c_X5_atom_4 ((f_X5_advance s).1)
noncomputable def g6_X5_atom_4 (s : XS) : XR := g44c_X5_atom_4 ((f_X5_tooDeep_4 s 4).1)
noncomputable def g4b_X5_atom_4 (s : XS) (v_8 : Int) : XR := if v_8 = 40 then g6_X5_atom_4 s else g5_X5_atom_4 s
noncomputable def g2_X5_atom_4 (s : XS) : XR := g4b_X5_atom_4 s ((s 0 77 4))
noncomputable def g49c_X5_atom_4 (s : XS) : XR := (s, 0)
noncomputable def g48c_X5_atom_4 (s : XS) : XR := g49c_X5_atom_4 ((f_X5_advance s).1)
noncomputable def g3_X5_atom_4 (s : XS) : XR := g48c_X5_atom_4 ((f_X4_add s (Int.toNat (s 3 77 10)) (s 0 77 7)).1)
noncomputable def g1b_X5_atom_4 (s : XS) (v_1 : Int) : XR := if v_1 = 2 then g3_X5_atom_4 s else g2_X5_atom_4 s
noncomputable def f_X5_atom_4 (s : XS) (a1 : Int) : XR := g1b_X5_atom_4 s ((s 0 77 4))
set_option maxHeartbeats 4000000 in
set_option maxRecDepth 100000 in
theorem c_X5_atom_4 (l : Launch) (G : GG) (Z : RZ) (ad : Nat → Nat) (ws0 : va_W) (hT : Ty G SC ad ws0) (a1 : Int32) (l1 : 4 ≤ a1.toInt) (u1 : a1.toInt ≤ 4) : Mq l yX5_atom cX5_atom 3 none 12 G Z [.ref (ad 77), .int a1] ws0 (PV G SC ad [2, 3, 16] ws0 (fun u => (xso SC ad u = (f_X5_atom_4 (xso SC ad ws0) a1.toInt).1))) := by
  refine Mq.start (by decide) (Nat.le_of_ble_eq_true rfl) ?_
  intro p e s m below meth c A ls C0 hZ h hl
  have hl : lv_has ls 3 [(0, .ref (ad 77)), (1, .int a1)] := hl
  have h : Wt G SC ad A s s.heap [] ws0 := ⟨h, hT⟩
  obtain ⟨args, hargs⟩ : ∃ z, z = ([.ref (ad 77), .int a1] : List Value).toArray := ⟨_, rfl⟩
  rw [← hargs] at C0 ⊢
  have C0 : Cx p s m args meth c RX5 cX5_atom 3 none := C0
  obtain ⟨Q, hQ⟩ : ∃ z, z = MQ below ((PV G SC ad [2, 3, 16] ws0 (fun u => (xso SC ad u = (f_X5_atom_4 (xso SC ad ws0) a1.toInt).1))) A) args s 0 0 A := ⟨_, rfl⟩
  rw [← hQ]
  obtain ⟨FT, hFT⟩ : ∃ z, z = f_X5_atom_4 (xso SC ad ws0) a1.toInt := ⟨_, rfl⟩
  have HE : FT = f_X5_atom_4 (xso SC ad ws0) a1.toInt := hFT
  refine lv_aload_n C0.1 C0.2.1 dX5_atom_0 rfl (lv_at hl 0 rfl) ?_
  refine tg_X5_kind C0 h kSC_77 q_374 dX5_atom_1 (fun v_1 e_2 e_3 e_4 => ?_)
  refine y_c1 (n := 2) C0 (by decide) dX5_atom_4 (fun v_5 e_6 => ?_)
  replace HE : FT = g1b_X5_atom_4 (xso SC ad ws0) v_1.toInt := HE.trans (by rw [(xg0 e_2 : v_1.toInt = (xso SC ad ws0) 0 77 4)]; rfl)
  refine y_icmp_ne (tgt := 26) C0 dX5_atom_5 (by decide) (fun c_7 => ?_) (fun c_7 => ?_)
  · -- 5
    replace HE : FT = g2_X5_atom_4 (xso SC ad ws0) := HE.trans (if_neg (o24_6 e_6 c_7))
    refine lv_aload_n C0.1 C0.2.1 dX5_atom_26 rfl (lv_at hl 0 rfl) ?_
    refine tg_X5_kind C0 h kSC_77 q_374 dX5_atom_27 (fun v_8 e_9 e_10 e_11 => ?_)
    have qh_12 : v_8.toInt = v_1.toInt := congrArg Int32.toInt (e_9.symm.trans (Eq.trans rfl e_2))
    refine y_c2 (n := 40) C0 (by decide) dX5_atom_30 (fun v_13 e_14 => ?_)
    replace HE : FT = g4b_X5_atom_4 (xso SC ad ws0) v_8.toInt := HE.trans (by rw [(xg0 e_9 : v_8.toInt = (xso SC ad ws0) 0 77 4)]; rfl)
    refine y_icmp_ne (tgt := 63) C0 dX5_atom_32 (by decide) (fun c_15 => ?_) (fun c_15 => ?_)
    · -- 32
      replace HE : FT = g5_X5_atom_4 (xso SC ad ws0) := HE.trans (if_neg (o24_9 e_6 c_7 qh_12 e_14 c_15))
      refine lv_aload_n C0.1 C0.2.1 dX5_atom_63 rfl (lv_at hl 0 rfl) ?_
      refine va_ldcS C0.1 C0.2.1 C0.2.2.2.1 (sr_12 hZ) dX5_atom_64 ?_
      refine y_ci h (y_rV (As := [.ref (Z.2.1 12)]) (rest := []) C0 hZ h (c_X5_isWord l G Z ad _ h.2 12 (by decide)) k_X5_isWord q_724 q_5 q_722 kSC_77 rfl rfl rfl hl.1 rfl rfl (Nat.le_of_ble_eq_true rfl) dX5_atom_66 ⟨Nat.le_of_ble_eq_true rfl, Nat.le_of_ble_eq_true rfl⟩ ⟨Nat.le_of_ble_eq_true rfl, Nat.le_of_ble_eq_true rfl⟩) (fun r_19 H locs ws_16 h u_17 p_18 => ?_)
      obtain ⟨e_20, e_21, e_22, e_23⟩ := p_18
      replace HE : FT = g7c_X5_atom_4 (xso SC ad ws_16) r_19.toInt := HE.trans (by rw [e_20, e_21]; rfl)
      replace HE : FT = g8b_X5_atom_4 (xso SC ad ws_16) r_19.toInt := HE.trans rfl
      refine y_if_eq (tgt := 78) C0 dX5_atom_69 (by decide) (fun c_24 => ?_) (fun c_24 => ?_)
      · -- 69
        replace HE : FT = g9_X5_atom_4 (xso SC ad ws_16) := HE.trans (if_pos c_24)
        refine lv_aload_n C0.1 C0.2.1 dX5_atom_78 rfl (lv_at hl 0 rfl) ?_
        refine va_ldcS C0.1 C0.2.1 C0.2.2.2.1 (sr_13 hZ) dX5_atom_79 ?_
        refine y_ci h (y_rV (As := [.ref (Z.2.1 13)]) (rest := []) C0 hZ h (c_X5_isWord l G Z ad _ h.2 13 (by decide)) k_X5_isWord q_724 q_5 q_722 kSC_77 rfl rfl rfl hl.1 rfl rfl (Nat.le_of_ble_eq_true rfl) dX5_atom_81 ⟨Nat.le_of_ble_eq_true rfl, Nat.le_of_ble_eq_true rfl⟩ ⟨Nat.le_of_ble_eq_true rfl, Nat.le_of_ble_eq_true rfl⟩) (fun r_28 H locs ws_25 h u_26 p_27 => ?_)
        obtain ⟨e_29, e_30, e_31, e_32⟩ := p_27
        replace HE : FT = g11c_X5_atom_4 (xso SC ad ws_25) r_28.toInt := HE.trans (by rw [e_29, e_30]; rfl)
        replace HE : FT = g12b_X5_atom_4 (xso SC ad ws_25) r_28.toInt := HE.trans rfl
        refine y_if_eq (tgt := 93) C0 dX5_atom_84 (by decide) (fun c_33 => ?_) (fun c_33 => ?_)
        · -- 84
          replace HE : FT = g13_X5_atom_4 (xso SC ad ws_25) := HE.trans (if_pos c_33)
          refine lv_aload_n C0.1 C0.2.1 dX5_atom_93 rfl (lv_at hl 0 rfl) ?_
          refine va_ldcS C0.1 C0.2.1 C0.2.2.2.1 (sr_14 hZ) dX5_atom_94 ?_
          refine y_ci h (y_rV (As := [.ref (Z.2.1 14)]) (rest := []) C0 hZ h (c_X5_isWord l G Z ad _ h.2 14 (by decide)) k_X5_isWord q_724 q_5 q_722 kSC_77 rfl rfl rfl hl.1 rfl rfl (Nat.le_of_ble_eq_true rfl) dX5_atom_96 ⟨Nat.le_of_ble_eq_true rfl, Nat.le_of_ble_eq_true rfl⟩ ⟨Nat.le_of_ble_eq_true rfl, Nat.le_of_ble_eq_true rfl⟩) (fun r_37 H locs ws_34 h u_35 p_36 => ?_)
          obtain ⟨e_38, e_39, e_40, e_41⟩ := p_36
          replace HE : FT = g15c_X5_atom_4 (xso SC ad ws_34) r_37.toInt := HE.trans (by rw [e_38, e_39]; rfl)
          replace HE : FT = g16b_X5_atom_4 (xso SC ad ws_34) r_37.toInt := HE.trans rfl
          refine y_if_eq (tgt := 108) C0 dX5_atom_99 (by decide) (fun c_42 => ?_) (fun c_42 => ?_)
          · -- 99
            replace HE : FT = g17_X5_atom_4 (xso SC ad ws_34) := HE.trans (if_pos c_42)
            refine lv_aload_n C0.1 C0.2.1 dX5_atom_108 rfl (lv_at hl 0 rfl) ?_
            refine va_ldcS C0.1 C0.2.1 C0.2.2.2.1 (sr_15 hZ) dX5_atom_109 ?_
            refine y_ci h (y_rV (As := [.ref (Z.2.1 15)]) (rest := []) C0 hZ h (c_X5_isWord l G Z ad _ h.2 15 (by decide)) k_X5_isWord q_724 q_5 q_722 kSC_77 rfl rfl rfl hl.1 rfl rfl (Nat.le_of_ble_eq_true rfl) dX5_atom_111 ⟨Nat.le_of_ble_eq_true rfl, Nat.le_of_ble_eq_true rfl⟩ ⟨Nat.le_of_ble_eq_true rfl, Nat.le_of_ble_eq_true rfl⟩) (fun r_46 H locs ws_43 h u_44 p_45 => ?_)
            obtain ⟨e_47, e_48, e_49, e_50⟩ := p_45
            replace HE : FT = g19c_X5_atom_4 (xso SC ad ws_43) r_46.toInt := HE.trans (by rw [e_47, e_48]; rfl)
            replace HE : FT = g20b_X5_atom_4 (xso SC ad ws_43) r_46.toInt := HE.trans rfl
            refine y_if_eq (tgt := 123) C0 dX5_atom_114 (by decide) (fun c_51 => ?_) (fun c_51 => ?_)
            · -- 114
              replace HE : FT = g21_X5_atom_4 (xso SC ad ws_43) := HE.trans (if_pos c_51)
              refine lv_aload_n C0.1 C0.2.1 dX5_atom_123 rfl (lv_at hl 0 rfl) ?_
              refine va_ldcS C0.1 C0.2.1 C0.2.2.2.1 (sr_16 hZ) dX5_atom_124 ?_
              refine y_ci h (y_rV (As := [.ref (Z.2.1 16)]) (rest := []) C0 hZ h (c_X5_isWord l G Z ad _ h.2 16 (by decide)) k_X5_isWord q_724 q_5 q_722 kSC_77 rfl rfl rfl hl.1 rfl rfl (Nat.le_of_ble_eq_true rfl) dX5_atom_126 ⟨Nat.le_of_ble_eq_true rfl, Nat.le_of_ble_eq_true rfl⟩ ⟨Nat.le_of_ble_eq_true rfl, Nat.le_of_ble_eq_true rfl⟩) (fun r_55 H locs ws_52 h u_53 p_54 => ?_)
              obtain ⟨e_56, e_57, e_58, e_59⟩ := p_54
              replace HE : FT = g23c_X5_atom_4 (xso SC ad ws_52) r_55.toInt := HE.trans (by rw [e_56, e_57]; rfl)
              replace HE : FT = g24b_X5_atom_4 (xso SC ad ws_52) r_55.toInt := HE.trans rfl
              refine y_if_eq (tgt := 138) C0 dX5_atom_129 (by decide) (fun c_60 => ?_) (fun c_60 => ?_)
              · -- 129
                replace HE : FT = g25_X5_atom_4 (xso SC ad ws_52) := HE.trans (if_pos c_60)
                refine lv_aload_n C0.1 C0.2.1 dX5_atom_138 rfl (lv_at hl 0 rfl) ?_
                refine va_ldcS C0.1 C0.2.1 C0.2.2.2.1 (sr_17 hZ) dX5_atom_139 ?_
                refine y_ci h (y_rV (As := [.ref (Z.2.1 17)]) (rest := []) C0 hZ h (c_X5_isWord l G Z ad _ h.2 17 (by decide)) k_X5_isWord q_724 q_5 q_722 kSC_77 rfl rfl rfl hl.1 rfl rfl (Nat.le_of_ble_eq_true rfl) dX5_atom_141 ⟨Nat.le_of_ble_eq_true rfl, Nat.le_of_ble_eq_true rfl⟩ ⟨Nat.le_of_ble_eq_true rfl, Nat.le_of_ble_eq_true rfl⟩) (fun r_64 H locs ws_61 h u_62 p_63 => ?_)
                obtain ⟨e_65, e_66, e_67, e_68⟩ := p_63
                replace HE : FT = g27c_X5_atom_4 (xso SC ad ws_61) r_64.toInt := HE.trans (by rw [e_65, e_66]; rfl)
                replace HE : FT = g28b_X5_atom_4 (xso SC ad ws_61) r_64.toInt := HE.trans rfl
                refine y_if_eq (tgt := 153) C0 dX5_atom_144 (by decide) (fun c_69 => ?_) (fun c_69 => ?_)
                · -- 144
                  replace HE : FT = g29_X5_atom_4 (xso SC ad ws_61) := HE.trans (if_pos c_69)
                  refine y_c1 (n := (-1)) C0 (by decide) dX5_atom_153 (fun v_70 e_71 => ?_)
                  refine lv_istore_n (lv' := [(2, .int v_70), (0, .ref (ad 77)), (1, .int a1)]) C0.1 C0.2.1 dX5_atom_154 rfl hl (by decide) rfl (fun ls hl => ?_)
                  refine lv_iload_n C0.1 C0.2.1 dX5_atom_155 rfl (lv_at hl 0 rfl) ?_
                  refine y_if_ge (tgt := 165) C0 dX5_atom_156 (by decide) (fun c_72 => ((o24_11 e_71 c_72)).elim) (fun c_72 => ?_)
                  refine lv_aload_n C0.1 C0.2.1 dX5_atom_159 rfl (lv_at hl 1 rfl) ?_
                  refine y_c1 (n := 2) C0 (by decide) dX5_atom_160 (fun v_73 e_74 => ?_)
                  refine y_cv h (y_rV (As := [.int v_73]) (rest := []) C0 hZ h (c_X5_fail l G Z ad _ h.2 v_73) k_X5_fail q_628 q_3 q_626 kSC_77 rfl rfl rfl hl.1 rfl rfl (Nat.le_of_ble_eq_true rfl) dX5_atom_161 ⟨Nat.le_of_ble_eq_true rfl, Nat.le_of_ble_eq_true rfl⟩ ⟨Nat.le_of_ble_eq_true rfl, Nat.le_of_ble_eq_true rfl⟩) (fun H locs ws_75 h u_76 p_77 => ?_)
                  have e_78 := p_77
                  replace HE : FT = g31c_X5_atom_4 (xso SC ad ws_75) := HE.trans (by rw [e_78, e_74]; rfl)
                  replace HE : FT = ((xso SC ad ws_75), 0) := HE.trans rfl
                  rw [hQ]
                  exact y_vret C0 h (Fr.tr (Fr.tr (Fr.tr (Fr.tr (Fr.tr (Fr.tr (Fr.mono u_17 (by decide)) (Fr.mono u_26 (by decide))) (Fr.mono u_35 (by decide))) (Fr.mono u_44 (by decide))) (Fr.mono u_53 (by decide))) (Fr.mono u_62 (by decide))) (Fr.mono u_76 (by decide))) (congrArg Prod.fst (HE.symm.trans hFT)) dX5_atom_164
                · -- 144
                  replace HE : FT = g30_X5_atom_4 (xso SC ad ws_61) := HE.trans (if_neg c_69)
                  refine y_c3 (n := 1005) C0 (by decide) dX5_atom_147 (fun v_79 e_80 => ?_)
                  refine lv_goto (tgt := 154) C0.1 C0.2.1 dX5_atom_150 (by decide) ?_
                  refine lv_istore_n (lv' := [(2, .int v_79), (0, .ref (ad 77)), (1, .int a1)]) C0.1 C0.2.1 dX5_atom_154 rfl hl (by decide) rfl (fun ls hl => ?_)
                  refine lv_iload_n C0.1 C0.2.1 dX5_atom_155 rfl (lv_at hl 0 rfl) ?_
                  refine y_if_ge (tgt := 165) C0 dX5_atom_156 (by decide) (fun c_81 => ?_) (fun c_81 => ((o24_12 e_80 c_81)).elim)
                  refine lv_aload_n C0.1 C0.2.1 dX5_atom_165 rfl (lv_at hl 1 rfl) ?_
                  refine tg_X5_law C0 h kSC_77 q_380 dX5_atom_166 (fun i_82 hi_82 ei_82 => ?_)
                  refine lv_iload_n C0.1 C0.2.1 dX5_atom_169 rfl (lv_at hl 0 rfl) ?_
                  refine y_cv h (y_rV (As := [.int v_79]) (rest := []) C0 hZ h (c_X4_add l G Z ad _ h.2 i_82 hi_82 v_79) k_X4_add q_827 q_828 q_826 hi_82 rfl rfl rfl hl.1 rfl rfl (Nat.le_of_ble_eq_true rfl) dX5_atom_170 ⟨Nat.le_of_ble_eq_true rfl, Nat.le_of_ble_eq_true rfl⟩ ⟨Nat.le_of_ble_eq_true rfl, Nat.le_of_ble_eq_true rfl⟩) (fun H locs ws_83 h u_84 p_85 => ?_)
                  have e_86 := p_85
                  replace HE : FT = g32c_X5_atom_4 (xso SC ad ws_83) := HE.trans (by rw [e_86, e_80, ei_82]; rfl)
                  refine lv_aload_n C0.1 C0.2.1 dX5_atom_173 rfl (lv_at hl 1 rfl) ?_
                  refine y_cv h (y_rV (As := []) (rest := []) C0 hZ h (c_X5_advance l G Z ad _ h.2) k_X5_advance q_616 q_0 q_614 kSC_77 rfl rfl rfl hl.1 rfl rfl (Nat.le_of_ble_eq_true rfl) dX5_atom_174 ⟨Nat.le_of_ble_eq_true rfl, Nat.le_of_ble_eq_true rfl⟩ ⟨Nat.le_of_ble_eq_true rfl, Nat.le_of_ble_eq_true rfl⟩) (fun H locs ws_87 h u_88 p_89 => ?_)
                  have e_90 := p_89
                  replace HE : FT = g33c_X5_atom_4 (xso SC ad ws_87) := HE.trans (by rw [e_90]; rfl)
                  replace HE : FT = ((xso SC ad ws_87), 0) := HE.trans rfl
                  rw [hQ]
                  exact y_vret C0 h (Fr.tr (Fr.tr (Fr.tr (Fr.tr (Fr.tr (Fr.tr (Fr.tr (Fr.mono u_17 (by decide)) (Fr.mono u_26 (by decide))) (Fr.mono u_35 (by decide))) (Fr.mono u_44 (by decide))) (Fr.mono u_53 (by decide))) (Fr.mono u_62 (by decide))) (Fr.mono u_84 (by decide))) (Fr.mono u_88 (by decide))) (congrArg Prod.fst (HE.symm.trans hFT)) dX5_atom_177
              · -- 129
                replace HE : FT = g26_X5_atom_4 (xso SC ad ws_52) := HE.trans (if_neg c_60)
                refine y_c3 (n := 1004) C0 (by decide) dX5_atom_132 (fun v_91 e_92 => ?_)
                refine lv_goto (tgt := 154) C0.1 C0.2.1 dX5_atom_135 (by decide) ?_
                refine lv_istore_n (lv' := [(2, .int v_91), (0, .ref (ad 77)), (1, .int a1)]) C0.1 C0.2.1 dX5_atom_154 rfl hl (by decide) rfl (fun ls hl => ?_)
                refine lv_iload_n C0.1 C0.2.1 dX5_atom_155 rfl (lv_at hl 0 rfl) ?_
                refine y_if_ge (tgt := 165) C0 dX5_atom_156 (by decide) (fun c_93 => ?_) (fun c_93 => ((o24_13 e_92 c_93)).elim)
                refine lv_aload_n C0.1 C0.2.1 dX5_atom_165 rfl (lv_at hl 1 rfl) ?_
                refine tg_X5_law C0 h kSC_77 q_380 dX5_atom_166 (fun i_94 hi_94 ei_94 => ?_)
                refine lv_iload_n C0.1 C0.2.1 dX5_atom_169 rfl (lv_at hl 0 rfl) ?_
                refine y_cv h (y_rV (As := [.int v_91]) (rest := []) C0 hZ h (c_X4_add l G Z ad _ h.2 i_94 hi_94 v_91) k_X4_add q_827 q_828 q_826 hi_94 rfl rfl rfl hl.1 rfl rfl (Nat.le_of_ble_eq_true rfl) dX5_atom_170 ⟨Nat.le_of_ble_eq_true rfl, Nat.le_of_ble_eq_true rfl⟩ ⟨Nat.le_of_ble_eq_true rfl, Nat.le_of_ble_eq_true rfl⟩) (fun H locs ws_95 h u_96 p_97 => ?_)
                have e_98 := p_97
                replace HE : FT = g34c_X5_atom_4 (xso SC ad ws_95) := HE.trans (by rw [e_98, e_92, ei_94]; rfl)
                refine lv_aload_n C0.1 C0.2.1 dX5_atom_173 rfl (lv_at hl 1 rfl) ?_
                refine y_cv h (y_rV (As := []) (rest := []) C0 hZ h (c_X5_advance l G Z ad _ h.2) k_X5_advance q_616 q_0 q_614 kSC_77 rfl rfl rfl hl.1 rfl rfl (Nat.le_of_ble_eq_true rfl) dX5_atom_174 ⟨Nat.le_of_ble_eq_true rfl, Nat.le_of_ble_eq_true rfl⟩ ⟨Nat.le_of_ble_eq_true rfl, Nat.le_of_ble_eq_true rfl⟩) (fun H locs ws_99 h u_100 p_101 => ?_)
                have e_102 := p_101
                replace HE : FT = g35c_X5_atom_4 (xso SC ad ws_99) := HE.trans (by rw [e_102]; rfl)
                replace HE : FT = ((xso SC ad ws_99), 0) := HE.trans rfl
                rw [hQ]
                exact y_vret C0 h (Fr.tr (Fr.tr (Fr.tr (Fr.tr (Fr.tr (Fr.tr (Fr.mono u_17 (by decide)) (Fr.mono u_26 (by decide))) (Fr.mono u_35 (by decide))) (Fr.mono u_44 (by decide))) (Fr.mono u_53 (by decide))) (Fr.mono u_96 (by decide))) (Fr.mono u_100 (by decide))) (congrArg Prod.fst (HE.symm.trans hFT)) dX5_atom_177
            · -- 114
              replace HE : FT = g22_X5_atom_4 (xso SC ad ws_43) := HE.trans (if_neg c_51)
              refine y_c3 (n := 1003) C0 (by decide) dX5_atom_117 (fun v_103 e_104 => ?_)
              refine lv_goto (tgt := 154) C0.1 C0.2.1 dX5_atom_120 (by decide) ?_
              refine lv_istore_n (lv' := [(2, .int v_103), (0, .ref (ad 77)), (1, .int a1)]) C0.1 C0.2.1 dX5_atom_154 rfl hl (by decide) rfl (fun ls hl => ?_)
              refine lv_iload_n C0.1 C0.2.1 dX5_atom_155 rfl (lv_at hl 0 rfl) ?_
              refine y_if_ge (tgt := 165) C0 dX5_atom_156 (by decide) (fun c_105 => ?_) (fun c_105 => ((o24_14 e_104 c_105)).elim)
              refine lv_aload_n C0.1 C0.2.1 dX5_atom_165 rfl (lv_at hl 1 rfl) ?_
              refine tg_X5_law C0 h kSC_77 q_380 dX5_atom_166 (fun i_106 hi_106 ei_106 => ?_)
              refine lv_iload_n C0.1 C0.2.1 dX5_atom_169 rfl (lv_at hl 0 rfl) ?_
              refine y_cv h (y_rV (As := [.int v_103]) (rest := []) C0 hZ h (c_X4_add l G Z ad _ h.2 i_106 hi_106 v_103) k_X4_add q_827 q_828 q_826 hi_106 rfl rfl rfl hl.1 rfl rfl (Nat.le_of_ble_eq_true rfl) dX5_atom_170 ⟨Nat.le_of_ble_eq_true rfl, Nat.le_of_ble_eq_true rfl⟩ ⟨Nat.le_of_ble_eq_true rfl, Nat.le_of_ble_eq_true rfl⟩) (fun H locs ws_107 h u_108 p_109 => ?_)
              have e_110 := p_109
              replace HE : FT = g36c_X5_atom_4 (xso SC ad ws_107) := HE.trans (by rw [e_110, e_104, ei_106]; rfl)
              refine lv_aload_n C0.1 C0.2.1 dX5_atom_173 rfl (lv_at hl 1 rfl) ?_
              refine y_cv h (y_rV (As := []) (rest := []) C0 hZ h (c_X5_advance l G Z ad _ h.2) k_X5_advance q_616 q_0 q_614 kSC_77 rfl rfl rfl hl.1 rfl rfl (Nat.le_of_ble_eq_true rfl) dX5_atom_174 ⟨Nat.le_of_ble_eq_true rfl, Nat.le_of_ble_eq_true rfl⟩ ⟨Nat.le_of_ble_eq_true rfl, Nat.le_of_ble_eq_true rfl⟩) (fun H locs ws_111 h u_112 p_113 => ?_)
              have e_114 := p_113
              replace HE : FT = g37c_X5_atom_4 (xso SC ad ws_111) := HE.trans (by rw [e_114]; rfl)
              replace HE : FT = ((xso SC ad ws_111), 0) := HE.trans rfl
              rw [hQ]
              exact y_vret C0 h (Fr.tr (Fr.tr (Fr.tr (Fr.tr (Fr.tr (Fr.mono u_17 (by decide)) (Fr.mono u_26 (by decide))) (Fr.mono u_35 (by decide))) (Fr.mono u_44 (by decide))) (Fr.mono u_108 (by decide))) (Fr.mono u_112 (by decide))) (congrArg Prod.fst (HE.symm.trans hFT)) dX5_atom_177
          · -- 99
            replace HE : FT = g18_X5_atom_4 (xso SC ad ws_34) := HE.trans (if_neg c_42)
            refine y_c3 (n := 1002) C0 (by decide) dX5_atom_102 (fun v_115 e_116 => ?_)
            refine lv_goto (tgt := 154) C0.1 C0.2.1 dX5_atom_105 (by decide) ?_
            refine lv_istore_n (lv' := [(2, .int v_115), (0, .ref (ad 77)), (1, .int a1)]) C0.1 C0.2.1 dX5_atom_154 rfl hl (by decide) rfl (fun ls hl => ?_)
            refine lv_iload_n C0.1 C0.2.1 dX5_atom_155 rfl (lv_at hl 0 rfl) ?_
            refine y_if_ge (tgt := 165) C0 dX5_atom_156 (by decide) (fun c_117 => ?_) (fun c_117 => ((o24_15 e_116 c_117)).elim)
            refine lv_aload_n C0.1 C0.2.1 dX5_atom_165 rfl (lv_at hl 1 rfl) ?_
            refine tg_X5_law C0 h kSC_77 q_380 dX5_atom_166 (fun i_118 hi_118 ei_118 => ?_)
            refine lv_iload_n C0.1 C0.2.1 dX5_atom_169 rfl (lv_at hl 0 rfl) ?_
            refine y_cv h (y_rV (As := [.int v_115]) (rest := []) C0 hZ h (c_X4_add l G Z ad _ h.2 i_118 hi_118 v_115) k_X4_add q_827 q_828 q_826 hi_118 rfl rfl rfl hl.1 rfl rfl (Nat.le_of_ble_eq_true rfl) dX5_atom_170 ⟨Nat.le_of_ble_eq_true rfl, Nat.le_of_ble_eq_true rfl⟩ ⟨Nat.le_of_ble_eq_true rfl, Nat.le_of_ble_eq_true rfl⟩) (fun H locs ws_119 h u_120 p_121 => ?_)
            have e_122 := p_121
            replace HE : FT = g38c_X5_atom_4 (xso SC ad ws_119) := HE.trans (by rw [e_122, e_116, ei_118]; rfl)
            refine lv_aload_n C0.1 C0.2.1 dX5_atom_173 rfl (lv_at hl 1 rfl) ?_
            refine y_cv h (y_rV (As := []) (rest := []) C0 hZ h (c_X5_advance l G Z ad _ h.2) k_X5_advance q_616 q_0 q_614 kSC_77 rfl rfl rfl hl.1 rfl rfl (Nat.le_of_ble_eq_true rfl) dX5_atom_174 ⟨Nat.le_of_ble_eq_true rfl, Nat.le_of_ble_eq_true rfl⟩ ⟨Nat.le_of_ble_eq_true rfl, Nat.le_of_ble_eq_true rfl⟩) (fun H locs ws_123 h u_124 p_125 => ?_)
            have e_126 := p_125
            replace HE : FT = g39c_X5_atom_4 (xso SC ad ws_123) := HE.trans (by rw [e_126]; rfl)
            replace HE : FT = ((xso SC ad ws_123), 0) := HE.trans rfl
            rw [hQ]
            exact y_vret C0 h (Fr.tr (Fr.tr (Fr.tr (Fr.tr (Fr.mono u_17 (by decide)) (Fr.mono u_26 (by decide))) (Fr.mono u_35 (by decide))) (Fr.mono u_120 (by decide))) (Fr.mono u_124 (by decide))) (congrArg Prod.fst (HE.symm.trans hFT)) dX5_atom_177
        · -- 84
          replace HE : FT = g14_X5_atom_4 (xso SC ad ws_25) := HE.trans (if_neg c_33)
          refine y_c3 (n := 1001) C0 (by decide) dX5_atom_87 (fun v_127 e_128 => ?_)
          refine lv_goto (tgt := 154) C0.1 C0.2.1 dX5_atom_90 (by decide) ?_
          refine lv_istore_n (lv' := [(2, .int v_127), (0, .ref (ad 77)), (1, .int a1)]) C0.1 C0.2.1 dX5_atom_154 rfl hl (by decide) rfl (fun ls hl => ?_)
          refine lv_iload_n C0.1 C0.2.1 dX5_atom_155 rfl (lv_at hl 0 rfl) ?_
          refine y_if_ge (tgt := 165) C0 dX5_atom_156 (by decide) (fun c_129 => ?_) (fun c_129 => ((o24_16 e_128 c_129)).elim)
          refine lv_aload_n C0.1 C0.2.1 dX5_atom_165 rfl (lv_at hl 1 rfl) ?_
          refine tg_X5_law C0 h kSC_77 q_380 dX5_atom_166 (fun i_130 hi_130 ei_130 => ?_)
          refine lv_iload_n C0.1 C0.2.1 dX5_atom_169 rfl (lv_at hl 0 rfl) ?_
          refine y_cv h (y_rV (As := [.int v_127]) (rest := []) C0 hZ h (c_X4_add l G Z ad _ h.2 i_130 hi_130 v_127) k_X4_add q_827 q_828 q_826 hi_130 rfl rfl rfl hl.1 rfl rfl (Nat.le_of_ble_eq_true rfl) dX5_atom_170 ⟨Nat.le_of_ble_eq_true rfl, Nat.le_of_ble_eq_true rfl⟩ ⟨Nat.le_of_ble_eq_true rfl, Nat.le_of_ble_eq_true rfl⟩) (fun H locs ws_131 h u_132 p_133 => ?_)
          have e_134 := p_133
          replace HE : FT = g40c_X5_atom_4 (xso SC ad ws_131) := HE.trans (by rw [e_134, e_128, ei_130]; rfl)
          refine lv_aload_n C0.1 C0.2.1 dX5_atom_173 rfl (lv_at hl 1 rfl) ?_
          refine y_cv h (y_rV (As := []) (rest := []) C0 hZ h (c_X5_advance l G Z ad _ h.2) k_X5_advance q_616 q_0 q_614 kSC_77 rfl rfl rfl hl.1 rfl rfl (Nat.le_of_ble_eq_true rfl) dX5_atom_174 ⟨Nat.le_of_ble_eq_true rfl, Nat.le_of_ble_eq_true rfl⟩ ⟨Nat.le_of_ble_eq_true rfl, Nat.le_of_ble_eq_true rfl⟩) (fun H locs ws_135 h u_136 p_137 => ?_)
          have e_138 := p_137
          replace HE : FT = g41c_X5_atom_4 (xso SC ad ws_135) := HE.trans (by rw [e_138]; rfl)
          replace HE : FT = ((xso SC ad ws_135), 0) := HE.trans rfl
          rw [hQ]
          exact y_vret C0 h (Fr.tr (Fr.tr (Fr.tr (Fr.mono u_17 (by decide)) (Fr.mono u_26 (by decide))) (Fr.mono u_132 (by decide))) (Fr.mono u_136 (by decide))) (congrArg Prod.fst (HE.symm.trans hFT)) dX5_atom_177
      · -- 69
        replace HE : FT = g10_X5_atom_4 (xso SC ad ws_16) := HE.trans (if_neg c_24)
        refine y_c3 (n := 1000) C0 (by decide) dX5_atom_72 (fun v_139 e_140 => ?_)
        refine lv_goto (tgt := 154) C0.1 C0.2.1 dX5_atom_75 (by decide) ?_
        refine lv_istore_n (lv' := [(2, .int v_139), (0, .ref (ad 77)), (1, .int a1)]) C0.1 C0.2.1 dX5_atom_154 rfl hl (by decide) rfl (fun ls hl => ?_)
        refine lv_iload_n C0.1 C0.2.1 dX5_atom_155 rfl (lv_at hl 0 rfl) ?_
        refine y_if_ge (tgt := 165) C0 dX5_atom_156 (by decide) (fun c_141 => ?_) (fun c_141 => ((o24_17 e_140 c_141)).elim)
        refine lv_aload_n C0.1 C0.2.1 dX5_atom_165 rfl (lv_at hl 1 rfl) ?_
        refine tg_X5_law C0 h kSC_77 q_380 dX5_atom_166 (fun i_142 hi_142 ei_142 => ?_)
        refine lv_iload_n C0.1 C0.2.1 dX5_atom_169 rfl (lv_at hl 0 rfl) ?_
        refine y_cv h (y_rV (As := [.int v_139]) (rest := []) C0 hZ h (c_X4_add l G Z ad _ h.2 i_142 hi_142 v_139) k_X4_add q_827 q_828 q_826 hi_142 rfl rfl rfl hl.1 rfl rfl (Nat.le_of_ble_eq_true rfl) dX5_atom_170 ⟨Nat.le_of_ble_eq_true rfl, Nat.le_of_ble_eq_true rfl⟩ ⟨Nat.le_of_ble_eq_true rfl, Nat.le_of_ble_eq_true rfl⟩) (fun H locs ws_143 h u_144 p_145 => ?_)
        have e_146 := p_145
        replace HE : FT = g42c_X5_atom_4 (xso SC ad ws_143) := HE.trans (by rw [e_146, e_140, ei_142]; rfl)
        refine lv_aload_n C0.1 C0.2.1 dX5_atom_173 rfl (lv_at hl 1 rfl) ?_
        refine y_cv h (y_rV (As := []) (rest := []) C0 hZ h (c_X5_advance l G Z ad _ h.2) k_X5_advance q_616 q_0 q_614 kSC_77 rfl rfl rfl hl.1 rfl rfl (Nat.le_of_ble_eq_true rfl) dX5_atom_174 ⟨Nat.le_of_ble_eq_true rfl, Nat.le_of_ble_eq_true rfl⟩ ⟨Nat.le_of_ble_eq_true rfl, Nat.le_of_ble_eq_true rfl⟩) (fun H locs ws_147 h u_148 p_149 => ?_)
        have e_150 := p_149
        replace HE : FT = g43c_X5_atom_4 (xso SC ad ws_147) := HE.trans (by rw [e_150]; rfl)
        replace HE : FT = ((xso SC ad ws_147), 0) := HE.trans rfl
        rw [hQ]
        exact y_vret C0 h (Fr.tr (Fr.tr (Fr.mono u_17 (by decide)) (Fr.mono u_144 (by decide))) (Fr.mono u_148 (by decide))) (congrArg Prod.fst (HE.symm.trans hFT)) dX5_atom_177
    · -- 32
      replace HE : FT = g6_X5_atom_4 (xso SC ad ws0) := HE.trans (if_pos (o24_10 e_6 c_7 qh_12 e_14 c_15))
      refine lv_aload_n C0.1 C0.2.1 dX5_atom_35 rfl (lv_at hl 0 rfl) ?_
      refine lv_iload_n C0.1 C0.2.1 dX5_atom_36 rfl (lv_at hl 1 rfl) ?_
      refine y_ci h (y_rV (As := [.int a1]) (rest := []) C0 hZ h (c_X5_tooDeep_4 l G Z ad _ h.2 a1 (o24_82 l1 u1) (o24_83 l1 u1)) k_X5_tooDeep q_832 q_18 q_830 kSC_77 rfl rfl rfl hl.1 rfl rfl (Nat.le_of_ble_eq_true rfl) dX5_atom_37 ⟨Nat.le_of_ble_eq_true rfl, Nat.le_of_ble_eq_true rfl⟩ ⟨Nat.le_of_ble_eq_true rfl, Nat.le_of_ble_eq_true rfl⟩) (fun r_154 H locs ws_151 h u_152 p_153 => ?_)
      obtain ⟨e_155, e_156, e_157, e_158⟩ := p_153
      replace HE : FT = g44c_X5_atom_4 (xso SC ad ws_151) := HE.trans (by rw [e_155, (o24_84 l1 u1)]; rfl)
      refine y_if_ne (tgt := 177) C0 dX5_atom_40 (by decide) (fun c_159 => ((o24_71 e_157 e_158 c_159)).elim) (fun c_159 => ?_)
      refine lv_aload_n C0.1 C0.2.1 dX5_atom_43 rfl (lv_at hl 0 rfl) ?_
      refine y_cv h (y_rV (As := []) (rest := []) C0 hZ h (c_X5_advance l G Z ad _ h.2) k_X5_advance q_616 q_0 q_614 kSC_77 rfl rfl rfl hl.1 rfl rfl (Nat.le_of_ble_eq_true rfl) dX5_atom_44 ⟨Nat.le_of_ble_eq_true rfl, Nat.le_of_ble_eq_true rfl⟩ ⟨Nat.le_of_ble_eq_true rfl, Nat.le_of_ble_eq_true rfl⟩) (fun H locs ws_160 h u_161 p_162 => ?_)
      have e_163 := p_162
      replace HE : FT = g45c_X5_atom_4 (xso SC ad ws_160) := HE.trans (by rw [e_163]; rfl)
      refine lv_aload_n C0.1 C0.2.1 dX5_atom_47 rfl (lv_at hl 0 rfl) ?_
      refine lv_iload_n C0.1 C0.2.1 dX5_atom_48 rfl (lv_at hl 1 rfl) ?_
      refine y_c1 (n := 1) C0 (by decide) dX5_atom_49 (fun v_164 e_165 => ?_)
      refine y_add C0 (o24_85 l1 u1 e_165 (le_min a1) (le_max a1) (le_min v_164) (le_max v_164)) (o24_86 l1 u1 e_165 (le_min a1) (le_max a1) (le_min v_164) (le_max v_164)) dX5_atom_50 (fun v_166 e_167 => ?_)
      refine y_cv h (y_rV (As := [.int v_166]) (rest := []) C0 hZ h (c_X5_sum_5 l G Z ad _ h.2 v_166 (o24_87 l1 u1 e_165 e_167) (o24_88 l1 u1 e_165 e_167)) k_X5_sum q_816 q_15 q_814 kSC_77 rfl rfl rfl hl.1 rfl rfl (Nat.le_of_ble_eq_true rfl) dX5_atom_51 ⟨Nat.le_of_ble_eq_true rfl, Nat.le_of_ble_eq_true rfl⟩ ⟨Nat.le_of_ble_eq_true rfl, Nat.le_of_ble_eq_true rfl⟩) (fun H locs ws_168 h u_169 p_170 => ?_)
      have e_171 := p_170
      replace HE : FT = g46c_X5_atom_4 (xso SC ad ws_168) := HE.trans (by rw [e_171, e_167, e_165, (o24_89 l1 u1 e_165 e_167)]; rfl)
      refine lv_aload_n C0.1 C0.2.1 dX5_atom_54 rfl (lv_at hl 0 rfl) ?_
      refine y_c2 (n := 41) C0 (by decide) dX5_atom_55 (fun v_172 e_173 => ?_)
      refine y_cv h (y_rV (As := [.int v_172]) (rest := []) C0 hZ h (c_X5_sign l G Z ad _ h.2 v_172 (o24_77 e_173) (o24_78 e_173)) k_X5_sign q_812 q_14 q_810 kSC_77 rfl rfl rfl hl.1 rfl rfl (Nat.le_of_ble_eq_true rfl) dX5_atom_57 ⟨Nat.le_of_ble_eq_true rfl, Nat.le_of_ble_eq_true rfl⟩ ⟨Nat.le_of_ble_eq_true rfl, Nat.le_of_ble_eq_true rfl⟩) (fun H locs ws_174 h u_175 p_176 => ?_)
      have e_177 := p_176
      replace HE : FT = g47c_X5_atom_4 (xso SC ad ws_174) := HE.trans (by rw [e_177, e_173]; rfl)
      refine lv_goto (tgt := 177) C0.1 C0.2.1 dX5_atom_60 (by decide) ?_
      replace HE : FT = ((xso SC ad ws_174), 0) := HE.trans rfl
      rw [hQ]
      exact y_vret C0 h (Fr.tr (Fr.tr (Fr.tr (Fr.mono u_152 (by decide)) (Fr.mono u_161 (by decide))) u_169) (Fr.mono u_175 (by decide))) (congrArg Prod.fst (HE.symm.trans hFT)) dX5_atom_177
  · -- 5
    replace HE : FT = g3_X5_atom_4 (xso SC ad ws0) := HE.trans (if_pos (o24_7 e_6 c_7))
    refine lv_aload_n C0.1 C0.2.1 dX5_atom_8 rfl (lv_at hl 0 rfl) ?_
    refine tg_X5_law C0 h kSC_77 q_380 dX5_atom_9 (fun i_178 hi_178 ei_178 => ?_)
    refine lv_aload_n C0.1 C0.2.1 dX5_atom_12 rfl (lv_at hl 0 rfl) ?_
    refine tg_X5_number C0 h kSC_77 q_377 dX5_atom_13 (fun v_179 e_180 e_181 e_182 => ?_)
    refine y_cv h (y_rV (As := [.int v_179]) (rest := []) C0 hZ h (c_X4_add l G Z ad _ h.2 i_178 hi_178 v_179) k_X4_add q_827 q_828 q_826 hi_178 rfl rfl rfl hl.1 rfl rfl (Nat.le_of_ble_eq_true rfl) dX5_atom_16 ⟨Nat.le_of_ble_eq_true rfl, Nat.le_of_ble_eq_true rfl⟩ ⟨Nat.le_of_ble_eq_true rfl, Nat.le_of_ble_eq_true rfl⟩) (fun H locs ws_183 h u_184 p_185 => ?_)
    have e_186 := p_185
    replace HE : FT = g48c_X5_atom_4 (xso SC ad ws_183) := HE.trans (by rw [e_186, (xg0 e_180 : v_179.toInt = (xso SC ad ws0) 0 77 7), ei_178]; rfl)
    refine lv_aload_n C0.1 C0.2.1 dX5_atom_19 rfl (lv_at hl 0 rfl) ?_
    refine y_cv h (y_rV (As := []) (rest := []) C0 hZ h (c_X5_advance l G Z ad _ h.2) k_X5_advance q_616 q_0 q_614 kSC_77 rfl rfl rfl hl.1 rfl rfl (Nat.le_of_ble_eq_true rfl) dX5_atom_20 ⟨Nat.le_of_ble_eq_true rfl, Nat.le_of_ble_eq_true rfl⟩ ⟨Nat.le_of_ble_eq_true rfl, Nat.le_of_ble_eq_true rfl⟩) (fun H locs ws_187 h u_188 p_189 => ?_)
    have e_190 := p_189
    replace HE : FT = g49c_X5_atom_4 (xso SC ad ws_187) := HE.trans (by rw [e_190]; rfl)
    refine lv_goto (tgt := 177) C0.1 C0.2.1 dX5_atom_23 (by decide) ?_
    replace HE : FT = ((xso SC ad ws_187), 0) := HE.trans rfl
    rw [hQ]
    exact y_vret C0 h (Fr.tr (Fr.mono u_184 (by decide)) (Fr.mono u_188 (by decide))) (congrArg Prod.fst (HE.symm.trans hFT)) dX5_atom_177
noncomputable def g5_X5_term_4 (s : XS) : XR := (s, 0)
noncomputable def g8_X5_term_4 (s : XS) : XR := (s, 0)
noncomputable def g12c_X5_term_4 (R7 : XS → Int → XR) (s : XS) (x2_7 : Int) : XR := R7 s ((x2_7 + 1))
noncomputable def g11c_X5_term_4 (R7 : XS → Int → XR) (s : XS) (x2_7 : Int) : XR := g12c_X5_term_4 R7 ((f_X4_add s (Int.toNat (s 3 77 10)) 2002).1) x2_7
noncomputable def g10c_X5_term_4 (R7 : XS → Int → XR) (s : XS) (x2_7 : Int) : XR := g11c_X5_term_4 R7 ((f_X5_atom_4 s 4).1) x2_7
noncomputable def g9_X5_term_4 (R7 : XS → Int → XR) (s : XS) (x2_7 : Int) : XR := g10c_X5_term_4 R7 ((f_X5_advance s).1) x2_7
noncomputable def g7b_X5_term_4 (R7 : XS → Int → XR) (s : XS) (v_19 : Int) (x2_7 : Int) : XR := if v_19 = 42 then g9_X5_term_4 R7 s x2_7 else g8_X5_term_4 s
noncomputable def g6_X5_term_4 (R7 : XS → Int → XR) (s : XS) (x2_7 : Int) : XR := g7b_X5_term_4 R7 s ((s 0 77 4)) x2_7
noncomputable def g4b_X5_term_4 (R7 : XS → Int → XR) (s : XS) (x2_7 : Int) : XR := if x2_7 < 900 then g6_X5_term_4 R7 s x2_7 else g5_X5_term_4 s
noncomputable def g3l_X5_term_4 (R7 : XS → Int → XR) (s : XS) (x2_7 : Int) : XR := g4b_X5_term_4 R7 s x2_7
noncomputable def L2_X5_term_4 (n : Nat) : XS → Int → XR := Nat.rec (motive := fun _ => XS → Int → XR) (fun s _ => (s, 0)) (fun _ R7 => g3l_X5_term_4 R7) n
noncomputable def g1c_X5_term_4 (s : XS) : XR := L2_X5_term_4 (Int.toNat (900 - 0 + 1)) s 0
noncomputable def f_X5_term_4 (s : XS) (a1 : Int) : XR := g1c_X5_term_4 ((f_X5_atom_4 s a1).1)
set_option maxHeartbeats 4000000 in
set_option maxRecDepth 100000 in
theorem c_X5_term_4 (l : Launch) (G : GG) (Z : RZ) (ad : Nat → Nat) (ws0 : va_W) (hT : Ty G SC ad ws0) (a1 : Int32) (l1 : 4 ≤ a1.toInt) (u1 : a1.toInt ≤ 4) : Mq l yX5_term cX5_term 3 none 13 G Z [.ref (ad 77), .int a1] ws0 (PV G SC ad [2, 3, 16] ws0 (fun u => (xso SC ad u = (f_X5_term_4 (xso SC ad ws0) a1.toInt).1))) := by
  refine Mq.start (by decide) (Nat.le_of_ble_eq_true rfl) ?_
  intro p e s m below meth c A ls C0 hZ h hl
  have hl : lv_has ls 3 [(0, .ref (ad 77)), (1, .int a1)] := hl
  have h : Wt G SC ad A s s.heap [] ws0 := ⟨h, hT⟩
  obtain ⟨args, hargs⟩ : ∃ z, z = ([.ref (ad 77), .int a1] : List Value).toArray := ⟨_, rfl⟩
  rw [← hargs] at C0 ⊢
  have C0 : Cx p s m args meth c RX5 cX5_term 3 none := C0
  obtain ⟨Q, hQ⟩ : ∃ z, z = MQ below ((PV G SC ad [2, 3, 16] ws0 (fun u => (xso SC ad u = (f_X5_term_4 (xso SC ad ws0) a1.toInt).1))) A) args s 0 0 A := ⟨_, rfl⟩
  rw [← hQ]
  obtain ⟨FT, hFT⟩ : ∃ z, z = f_X5_term_4 (xso SC ad ws0) a1.toInt := ⟨_, rfl⟩
  have HE : FT = f_X5_term_4 (xso SC ad ws0) a1.toInt := hFT
  refine lv_aload_n C0.1 C0.2.1 dX5_term_0 rfl (lv_at hl 0 rfl) ?_
  refine lv_iload_n C0.1 C0.2.1 dX5_term_1 rfl (lv_at hl 1 rfl) ?_
  refine y_cv h (y_rV (As := [.int a1]) (rest := []) C0 hZ h (c_X5_atom_4 l G Z ad _ h.2 a1 (o24_82 l1 u1) (o24_83 l1 u1)) k_X5_atom q_824 q_17 q_822 kSC_77 rfl rfl rfl hl.1 rfl rfl (Nat.le_of_ble_eq_true rfl) dX5_term_2 ⟨Nat.le_of_ble_eq_true rfl, Nat.le_of_ble_eq_true rfl⟩ ⟨Nat.le_of_ble_eq_true rfl, Nat.le_of_ble_eq_true rfl⟩) (fun H locs ws_1 h u_2 p_3 => ?_)
  have e_4 := p_3
  replace HE : FT = g1c_X5_term_4 (xso SC ad ws_1) := HE.trans (by rw [e_4]; rfl)
  refine y_c1 (n := 0) C0 (by decide) dX5_term_5 (fun v_5 e_6 => ?_)
  refine lv_istore_n (lv' := [(2, .int v_5), (0, .ref (ad 77)), (1, .int a1)]) C0.1 C0.2.1 dX5_term_6 rfl hl (by decide) rfl (fun ls hl => ?_)
  have lp_10 : ∀ (n_12 : Nat) (x2_7 : Int32) (H : Heap) (locs : List Loc) (ls : Array Slot) (ws_8 : va_W), 900 - x2_7.toInt < (n_12 : Int) → 0 ≤ x2_7.toInt → x2_7.toInt ≤ 900 → (FT = L2_X5_term_4 n_12 (xso SC ad ws_8) x2_7.toInt) → Wt G SC ad A s H locs ws_8 → Fr SC [2, 3, 16] ws_1 ws_8 → lv_has ls 3 [(2, .int x2_7), (0, .ref (ad 77)), (1, .int a1)] → W p l e (rmd 13 0 0) s m args below meth c H locs 0 0 Q (F0 m 7 ls []) := by
    intro n_12
    induction n_12 with
    | zero => intro x2_7 H locs ls ws_8 hn_13 b_14 b_15 HE h hF_9 hl; exact ((o24_22 b_14 b_15 hn_13)).elim
    | succ n_12 ih_11 =>
      intro x2_7 H locs ls ws_8 hn_13 b_14 b_15 HE h hF_9 hl
      obtain ⟨R7, hR7⟩ : ∃ z, z = L2_X5_term_4 n_12 := ⟨_, rfl⟩
      replace HE : FT = g3l_X5_term_4 R7 (xso SC ad ws_8) x2_7.toInt := HE.trans (by rw [hR7]; rfl)
      refine lv_iload_n C0.1 C0.2.1 dX5_term_7 rfl (lv_at hl 0 rfl) ?_
      refine y_c3 (n := 900) C0 (by decide) dX5_term_8 (fun v_16 e_17 => ?_)
      replace HE : FT = g4b_X5_term_4 R7 (xso SC ad ws_8) x2_7.toInt := HE.trans rfl
      refine y_icmp_ge (tgt := 48) C0 dX5_term_11 (by decide) (fun c_18 => ?_) (fun c_18 => ?_)
      · -- 11
        replace HE : FT = g5_X5_term_4 (xso SC ad ws_8) := HE.trans (if_neg (o24_24 b_14 b_15 hn_13 e_17 c_18))
        replace HE : FT = ((xso SC ad ws_8), 0) := HE.trans rfl
        rw [hQ]
        exact y_vret C0 h (Fr.tr u_2 hF_9) (congrArg Prod.fst (HE.symm.trans hFT)) dX5_term_48
      · -- 11
        replace HE : FT = g6_X5_term_4 R7 (xso SC ad ws_8) x2_7.toInt := HE.trans (if_pos (o24_25 b_14 b_15 hn_13 e_17 c_18))
        refine lv_aload_n C0.1 C0.2.1 dX5_term_14 rfl (lv_at hl 1 rfl) ?_
        refine tg_X5_kind C0 h kSC_77 q_374 dX5_term_15 (fun v_19 e_20 e_21 e_22 => ?_)
        refine y_c2 (n := 42) C0 (by decide) dX5_term_18 (fun v_23 e_24 => ?_)
        replace HE : FT = g7b_X5_term_4 R7 (xso SC ad ws_8) v_19.toInt x2_7.toInt := HE.trans (by rw [(xg0 e_20 : v_19.toInt = (xso SC ad ws_8) 0 77 4)]; rfl)
        refine y_icmp_ne (tgt := 48) C0 dX5_term_20 (by decide) (fun c_25 => ?_) (fun c_25 => ?_)
        · -- 20
          replace HE : FT = g8_X5_term_4 (xso SC ad ws_8) := HE.trans (if_neg (o24_27 e_24 c_25))
          replace HE : FT = ((xso SC ad ws_8), 0) := HE.trans rfl
          rw [hQ]
          exact y_vret C0 h (Fr.tr u_2 hF_9) (congrArg Prod.fst (HE.symm.trans hFT)) dX5_term_48
        · -- 20
          replace HE : FT = g9_X5_term_4 R7 (xso SC ad ws_8) x2_7.toInt := HE.trans (if_pos (o24_28 e_24 c_25))
          refine lv_aload_n C0.1 C0.2.1 dX5_term_23 rfl (lv_at hl 1 rfl) ?_
          refine y_cv h (y_rV (As := []) (rest := []) C0 hZ h (c_X5_advance l G Z ad _ h.2) k_X5_advance q_616 q_0 q_614 kSC_77 rfl rfl rfl hl.1 rfl rfl (Nat.le_of_ble_eq_true rfl) dX5_term_24 ⟨Nat.le_of_ble_eq_true rfl, Nat.le_of_ble_eq_true rfl⟩ ⟨Nat.le_of_ble_eq_true rfl, Nat.le_of_ble_eq_true rfl⟩) (fun H locs ws_26 h u_27 p_28 => ?_)
          have e_29 := p_28
          replace HE : FT = g10c_X5_term_4 R7 (xso SC ad ws_26) x2_7.toInt := HE.trans (by rw [e_29]; rfl)
          refine lv_aload_n C0.1 C0.2.1 dX5_term_27 rfl (lv_at hl 1 rfl) ?_
          refine lv_iload_n C0.1 C0.2.1 dX5_term_28 rfl (lv_at hl 2 rfl) ?_
          refine y_cv h (y_rV (As := [.int a1]) (rest := []) C0 hZ h (c_X5_atom_4 l G Z ad _ h.2 a1 (o24_82 l1 u1) (o24_83 l1 u1)) k_X5_atom q_824 q_17 q_822 kSC_77 rfl rfl rfl hl.1 rfl rfl (Nat.le_of_ble_eq_true rfl) dX5_term_29 ⟨Nat.le_of_ble_eq_true rfl, Nat.le_of_ble_eq_true rfl⟩ ⟨Nat.le_of_ble_eq_true rfl, Nat.le_of_ble_eq_true rfl⟩) (fun H locs ws_30 h u_31 p_32 => ?_)
          have e_33 := p_32
          replace HE : FT = g11c_X5_term_4 R7 (xso SC ad ws_30) x2_7.toInt := HE.trans (by rw [e_33, (o24_84 l1 u1)]; rfl)
          refine lv_aload_n C0.1 C0.2.1 dX5_term_32 rfl (lv_at hl 1 rfl) ?_
          refine tg_X5_law C0 h kSC_77 q_380 dX5_term_33 (fun i_34 hi_34 ei_34 => ?_)
          refine y_c3 (n := 2002) C0 (by decide) dX5_term_36 (fun v_35 e_36 => ?_)
          refine y_cv h (y_rV (As := [.int v_35]) (rest := []) C0 hZ h (c_X4_add l G Z ad _ h.2 i_34 hi_34 v_35) k_X4_add q_827 q_828 q_826 hi_34 rfl rfl rfl hl.1 rfl rfl (Nat.le_of_ble_eq_true rfl) dX5_term_39 ⟨Nat.le_of_ble_eq_true rfl, Nat.le_of_ble_eq_true rfl⟩ ⟨Nat.le_of_ble_eq_true rfl, Nat.le_of_ble_eq_true rfl⟩) (fun H locs ws_37 h u_38 p_39 => ?_)
          have e_40 := p_39
          replace HE : FT = g12c_X5_term_4 R7 (xso SC ad ws_37) x2_7.toInt := HE.trans (by rw [e_40, e_36, ei_34]; rfl)
          refine y_inc (kp := 0) (n := 1) (fun v_41 => [(2, .int v_41), (0, .ref (ad 77)), (1, .int a1)]) C0 hl rfl (by decide) (by decide) (fun _ => rfl) (o24_29 b_14 b_15 hn_13 e_17 c_18 (le_min x2_7) (le_max x2_7) (le_min v_16) (le_max v_16)) (o24_30 b_14 b_15 hn_13 e_17 c_18 (le_min x2_7) (le_max x2_7) (le_min v_16) (le_max v_16)) dX5_term_42 (fun v_41 ls e_42 hl => ?_)
          refine lv_goto (tgt := 7) C0.1 C0.2.1 dX5_term_45 (by decide) ?_
          exact ih_11 v_41 _ _ _ _ (o24_31 b_14 b_15 hn_13 e_17 c_18 e_42) (o24_32 b_14 b_15 hn_13 e_17 c_18 e_42) (o24_33 b_14 b_15 hn_13 e_17 c_18 e_42) (((show FT = R7 (xso SC ad ws_37) v_41.toInt from HE.trans (by rw [e_42]; rfl)).trans (by rw [hR7]))) h (Fr.tr (Fr.tr (Fr.tr hF_9 (Fr.mono u_27 (by decide))) u_31) (Fr.mono u_38 (by decide))) (lv_sub hl [0, 1, 2] rfl)
  exact lp_10 ((900 - v_5.toInt + 1).toNat) v_5 _ _ _ _ (o24_34 e_6) (o24_35 e_6) (o24_36 e_6) ((show FT = L2_X5_term_4 (Int.toNat (900 - v_5.toInt + 1)) (xso SC ad ws_1) v_5.toInt from HE.trans (by rw [e_6]; rfl))) h Fr.rf (lv_sub hl [0, 1, 2] rfl)
noncomputable def g5_X5_sum_4 (s : XS) : XR := (s, 0)
noncomputable def g12c_X5_sum_4 (R7 : XS → Int → XR) (s : XS) (x2_7 : Int) : XR := R7 s ((x2_7 + 1))
noncomputable def g11c_X5_sum_4 (R7 : XS → Int → XR) (s : XS) (x2_7 : Int) : XR := g12c_X5_sum_4 R7 ((f_X4_add s (Int.toNat (s 3 77 10)) 2000).1) x2_7
noncomputable def g10c_X5_sum_4 (R7 : XS → Int → XR) (s : XS) (x2_7 : Int) : XR := g11c_X5_sum_4 R7 ((f_X5_term_4 s 4).1) x2_7
noncomputable def g8_X5_sum_4 (R7 : XS → Int → XR) (s : XS) (x2_7 : Int) : XR := g10c_X5_sum_4 R7 ((f_X5_advance s).1) x2_7
noncomputable def g14_X5_sum_4 (s : XS) : XR := (s, 0)
noncomputable def g18c_X5_sum_4 (R7 : XS → Int → XR) (s : XS) (x2_7 : Int) : XR := R7 s ((x2_7 + 1))
noncomputable def g17c_X5_sum_4 (R7 : XS → Int → XR) (s : XS) (x2_7 : Int) : XR := g18c_X5_sum_4 R7 ((f_X4_add s (Int.toNat (s 3 77 10)) 2001).1) x2_7
noncomputable def g16c_X5_sum_4 (R7 : XS → Int → XR) (s : XS) (x2_7 : Int) : XR := g17c_X5_sum_4 R7 ((f_X5_term_4 s 4).1) x2_7
noncomputable def g15_X5_sum_4 (R7 : XS → Int → XR) (s : XS) (x2_7 : Int) : XR := g16c_X5_sum_4 R7 ((f_X5_advance s).1) x2_7
noncomputable def g13b_X5_sum_4 (R7 : XS → Int → XR) (s : XS) (v_51 : Int) (x2_7 : Int) : XR := if v_51 = 45 then g15_X5_sum_4 R7 s x2_7 else g14_X5_sum_4 s
noncomputable def g9_X5_sum_4 (R7 : XS → Int → XR) (s : XS) (x2_7 : Int) : XR := g13b_X5_sum_4 R7 s ((s 0 77 4)) x2_7
noncomputable def g7b_X5_sum_4 (R7 : XS → Int → XR) (s : XS) (v_19 : Int) (x2_7 : Int) : XR := if v_19 = 43 then g8_X5_sum_4 R7 s x2_7 else g9_X5_sum_4 R7 s x2_7
noncomputable def g6_X5_sum_4 (R7 : XS → Int → XR) (s : XS) (x2_7 : Int) : XR := g7b_X5_sum_4 R7 s ((s 0 77 4)) x2_7
noncomputable def g4b_X5_sum_4 (R7 : XS → Int → XR) (s : XS) (x2_7 : Int) : XR := if x2_7 < 900 then g6_X5_sum_4 R7 s x2_7 else g5_X5_sum_4 s
noncomputable def g3l_X5_sum_4 (R7 : XS → Int → XR) (s : XS) (x2_7 : Int) : XR := g4b_X5_sum_4 R7 s x2_7
noncomputable def L2_X5_sum_4 (n : Nat) : XS → Int → XR := Nat.rec (motive := fun _ => XS → Int → XR) (fun s _ => (s, 0)) (fun _ R7 => g3l_X5_sum_4 R7) n
noncomputable def g1c_X5_sum_4 (s : XS) : XR := L2_X5_sum_4 (Int.toNat (900 - 0 + 1)) s 0
noncomputable def f_X5_sum_4 (s : XS) (a1 : Int) : XR := g1c_X5_sum_4 ((f_X5_term_4 s a1).1)
set_option maxHeartbeats 4000000 in
set_option maxRecDepth 100000 in
theorem c_X5_sum_4 (l : Launch) (G : GG) (Z : RZ) (ad : Nat → Nat) (ws0 : va_W) (hT : Ty G SC ad ws0) (a1 : Int32) (l1 : 4 ≤ a1.toInt) (u1 : a1.toInt ≤ 4) : Mq l yX5_sum cX5_sum 4 none 14 G Z [.ref (ad 77), .int a1] ws0 (PV G SC ad [2, 3, 16] ws0 (fun u => (xso SC ad u = (f_X5_sum_4 (xso SC ad ws0) a1.toInt).1))) := by
  refine Mq.start (by decide) (Nat.le_of_ble_eq_true rfl) ?_
  intro p e s m below meth c A ls C0 hZ h hl
  have hl : lv_has ls 4 [(0, .ref (ad 77)), (1, .int a1)] := hl
  have h : Wt G SC ad A s s.heap [] ws0 := ⟨h, hT⟩
  obtain ⟨args, hargs⟩ : ∃ z, z = ([.ref (ad 77), .int a1] : List Value).toArray := ⟨_, rfl⟩
  rw [← hargs] at C0 ⊢
  have C0 : Cx p s m args meth c RX5 cX5_sum 4 none := C0
  obtain ⟨Q, hQ⟩ : ∃ z, z = MQ below ((PV G SC ad [2, 3, 16] ws0 (fun u => (xso SC ad u = (f_X5_sum_4 (xso SC ad ws0) a1.toInt).1))) A) args s 0 0 A := ⟨_, rfl⟩
  rw [← hQ]
  obtain ⟨FT, hFT⟩ : ∃ z, z = f_X5_sum_4 (xso SC ad ws0) a1.toInt := ⟨_, rfl⟩
  have HE : FT = f_X5_sum_4 (xso SC ad ws0) a1.toInt := hFT
  refine lv_aload_n C0.1 C0.2.1 dX5_sum_0 rfl (lv_at hl 0 rfl) ?_
  refine lv_iload_n C0.1 C0.2.1 dX5_sum_1 rfl (lv_at hl 1 rfl) ?_
  refine y_cv h (y_rV (As := [.int a1]) (rest := []) C0 hZ h (c_X5_term_4 l G Z ad _ h.2 a1 (o24_82 l1 u1) (o24_83 l1 u1)) k_X5_term q_820 q_16 q_818 kSC_77 rfl rfl rfl hl.1 rfl rfl (Nat.le_of_ble_eq_true rfl) dX5_sum_2 ⟨Nat.le_of_ble_eq_true rfl, Nat.le_of_ble_eq_true rfl⟩ ⟨Nat.le_of_ble_eq_true rfl, Nat.le_of_ble_eq_true rfl⟩) (fun H locs ws_1 h u_2 p_3 => ?_)
  have e_4 := p_3
  replace HE : FT = g1c_X5_sum_4 (xso SC ad ws_1) := HE.trans (by rw [e_4]; rfl)
  refine y_c1 (n := 0) C0 (by decide) dX5_sum_5 (fun v_5 e_6 => ?_)
  refine lv_istore_n (lv' := [(2, .int v_5), (0, .ref (ad 77)), (1, .int a1)]) C0.1 C0.2.1 dX5_sum_6 rfl hl (by decide) rfl (fun ls hl => ?_)
  have lp_10 : ∀ (n_12 : Nat) (x2_7 : Int32) (H : Heap) (locs : List Loc) (ls : Array Slot) (ws_8 : va_W), 900 - x2_7.toInt < (n_12 : Int) → 0 ≤ x2_7.toInt → x2_7.toInt ≤ 900 → (FT = L2_X5_sum_4 n_12 (xso SC ad ws_8) x2_7.toInt) → Wt G SC ad A s H locs ws_8 → Fr SC [2, 3, 16] ws_1 ws_8 → lv_has ls 4 [(2, .int x2_7), (0, .ref (ad 77)), (1, .int a1)] → W p l e (rmd 14 0 0) s m args below meth c H locs 0 0 Q (F0 m 7 ls []) := by
    intro n_12
    induction n_12 with
    | zero => intro x2_7 H locs ls ws_8 hn_13 b_14 b_15 HE h hF_9 hl; exact ((o24_22 b_14 b_15 hn_13)).elim
    | succ n_12 ih_11 =>
      intro x2_7 H locs ls ws_8 hn_13 b_14 b_15 HE h hF_9 hl
      obtain ⟨R7, hR7⟩ : ∃ z, z = L2_X5_sum_4 n_12 := ⟨_, rfl⟩
      replace HE : FT = g3l_X5_sum_4 R7 (xso SC ad ws_8) x2_7.toInt := HE.trans (by rw [hR7]; rfl)
      refine lv_iload_n C0.1 C0.2.1 dX5_sum_7 rfl (lv_at hl 0 rfl) ?_
      refine y_c3 (n := 900) C0 (by decide) dX5_sum_8 (fun v_16 e_17 => ?_)
      replace HE : FT = g4b_X5_sum_4 R7 (xso SC ad ws_8) x2_7.toInt := HE.trans rfl
      refine y_icmp_ge (tgt := 74) C0 dX5_sum_11 (by decide) (fun c_18 => ?_) (fun c_18 => ?_)
      · -- 11
        replace HE : FT = g5_X5_sum_4 (xso SC ad ws_8) := HE.trans (if_neg (o24_24 b_14 b_15 hn_13 e_17 c_18))
        replace HE : FT = ((xso SC ad ws_8), 0) := HE.trans rfl
        rw [hQ]
        exact y_vret C0 h (Fr.tr u_2 hF_9) (congrArg Prod.fst (HE.symm.trans hFT)) dX5_sum_74
      · -- 11
        replace HE : FT = g6_X5_sum_4 R7 (xso SC ad ws_8) x2_7.toInt := HE.trans (if_pos (o24_25 b_14 b_15 hn_13 e_17 c_18))
        refine lv_aload_n C0.1 C0.2.1 dX5_sum_14 rfl (lv_at hl 1 rfl) ?_
        refine tg_X5_kind C0 h kSC_77 q_374 dX5_sum_15 (fun v_19 e_20 e_21 e_22 => ?_)
        refine y_c2 (n := 43) C0 (by decide) dX5_sum_18 (fun v_23 e_24 => ?_)
        replace HE : FT = g7b_X5_sum_4 R7 (xso SC ad ws_8) v_19.toInt x2_7.toInt := HE.trans (by rw [(xg0 e_20 : v_19.toInt = (xso SC ad ws_8) 0 77 4)]; rfl)
        refine y_icmp_eq (tgt := 32) C0 dX5_sum_20 (by decide) (fun c_25 => ?_) (fun c_25 => ?_)
        · -- 20
          replace HE : FT = g8_X5_sum_4 R7 (xso SC ad ws_8) x2_7.toInt := HE.trans (if_pos (o24_38 e_24 c_25))
          refine lv_aload_n C0.1 C0.2.1 dX5_sum_32 rfl (lv_at hl 1 rfl) ?_
          refine tg_X5_kind C0 h kSC_77 q_374 dX5_sum_33 (fun v_26 e_27 e_28 e_29 => ?_)
          have qh_30 : v_26.toInt = v_19.toInt := congrArg Int32.toInt (e_27.symm.trans (Eq.trans rfl e_20))
          refine y_c2 (n := 43) C0 (by decide) dX5_sum_36 (fun v_31 e_32 => ?_)
          refine y_icmp_ne (tgt := 47) C0 dX5_sum_38 (by decide) (fun c_33 => ((o24_40 e_24 c_25 qh_30 e_32 c_33)).elim) (fun c_33 => ?_)
          refine y_c3 (n := 2000) C0 (by decide) dX5_sum_41 (fun v_34 e_35 => ?_)
          refine lv_goto (tgt := 50) C0.1 C0.2.1 dX5_sum_44 (by decide) ?_
          refine lv_istore_n (lv' := [(3, .int v_34), (2, .int x2_7), (0, .ref (ad 77)), (1, .int a1)]) C0.1 C0.2.1 dX5_sum_50 rfl hl (by decide) rfl (fun ls hl => ?_)
          refine lv_aload_n C0.1 C0.2.1 dX5_sum_51 rfl (lv_at hl 2 rfl) ?_
          refine y_cv h (y_rV (As := []) (rest := []) C0 hZ h (c_X5_advance l G Z ad _ h.2) k_X5_advance q_616 q_0 q_614 kSC_77 rfl rfl rfl hl.1 rfl rfl (Nat.le_of_ble_eq_true rfl) dX5_sum_52 ⟨Nat.le_of_ble_eq_true rfl, Nat.le_of_ble_eq_true rfl⟩ ⟨Nat.le_of_ble_eq_true rfl, Nat.le_of_ble_eq_true rfl⟩) (fun H locs ws_36 h u_37 p_38 => ?_)
          have e_39 := p_38
          replace HE : FT = g10c_X5_sum_4 R7 (xso SC ad ws_36) x2_7.toInt := HE.trans (by rw [e_39]; rfl)
          refine lv_aload_n C0.1 C0.2.1 dX5_sum_55 rfl (lv_at hl 2 rfl) ?_
          refine lv_iload_n C0.1 C0.2.1 dX5_sum_56 rfl (lv_at hl 3 rfl) ?_
          refine y_cv h (y_rV (As := [.int a1]) (rest := []) C0 hZ h (c_X5_term_4 l G Z ad _ h.2 a1 (o24_82 l1 u1) (o24_83 l1 u1)) k_X5_term q_820 q_16 q_818 kSC_77 rfl rfl rfl hl.1 rfl rfl (Nat.le_of_ble_eq_true rfl) dX5_sum_57 ⟨Nat.le_of_ble_eq_true rfl, Nat.le_of_ble_eq_true rfl⟩ ⟨Nat.le_of_ble_eq_true rfl, Nat.le_of_ble_eq_true rfl⟩) (fun H locs ws_40 h u_41 p_42 => ?_)
          have e_43 := p_42
          replace HE : FT = g11c_X5_sum_4 R7 (xso SC ad ws_40) x2_7.toInt := HE.trans (by rw [e_43, (o24_84 l1 u1)]; rfl)
          refine lv_aload_n C0.1 C0.2.1 dX5_sum_60 rfl (lv_at hl 2 rfl) ?_
          refine tg_X5_law C0 h kSC_77 q_380 dX5_sum_61 (fun i_44 hi_44 ei_44 => ?_)
          refine lv_iload_n C0.1 C0.2.1 dX5_sum_64 rfl (lv_at hl 0 rfl) ?_
          refine y_cv h (y_rV (As := [.int v_34]) (rest := []) C0 hZ h (c_X4_add l G Z ad _ h.2 i_44 hi_44 v_34) k_X4_add q_827 q_828 q_826 hi_44 rfl rfl rfl hl.1 rfl rfl (Nat.le_of_ble_eq_true rfl) dX5_sum_65 ⟨Nat.le_of_ble_eq_true rfl, Nat.le_of_ble_eq_true rfl⟩ ⟨Nat.le_of_ble_eq_true rfl, Nat.le_of_ble_eq_true rfl⟩) (fun H locs ws_45 h u_46 p_47 => ?_)
          have e_48 := p_47
          replace HE : FT = g12c_X5_sum_4 R7 (xso SC ad ws_45) x2_7.toInt := HE.trans (by rw [e_48, (o24_41 e_35), ei_44]; rfl)
          refine y_inc (kp := 1) (n := 1) (fun v_49 => [(2, .int v_49), (3, .int v_34), (0, .ref (ad 77)), (1, .int a1)]) C0 hl rfl (by decide) (by decide) (fun _ => rfl) (o24_29 b_14 b_15 hn_13 e_17 c_18 (le_min x2_7) (le_max x2_7) (le_min v_16) (le_max v_16)) (o24_30 b_14 b_15 hn_13 e_17 c_18 (le_min x2_7) (le_max x2_7) (le_min v_16) (le_max v_16)) dX5_sum_68 (fun v_49 ls e_50 hl => ?_)
          refine lv_goto (tgt := 7) C0.1 C0.2.1 dX5_sum_71 (by decide) ?_
          exact ih_11 v_49 _ _ _ _ (o24_31 b_14 b_15 hn_13 e_17 c_18 e_50) (o24_32 b_14 b_15 hn_13 e_17 c_18 e_50) (o24_33 b_14 b_15 hn_13 e_17 c_18 e_50) (((show FT = R7 (xso SC ad ws_45) v_49.toInt from HE.trans (by rw [e_50]; rfl)).trans (by rw [hR7]))) h (Fr.tr (Fr.tr (Fr.tr hF_9 (Fr.mono u_37 (by decide))) u_41) (Fr.mono u_46 (by decide))) (lv_sub hl [0, 2, 3] rfl)
        · -- 20
          replace HE : FT = g9_X5_sum_4 R7 (xso SC ad ws_8) x2_7.toInt := HE.trans (if_neg (o24_39 e_24 c_25))
          refine lv_aload_n C0.1 C0.2.1 dX5_sum_23 rfl (lv_at hl 1 rfl) ?_
          refine tg_X5_kind C0 h kSC_77 q_374 dX5_sum_24 (fun v_51 e_52 e_53 e_54 => ?_)
          have qh_55 : v_51.toInt = v_19.toInt := congrArg Int32.toInt (e_52.symm.trans (Eq.trans rfl e_20))
          refine y_c2 (n := 45) C0 (by decide) dX5_sum_27 (fun v_56 e_57 => ?_)
          replace HE : FT = g13b_X5_sum_4 R7 (xso SC ad ws_8) v_51.toInt x2_7.toInt := HE.trans (by rw [(xg0 e_52 : v_51.toInt = (xso SC ad ws_8) 0 77 4)]; rfl)
          refine y_icmp_ne (tgt := 74) C0 dX5_sum_29 (by decide) (fun c_58 => ?_) (fun c_58 => ?_)
          · -- 29
            replace HE : FT = g14_X5_sum_4 (xso SC ad ws_8) := HE.trans (if_neg (o24_43 e_24 c_25 qh_55 e_57 c_58))
            replace HE : FT = ((xso SC ad ws_8), 0) := HE.trans rfl
            rw [hQ]
            exact y_vret C0 h (Fr.tr u_2 hF_9) (congrArg Prod.fst (HE.symm.trans hFT)) dX5_sum_74
          · -- 29
            replace HE : FT = g15_X5_sum_4 R7 (xso SC ad ws_8) x2_7.toInt := HE.trans (if_pos (o24_44 e_24 c_25 qh_55 e_57 c_58))
            refine lv_aload_n C0.1 C0.2.1 dX5_sum_32 rfl (lv_at hl 1 rfl) ?_
            refine tg_X5_kind C0 h kSC_77 q_374 dX5_sum_33 (fun v_59 e_60 e_61 e_62 => ?_)
            have qh_63 : v_59.toInt = v_19.toInt := congrArg Int32.toInt (e_60.symm.trans (Eq.trans rfl e_20))
            refine y_c2 (n := 43) C0 (by decide) dX5_sum_36 (fun v_64 e_65 => ?_)
            refine y_icmp_ne (tgt := 47) C0 dX5_sum_38 (by decide) (fun c_66 => ?_) (fun c_66 => ((o24_45 e_24 c_25 qh_55 e_57 c_58 qh_63 e_65 c_66)).elim)
            refine y_c3 (n := 2001) C0 (by decide) dX5_sum_47 (fun v_67 e_68 => ?_)
            refine lv_istore_n (lv' := [(3, .int v_67), (2, .int x2_7), (0, .ref (ad 77)), (1, .int a1)]) C0.1 C0.2.1 dX5_sum_50 rfl hl (by decide) rfl (fun ls hl => ?_)
            refine lv_aload_n C0.1 C0.2.1 dX5_sum_51 rfl (lv_at hl 2 rfl) ?_
            refine y_cv h (y_rV (As := []) (rest := []) C0 hZ h (c_X5_advance l G Z ad _ h.2) k_X5_advance q_616 q_0 q_614 kSC_77 rfl rfl rfl hl.1 rfl rfl (Nat.le_of_ble_eq_true rfl) dX5_sum_52 ⟨Nat.le_of_ble_eq_true rfl, Nat.le_of_ble_eq_true rfl⟩ ⟨Nat.le_of_ble_eq_true rfl, Nat.le_of_ble_eq_true rfl⟩) (fun H locs ws_69 h u_70 p_71 => ?_)
            have e_72 := p_71
            replace HE : FT = g16c_X5_sum_4 R7 (xso SC ad ws_69) x2_7.toInt := HE.trans (by rw [e_72]; rfl)
            refine lv_aload_n C0.1 C0.2.1 dX5_sum_55 rfl (lv_at hl 2 rfl) ?_
            refine lv_iload_n C0.1 C0.2.1 dX5_sum_56 rfl (lv_at hl 3 rfl) ?_
            refine y_cv h (y_rV (As := [.int a1]) (rest := []) C0 hZ h (c_X5_term_4 l G Z ad _ h.2 a1 (o24_82 l1 u1) (o24_83 l1 u1)) k_X5_term q_820 q_16 q_818 kSC_77 rfl rfl rfl hl.1 rfl rfl (Nat.le_of_ble_eq_true rfl) dX5_sum_57 ⟨Nat.le_of_ble_eq_true rfl, Nat.le_of_ble_eq_true rfl⟩ ⟨Nat.le_of_ble_eq_true rfl, Nat.le_of_ble_eq_true rfl⟩) (fun H locs ws_73 h u_74 p_75 => ?_)
            have e_76 := p_75
            replace HE : FT = g17c_X5_sum_4 R7 (xso SC ad ws_73) x2_7.toInt := HE.trans (by rw [e_76, (o24_84 l1 u1)]; rfl)
            refine lv_aload_n C0.1 C0.2.1 dX5_sum_60 rfl (lv_at hl 2 rfl) ?_
            refine tg_X5_law C0 h kSC_77 q_380 dX5_sum_61 (fun i_77 hi_77 ei_77 => ?_)
            refine lv_iload_n C0.1 C0.2.1 dX5_sum_64 rfl (lv_at hl 0 rfl) ?_
            refine y_cv h (y_rV (As := [.int v_67]) (rest := []) C0 hZ h (c_X4_add l G Z ad _ h.2 i_77 hi_77 v_67) k_X4_add q_827 q_828 q_826 hi_77 rfl rfl rfl hl.1 rfl rfl (Nat.le_of_ble_eq_true rfl) dX5_sum_65 ⟨Nat.le_of_ble_eq_true rfl, Nat.le_of_ble_eq_true rfl⟩ ⟨Nat.le_of_ble_eq_true rfl, Nat.le_of_ble_eq_true rfl⟩) (fun H locs ws_78 h u_79 p_80 => ?_)
            have e_81 := p_80
            replace HE : FT = g18c_X5_sum_4 R7 (xso SC ad ws_78) x2_7.toInt := HE.trans (by rw [e_81, (o24_46 e_68), ei_77]; rfl)
            refine y_inc (kp := 1) (n := 1) (fun v_82 => [(2, .int v_82), (3, .int v_67), (0, .ref (ad 77)), (1, .int a1)]) C0 hl rfl (by decide) (by decide) (fun _ => rfl) (o24_29 b_14 b_15 hn_13 e_17 c_18 (le_min x2_7) (le_max x2_7) (le_min v_16) (le_max v_16)) (o24_30 b_14 b_15 hn_13 e_17 c_18 (le_min x2_7) (le_max x2_7) (le_min v_16) (le_max v_16)) dX5_sum_68 (fun v_82 ls e_83 hl => ?_)
            refine lv_goto (tgt := 7) C0.1 C0.2.1 dX5_sum_71 (by decide) ?_
            exact ih_11 v_82 _ _ _ _ (o24_31 b_14 b_15 hn_13 e_17 c_18 e_83) (o24_32 b_14 b_15 hn_13 e_17 c_18 e_83) (o24_33 b_14 b_15 hn_13 e_17 c_18 e_83) (((show FT = R7 (xso SC ad ws_78) v_82.toInt from HE.trans (by rw [e_83]; rfl)).trans (by rw [hR7]))) h (Fr.tr (Fr.tr (Fr.tr hF_9 (Fr.mono u_70 (by decide))) u_74) (Fr.mono u_79 (by decide))) (lv_sub hl [0, 2, 3] rfl)
  exact lp_10 ((900 - v_5.toInt + 1).toNat) v_5 _ _ _ _ (o24_34 e_6) (o24_35 e_6) (o24_36 e_6) ((show FT = L2_X5_sum_4 (Int.toNat (900 - v_5.toInt + 1)) (xso SC ad ws_1) v_5.toInt from HE.trans (by rw [e_6]; rfl))) h Fr.rf (lv_sub hl [0, 1, 2] rfl)
noncomputable def g18c_X5_unit_4 (s : XS) : XR := (s, 0)
noncomputable def g16_X5_unit_4 (s : XS) : XR := g18c_X5_unit_4 ((f_X5_fail s 2).1)
noncomputable def g21c_X5_unit_4 (s : XS) : XR := (s, 0)
noncomputable def g20c_X5_unit_4 (s : XS) : XR := g21c_X5_unit_4 ((f_X4_add s (Int.toNat (s 3 77 10)) 2005).1)
noncomputable def g19c_X5_unit_4 (s : XS) : XR := g20c_X5_unit_4 ((f_X5_sum_4 s 4).1)
noncomputable def g17_X5_unit_4 (s : XS) : XR := g19c_X5_unit_4 ((f_X5_advance s).1)
noncomputable def g15b_X5_unit_4 (s : XS) (v_36 : Int) : XR := if v_36 = 62 then g17_X5_unit_4 s else g16_X5_unit_4 s
noncomputable def g13_X5_unit_4 (s : XS) : XR := g15b_X5_unit_4 s ((s 0 77 4))
noncomputable def g24c_X5_unit_4 (s : XS) : XR := (s, 0)
noncomputable def g23c_X5_unit_4 (s : XS) : XR := g24c_X5_unit_4 ((f_X4_add s (Int.toNat (s 3 77 10)) 2004).1)
noncomputable def g22c_X5_unit_4 (s : XS) : XR := g23c_X5_unit_4 ((f_X5_sum_4 s 4).1)
noncomputable def g14_X5_unit_4 (s : XS) : XR := g22c_X5_unit_4 ((f_X5_advance s).1)
noncomputable def g12b_X5_unit_4 (s : XS) (v_28 : Int) : XR := if v_28 = 60 then g14_X5_unit_4 s else g13_X5_unit_4 s
noncomputable def g10_X5_unit_4 (s : XS) : XR := g12b_X5_unit_4 s ((s 0 77 4))
noncomputable def g27c_X5_unit_4 (s : XS) : XR := (s, 0)
noncomputable def g26c_X5_unit_4 (s : XS) : XR := g27c_X5_unit_4 ((f_X4_add s (Int.toNat (s 3 77 10)) 2003).1)
noncomputable def g25c_X5_unit_4 (s : XS) : XR := g26c_X5_unit_4 ((f_X5_sum_4 s 4).1)
noncomputable def g11_X5_unit_4 (s : XS) : XR := g25c_X5_unit_4 ((f_X5_advance s).1)
noncomputable def g9b_X5_unit_4 (s : XS) (v_21 : Int) : XR := if v_21 = 61 then g11_X5_unit_4 s else g10_X5_unit_4 s
noncomputable def g8c_X5_unit_4 (s : XS) : XR := g9b_X5_unit_4 s ((s 0 77 4))
noncomputable def g6_X5_unit_4 (s : XS) : XR := g8c_X5_unit_4 ((f_X5_sum_4 s 4).1)
noncomputable def g31c_X5_unit_4 (s : XS) : XR := (s, 0)
noncomputable def g30c_X5_unit_4 (s : XS) : XR := g31c_X5_unit_4 ((f_X5_sign s 93).1)
noncomputable def g29c_X5_unit_4 (s : XS) : XR := g30c_X5_unit_4 ((f_X5_truth_5 s (4 + 1)).1)
noncomputable def g28c_X5_unit_4 (s : XS) : XR := g29c_X5_unit_4 ((f_X5_advance s).1)
noncomputable def g7_X5_unit_4 (s : XS) : XR := g28c_X5_unit_4 ((f_X5_tooDeep_4 s 4).1)
noncomputable def g5b_X5_unit_4 (s : XS) (v_10 : Int) : XR := if v_10 = 91 then g7_X5_unit_4 s else g6_X5_unit_4 s
noncomputable def g3_X5_unit_4 (s : XS) : XR := g5b_X5_unit_4 s ((s 0 77 4))
noncomputable def g36c_X5_unit_4 (s : XS) : XR := (s, 0)
noncomputable def g35c_X5_unit_4 (s : XS) : XR := g36c_X5_unit_4 ((f_X4_add s (Int.toNat (s 3 77 10)) 2003).1)
noncomputable def g34c_X5_unit_4 (s : XS) : XR := g35c_X5_unit_4 ((f_X4_add s (Int.toNat (s 3 77 10)) 0).1)
noncomputable def g33c_X5_unit_4 (s : XS) : XR := g34c_X5_unit_4 ((f_X5_unit_5 s (4 + 1)).1)
noncomputable def g32c_X5_unit_4 (s : XS) : XR := g33c_X5_unit_4 ((f_X5_advance s).1)
noncomputable def g4_X5_unit_4 (s : XS) : XR := g32c_X5_unit_4 ((f_X5_tooDeep_4 s 4).1)
noncomputable def g2b_X5_unit_4 (s : XS) (r_4 : Int) : XR := if r_4 = 0 then g3_X5_unit_4 s else g4_X5_unit_4 s
noncomputable def g1c_X5_unit_4 (s : XS) (r_4 : Int) : XR := g2b_X5_unit_4 s r_4
noncomputable def f_X5_unit_4 (s : XS) (a1 : Int) : XR := g1c_X5_unit_4 ((f_X5_isWord s 19).1) (((f_X5_isWord s 19).2))
set_option maxHeartbeats 4000000 in
set_option maxRecDepth 100000 in
theorem c_X5_unit_4 (l : Launch) (G : GG) (Z : RZ) (ad : Nat → Nat) (ws0 : va_W) (hT : Ty G SC ad ws0) (a1 : Int32) (l1 : 4 ≤ a1.toInt) (u1 : a1.toInt ≤ 4) : Mq l yX5_unit cX5_unit 3 none 15 G Z [.ref (ad 77), .int a1] ws0 (PV G SC ad [2, 3, 16] ws0 (fun u => (xso SC ad u = (f_X5_unit_4 (xso SC ad ws0) a1.toInt).1))) := by
  refine Mq.start (by decide) (Nat.le_of_ble_eq_true rfl) ?_
  intro p e s m below meth c A ls C0 hZ h hl
  have hl : lv_has ls 3 [(0, .ref (ad 77)), (1, .int a1)] := hl
  have h : Wt G SC ad A s s.heap [] ws0 := ⟨h, hT⟩
  obtain ⟨args, hargs⟩ : ∃ z, z = ([.ref (ad 77), .int a1] : List Value).toArray := ⟨_, rfl⟩
  rw [← hargs] at C0 ⊢
  have C0 : Cx p s m args meth c RX5 cX5_unit 3 none := C0
  obtain ⟨Q, hQ⟩ : ∃ z, z = MQ below ((PV G SC ad [2, 3, 16] ws0 (fun u => (xso SC ad u = (f_X5_unit_4 (xso SC ad ws0) a1.toInt).1))) A) args s 0 0 A := ⟨_, rfl⟩
  rw [← hQ]
  obtain ⟨FT, hFT⟩ : ∃ z, z = f_X5_unit_4 (xso SC ad ws0) a1.toInt := ⟨_, rfl⟩
  have HE : FT = f_X5_unit_4 (xso SC ad ws0) a1.toInt := hFT
  refine lv_aload_n C0.1 C0.2.1 dX5_unit_0 rfl (lv_at hl 0 rfl) ?_
  refine va_ldcS C0.1 C0.2.1 C0.2.2.2.1 (sr_19 hZ) dX5_unit_1 ?_
  refine y_ci h (y_rV (As := [.ref (Z.2.1 19)]) (rest := []) C0 hZ h (c_X5_isWord l G Z ad _ h.2 19 (by decide)) k_X5_isWord q_724 q_5 q_722 kSC_77 rfl rfl rfl hl.1 rfl rfl (Nat.le_of_ble_eq_true rfl) dX5_unit_3 ⟨Nat.le_of_ble_eq_true rfl, Nat.le_of_ble_eq_true rfl⟩ ⟨Nat.le_of_ble_eq_true rfl, Nat.le_of_ble_eq_true rfl⟩) (fun r_4 H locs ws_1 h u_2 p_3 => ?_)
  obtain ⟨e_5, e_6, e_7, e_8⟩ := p_3
  replace HE : FT = g1c_X5_unit_4 (xso SC ad ws_1) r_4.toInt := HE.trans (by rw [e_5, e_6]; rfl)
  replace HE : FT = g2b_X5_unit_4 (xso SC ad ws_1) r_4.toInt := HE.trans rfl
  refine y_if_eq (tgt := 49) C0 dX5_unit_6 (by decide) (fun c_9 => ?_) (fun c_9 => ?_)
  · -- 6
    replace HE : FT = g3_X5_unit_4 (xso SC ad ws_1) := HE.trans (if_pos c_9)
    refine lv_aload_n C0.1 C0.2.1 dX5_unit_49 rfl (lv_at hl 0 rfl) ?_
    refine tg_X5_kind C0 h kSC_77 q_374 dX5_unit_50 (fun v_10 e_11 e_12 e_13 => ?_)
    refine y_c2 (n := 91) C0 (by decide) dX5_unit_53 (fun v_14 e_15 => ?_)
    replace HE : FT = g5b_X5_unit_4 (xso SC ad ws_1) v_10.toInt := HE.trans (by rw [(xg0 e_11 : v_10.toInt = (xso SC ad ws_1) 0 77 4)]; rfl)
    refine y_icmp_ne (tgt := 86) C0 dX5_unit_55 (by decide) (fun c_16 => ?_) (fun c_16 => ?_)
    · -- 55
      replace HE : FT = g6_X5_unit_4 (xso SC ad ws_1) := HE.trans (if_neg (o24_48 e_15 c_16))
      refine lv_aload_n C0.1 C0.2.1 dX5_unit_86 rfl (lv_at hl 0 rfl) ?_
      refine lv_iload_n C0.1 C0.2.1 dX5_unit_87 rfl (lv_at hl 1 rfl) ?_
      refine y_cv h (y_rV (As := [.int a1]) (rest := []) C0 hZ h (c_X5_sum_4 l G Z ad _ h.2 a1 (o24_82 l1 u1) (o24_83 l1 u1)) k_X5_sum q_816 q_15 q_814 kSC_77 rfl rfl rfl hl.1 rfl rfl (Nat.le_of_ble_eq_true rfl) dX5_unit_88 ⟨Nat.le_of_ble_eq_true rfl, Nat.le_of_ble_eq_true rfl⟩ ⟨Nat.le_of_ble_eq_true rfl, Nat.le_of_ble_eq_true rfl⟩) (fun H locs ws_17 h u_18 p_19 => ?_)
      have e_20 := p_19
      replace HE : FT = g8c_X5_unit_4 (xso SC ad ws_17) := HE.trans (by rw [e_20, (o24_84 l1 u1)]; rfl)
      refine lv_aload_n C0.1 C0.2.1 dX5_unit_91 rfl (lv_at hl 0 rfl) ?_
      refine tg_X5_kind C0 h kSC_77 q_374 dX5_unit_92 (fun v_21 e_22 e_23 e_24 => ?_)
      refine y_c2 (n := 61) C0 (by decide) dX5_unit_95 (fun v_25 e_26 => ?_)
      replace HE : FT = g9b_X5_unit_4 (xso SC ad ws_17) v_21.toInt := HE.trans (by rw [(xg0 e_22 : v_21.toInt = (xso SC ad ws_17) 0 77 4)]; rfl)
      refine y_icmp_ne (tgt := 106) C0 dX5_unit_97 (by decide) (fun c_27 => ?_) (fun c_27 => ?_)
      · -- 97
        replace HE : FT = g10_X5_unit_4 (xso SC ad ws_17) := HE.trans (if_neg (o24_51 e_26 c_27))
        refine lv_aload_n C0.1 C0.2.1 dX5_unit_106 rfl (lv_at hl 0 rfl) ?_
        refine tg_X5_kind C0 h kSC_77 q_374 dX5_unit_107 (fun v_28 e_29 e_30 e_31 => ?_)
        have qh_32 : v_28.toInt = v_21.toInt := congrArg Int32.toInt (e_29.symm.trans (Eq.trans rfl e_22))
        refine y_c2 (n := 60) C0 (by decide) dX5_unit_110 (fun v_33 e_34 => ?_)
        replace HE : FT = g12b_X5_unit_4 (xso SC ad ws_17) v_28.toInt := HE.trans (by rw [(xg0 e_29 : v_28.toInt = (xso SC ad ws_17) 0 77 4)]; rfl)
        refine y_icmp_ne (tgt := 121) C0 dX5_unit_112 (by decide) (fun c_35 => ?_) (fun c_35 => ?_)
        · -- 112
          replace HE : FT = g13_X5_unit_4 (xso SC ad ws_17) := HE.trans (if_neg (o24_54 e_26 c_27 qh_32 e_34 c_35))
          refine lv_aload_n C0.1 C0.2.1 dX5_unit_121 rfl (lv_at hl 0 rfl) ?_
          refine tg_X5_kind C0 h kSC_77 q_374 dX5_unit_122 (fun v_36 e_37 e_38 e_39 => ?_)
          have qh_40 : v_36.toInt = v_21.toInt := congrArg Int32.toInt (e_37.symm.trans (Eq.trans rfl e_22))
          refine y_c2 (n := 62) C0 (by decide) dX5_unit_125 (fun v_41 e_42 => ?_)
          replace HE : FT = g15b_X5_unit_4 (xso SC ad ws_17) v_36.toInt := HE.trans (by rw [(xg0 e_37 : v_36.toInt = (xso SC ad ws_17) 0 77 4)]; rfl)
          refine y_icmp_ne (tgt := 136) C0 dX5_unit_127 (by decide) (fun c_43 => ?_) (fun c_43 => ?_)
          · -- 127
            replace HE : FT = g16_X5_unit_4 (xso SC ad ws_17) := HE.trans (if_neg (o24_57 e_26 c_27 qh_32 e_34 c_35 qh_40 e_42 c_43))
            refine y_c1 (n := (-1)) C0 (by decide) dX5_unit_136 (fun v_44 e_45 => ?_)
            refine lv_istore_n (lv' := [(2, .int v_44), (0, .ref (ad 77)), (1, .int a1)]) C0.1 C0.2.1 dX5_unit_137 rfl hl (by decide) rfl (fun ls hl => ?_)
            refine lv_iload_n C0.1 C0.2.1 dX5_unit_138 rfl (lv_at hl 0 rfl) ?_
            refine y_if_ge (tgt := 148) C0 dX5_unit_139 (by decide) (fun c_46 => ((o24_11 e_45 c_46)).elim) (fun c_46 => ?_)
            refine lv_aload_n C0.1 C0.2.1 dX5_unit_142 rfl (lv_at hl 1 rfl) ?_
            refine y_c1 (n := 2) C0 (by decide) dX5_unit_143 (fun v_47 e_48 => ?_)
            refine y_cv h (y_rV (As := [.int v_47]) (rest := []) C0 hZ h (c_X5_fail l G Z ad _ h.2 v_47) k_X5_fail q_628 q_3 q_626 kSC_77 rfl rfl rfl hl.1 rfl rfl (Nat.le_of_ble_eq_true rfl) dX5_unit_144 ⟨Nat.le_of_ble_eq_true rfl, Nat.le_of_ble_eq_true rfl⟩ ⟨Nat.le_of_ble_eq_true rfl, Nat.le_of_ble_eq_true rfl⟩) (fun H locs ws_49 h u_50 p_51 => ?_)
            have e_52 := p_51
            replace HE : FT = g18c_X5_unit_4 (xso SC ad ws_49) := HE.trans (by rw [e_52, e_48]; rfl)
            replace HE : FT = ((xso SC ad ws_49), 0) := HE.trans rfl
            rw [hQ]
            exact y_vret C0 h (Fr.tr (Fr.tr (Fr.mono u_2 (by decide)) u_18) (Fr.mono u_50 (by decide))) (congrArg Prod.fst (HE.symm.trans hFT)) dX5_unit_147
          · -- 127
            replace HE : FT = g17_X5_unit_4 (xso SC ad ws_17) := HE.trans (if_pos (o24_58 e_26 c_27 qh_32 e_34 c_35 qh_40 e_42 c_43))
            refine y_c3 (n := 2005) C0 (by decide) dX5_unit_130 (fun v_53 e_54 => ?_)
            refine lv_goto (tgt := 137) C0.1 C0.2.1 dX5_unit_133 (by decide) ?_
            refine lv_istore_n (lv' := [(2, .int v_53), (0, .ref (ad 77)), (1, .int a1)]) C0.1 C0.2.1 dX5_unit_137 rfl hl (by decide) rfl (fun ls hl => ?_)
            refine lv_iload_n C0.1 C0.2.1 dX5_unit_138 rfl (lv_at hl 0 rfl) ?_
            refine y_if_ge (tgt := 148) C0 dX5_unit_139 (by decide) (fun c_55 => ?_) (fun c_55 => ((o24_59 e_54 c_55)).elim)
            refine lv_aload_n C0.1 C0.2.1 dX5_unit_148 rfl (lv_at hl 1 rfl) ?_
            refine y_cv h (y_rV (As := []) (rest := []) C0 hZ h (c_X5_advance l G Z ad _ h.2) k_X5_advance q_616 q_0 q_614 kSC_77 rfl rfl rfl hl.1 rfl rfl (Nat.le_of_ble_eq_true rfl) dX5_unit_149 ⟨Nat.le_of_ble_eq_true rfl, Nat.le_of_ble_eq_true rfl⟩ ⟨Nat.le_of_ble_eq_true rfl, Nat.le_of_ble_eq_true rfl⟩) (fun H locs ws_56 h u_57 p_58 => ?_)
            have e_59 := p_58
            replace HE : FT = g19c_X5_unit_4 (xso SC ad ws_56) := HE.trans (by rw [e_59]; rfl)
            refine lv_aload_n C0.1 C0.2.1 dX5_unit_152 rfl (lv_at hl 1 rfl) ?_
            refine lv_iload_n C0.1 C0.2.1 dX5_unit_153 rfl (lv_at hl 2 rfl) ?_
            refine y_cv h (y_rV (As := [.int a1]) (rest := []) C0 hZ h (c_X5_sum_4 l G Z ad _ h.2 a1 (o24_82 l1 u1) (o24_83 l1 u1)) k_X5_sum q_816 q_15 q_814 kSC_77 rfl rfl rfl hl.1 rfl rfl (Nat.le_of_ble_eq_true rfl) dX5_unit_154 ⟨Nat.le_of_ble_eq_true rfl, Nat.le_of_ble_eq_true rfl⟩ ⟨Nat.le_of_ble_eq_true rfl, Nat.le_of_ble_eq_true rfl⟩) (fun H locs ws_60 h u_61 p_62 => ?_)
            have e_63 := p_62
            replace HE : FT = g20c_X5_unit_4 (xso SC ad ws_60) := HE.trans (by rw [e_63, (o24_84 l1 u1)]; rfl)
            refine lv_aload_n C0.1 C0.2.1 dX5_unit_157 rfl (lv_at hl 1 rfl) ?_
            refine tg_X5_law C0 h kSC_77 q_380 dX5_unit_158 (fun i_64 hi_64 ei_64 => ?_)
            refine lv_iload_n C0.1 C0.2.1 dX5_unit_161 rfl (lv_at hl 0 rfl) ?_
            refine y_cv h (y_rV (As := [.int v_53]) (rest := []) C0 hZ h (c_X4_add l G Z ad _ h.2 i_64 hi_64 v_53) k_X4_add q_827 q_828 q_826 hi_64 rfl rfl rfl hl.1 rfl rfl (Nat.le_of_ble_eq_true rfl) dX5_unit_162 ⟨Nat.le_of_ble_eq_true rfl, Nat.le_of_ble_eq_true rfl⟩ ⟨Nat.le_of_ble_eq_true rfl, Nat.le_of_ble_eq_true rfl⟩) (fun H locs ws_65 h u_66 p_67 => ?_)
            have e_68 := p_67
            replace HE : FT = g21c_X5_unit_4 (xso SC ad ws_65) := HE.trans (by rw [e_68, (o24_60 e_54 c_55), ei_64]; rfl)
            replace HE : FT = ((xso SC ad ws_65), 0) := HE.trans rfl
            rw [hQ]
            exact y_vret C0 h (Fr.tr (Fr.tr (Fr.tr (Fr.tr (Fr.mono u_2 (by decide)) u_18) (Fr.mono u_57 (by decide))) u_61) (Fr.mono u_66 (by decide))) (congrArg Prod.fst (HE.symm.trans hFT)) dX5_unit_165
        · -- 112
          replace HE : FT = g14_X5_unit_4 (xso SC ad ws_17) := HE.trans (if_pos (o24_55 e_26 c_27 qh_32 e_34 c_35))
          refine y_c3 (n := 2004) C0 (by decide) dX5_unit_115 (fun v_69 e_70 => ?_)
          refine lv_goto (tgt := 137) C0.1 C0.2.1 dX5_unit_118 (by decide) ?_
          refine lv_istore_n (lv' := [(2, .int v_69), (0, .ref (ad 77)), (1, .int a1)]) C0.1 C0.2.1 dX5_unit_137 rfl hl (by decide) rfl (fun ls hl => ?_)
          refine lv_iload_n C0.1 C0.2.1 dX5_unit_138 rfl (lv_at hl 0 rfl) ?_
          refine y_if_ge (tgt := 148) C0 dX5_unit_139 (by decide) (fun c_71 => ?_) (fun c_71 => ((o24_61 e_70 c_71)).elim)
          refine lv_aload_n C0.1 C0.2.1 dX5_unit_148 rfl (lv_at hl 1 rfl) ?_
          refine y_cv h (y_rV (As := []) (rest := []) C0 hZ h (c_X5_advance l G Z ad _ h.2) k_X5_advance q_616 q_0 q_614 kSC_77 rfl rfl rfl hl.1 rfl rfl (Nat.le_of_ble_eq_true rfl) dX5_unit_149 ⟨Nat.le_of_ble_eq_true rfl, Nat.le_of_ble_eq_true rfl⟩ ⟨Nat.le_of_ble_eq_true rfl, Nat.le_of_ble_eq_true rfl⟩) (fun H locs ws_72 h u_73 p_74 => ?_)
          have e_75 := p_74
          replace HE : FT = g22c_X5_unit_4 (xso SC ad ws_72) := HE.trans (by rw [e_75]; rfl)
          refine lv_aload_n C0.1 C0.2.1 dX5_unit_152 rfl (lv_at hl 1 rfl) ?_
          refine lv_iload_n C0.1 C0.2.1 dX5_unit_153 rfl (lv_at hl 2 rfl) ?_
          refine y_cv h (y_rV (As := [.int a1]) (rest := []) C0 hZ h (c_X5_sum_4 l G Z ad _ h.2 a1 (o24_82 l1 u1) (o24_83 l1 u1)) k_X5_sum q_816 q_15 q_814 kSC_77 rfl rfl rfl hl.1 rfl rfl (Nat.le_of_ble_eq_true rfl) dX5_unit_154 ⟨Nat.le_of_ble_eq_true rfl, Nat.le_of_ble_eq_true rfl⟩ ⟨Nat.le_of_ble_eq_true rfl, Nat.le_of_ble_eq_true rfl⟩) (fun H locs ws_76 h u_77 p_78 => ?_)
          have e_79 := p_78
          replace HE : FT = g23c_X5_unit_4 (xso SC ad ws_76) := HE.trans (by rw [e_79, (o24_84 l1 u1)]; rfl)
          refine lv_aload_n C0.1 C0.2.1 dX5_unit_157 rfl (lv_at hl 1 rfl) ?_
          refine tg_X5_law C0 h kSC_77 q_380 dX5_unit_158 (fun i_80 hi_80 ei_80 => ?_)
          refine lv_iload_n C0.1 C0.2.1 dX5_unit_161 rfl (lv_at hl 0 rfl) ?_
          refine y_cv h (y_rV (As := [.int v_69]) (rest := []) C0 hZ h (c_X4_add l G Z ad _ h.2 i_80 hi_80 v_69) k_X4_add q_827 q_828 q_826 hi_80 rfl rfl rfl hl.1 rfl rfl (Nat.le_of_ble_eq_true rfl) dX5_unit_162 ⟨Nat.le_of_ble_eq_true rfl, Nat.le_of_ble_eq_true rfl⟩ ⟨Nat.le_of_ble_eq_true rfl, Nat.le_of_ble_eq_true rfl⟩) (fun H locs ws_81 h u_82 p_83 => ?_)
          have e_84 := p_83
          replace HE : FT = g24c_X5_unit_4 (xso SC ad ws_81) := HE.trans (by rw [e_84, (o24_62 e_70 c_71), ei_80]; rfl)
          replace HE : FT = ((xso SC ad ws_81), 0) := HE.trans rfl
          rw [hQ]
          exact y_vret C0 h (Fr.tr (Fr.tr (Fr.tr (Fr.tr (Fr.mono u_2 (by decide)) u_18) (Fr.mono u_73 (by decide))) u_77) (Fr.mono u_82 (by decide))) (congrArg Prod.fst (HE.symm.trans hFT)) dX5_unit_165
      · -- 97
        replace HE : FT = g11_X5_unit_4 (xso SC ad ws_17) := HE.trans (if_pos (o24_52 e_26 c_27))
        refine y_c3 (n := 2003) C0 (by decide) dX5_unit_100 (fun v_85 e_86 => ?_)
        refine lv_goto (tgt := 137) C0.1 C0.2.1 dX5_unit_103 (by decide) ?_
        refine lv_istore_n (lv' := [(2, .int v_85), (0, .ref (ad 77)), (1, .int a1)]) C0.1 C0.2.1 dX5_unit_137 rfl hl (by decide) rfl (fun ls hl => ?_)
        refine lv_iload_n C0.1 C0.2.1 dX5_unit_138 rfl (lv_at hl 0 rfl) ?_
        refine y_if_ge (tgt := 148) C0 dX5_unit_139 (by decide) (fun c_87 => ?_) (fun c_87 => ((o24_63 e_86 c_87)).elim)
        refine lv_aload_n C0.1 C0.2.1 dX5_unit_148 rfl (lv_at hl 1 rfl) ?_
        refine y_cv h (y_rV (As := []) (rest := []) C0 hZ h (c_X5_advance l G Z ad _ h.2) k_X5_advance q_616 q_0 q_614 kSC_77 rfl rfl rfl hl.1 rfl rfl (Nat.le_of_ble_eq_true rfl) dX5_unit_149 ⟨Nat.le_of_ble_eq_true rfl, Nat.le_of_ble_eq_true rfl⟩ ⟨Nat.le_of_ble_eq_true rfl, Nat.le_of_ble_eq_true rfl⟩) (fun H locs ws_88 h u_89 p_90 => ?_)
        have e_91 := p_90
        replace HE : FT = g25c_X5_unit_4 (xso SC ad ws_88) := HE.trans (by rw [e_91]; rfl)
        refine lv_aload_n C0.1 C0.2.1 dX5_unit_152 rfl (lv_at hl 1 rfl) ?_
        refine lv_iload_n C0.1 C0.2.1 dX5_unit_153 rfl (lv_at hl 2 rfl) ?_
        refine y_cv h (y_rV (As := [.int a1]) (rest := []) C0 hZ h (c_X5_sum_4 l G Z ad _ h.2 a1 (o24_82 l1 u1) (o24_83 l1 u1)) k_X5_sum q_816 q_15 q_814 kSC_77 rfl rfl rfl hl.1 rfl rfl (Nat.le_of_ble_eq_true rfl) dX5_unit_154 ⟨Nat.le_of_ble_eq_true rfl, Nat.le_of_ble_eq_true rfl⟩ ⟨Nat.le_of_ble_eq_true rfl, Nat.le_of_ble_eq_true rfl⟩) (fun H locs ws_92 h u_93 p_94 => ?_)
        have e_95 := p_94
        replace HE : FT = g26c_X5_unit_4 (xso SC ad ws_92) := HE.trans (by rw [e_95, (o24_84 l1 u1)]; rfl)
        refine lv_aload_n C0.1 C0.2.1 dX5_unit_157 rfl (lv_at hl 1 rfl) ?_
        refine tg_X5_law C0 h kSC_77 q_380 dX5_unit_158 (fun i_96 hi_96 ei_96 => ?_)
        refine lv_iload_n C0.1 C0.2.1 dX5_unit_161 rfl (lv_at hl 0 rfl) ?_
        refine y_cv h (y_rV (As := [.int v_85]) (rest := []) C0 hZ h (c_X4_add l G Z ad _ h.2 i_96 hi_96 v_85) k_X4_add q_827 q_828 q_826 hi_96 rfl rfl rfl hl.1 rfl rfl (Nat.le_of_ble_eq_true rfl) dX5_unit_162 ⟨Nat.le_of_ble_eq_true rfl, Nat.le_of_ble_eq_true rfl⟩ ⟨Nat.le_of_ble_eq_true rfl, Nat.le_of_ble_eq_true rfl⟩) (fun H locs ws_97 h u_98 p_99 => ?_)
        have e_100 := p_99
        replace HE : FT = g27c_X5_unit_4 (xso SC ad ws_97) := HE.trans (by rw [e_100, (o24_64 e_86 c_87), ei_96]; rfl)
        replace HE : FT = ((xso SC ad ws_97), 0) := HE.trans rfl
        rw [hQ]
        exact y_vret C0 h (Fr.tr (Fr.tr (Fr.tr (Fr.tr (Fr.mono u_2 (by decide)) u_18) (Fr.mono u_89 (by decide))) u_93) (Fr.mono u_98 (by decide))) (congrArg Prod.fst (HE.symm.trans hFT)) dX5_unit_165
    · -- 55
      replace HE : FT = g7_X5_unit_4 (xso SC ad ws_1) := HE.trans (if_pos (o24_49 e_15 c_16))
      refine lv_aload_n C0.1 C0.2.1 dX5_unit_58 rfl (lv_at hl 0 rfl) ?_
      refine lv_iload_n C0.1 C0.2.1 dX5_unit_59 rfl (lv_at hl 1 rfl) ?_
      refine y_ci h (y_rV (As := [.int a1]) (rest := []) C0 hZ h (c_X5_tooDeep_4 l G Z ad _ h.2 a1 (o24_82 l1 u1) (o24_83 l1 u1)) k_X5_tooDeep q_832 q_18 q_830 kSC_77 rfl rfl rfl hl.1 rfl rfl (Nat.le_of_ble_eq_true rfl) dX5_unit_60 ⟨Nat.le_of_ble_eq_true rfl, Nat.le_of_ble_eq_true rfl⟩ ⟨Nat.le_of_ble_eq_true rfl, Nat.le_of_ble_eq_true rfl⟩) (fun r_104 H locs ws_101 h u_102 p_103 => ?_)
      obtain ⟨e_105, e_106, e_107, e_108⟩ := p_103
      replace HE : FT = g28c_X5_unit_4 (xso SC ad ws_101) := HE.trans (by rw [e_105, (o24_84 l1 u1)]; rfl)
      refine y_if_ne (tgt := 165) C0 dX5_unit_63 (by decide) (fun c_109 => ((o24_71 e_107 e_108 c_109)).elim) (fun c_109 => ?_)
      refine lv_aload_n C0.1 C0.2.1 dX5_unit_66 rfl (lv_at hl 0 rfl) ?_
      refine y_cv h (y_rV (As := []) (rest := []) C0 hZ h (c_X5_advance l G Z ad _ h.2) k_X5_advance q_616 q_0 q_614 kSC_77 rfl rfl rfl hl.1 rfl rfl (Nat.le_of_ble_eq_true rfl) dX5_unit_67 ⟨Nat.le_of_ble_eq_true rfl, Nat.le_of_ble_eq_true rfl⟩ ⟨Nat.le_of_ble_eq_true rfl, Nat.le_of_ble_eq_true rfl⟩) (fun H locs ws_110 h u_111 p_112 => ?_)
      have e_113 := p_112
      replace HE : FT = g29c_X5_unit_4 (xso SC ad ws_110) := HE.trans (by rw [e_113]; rfl)
      refine lv_aload_n C0.1 C0.2.1 dX5_unit_70 rfl (lv_at hl 0 rfl) ?_
      refine lv_iload_n C0.1 C0.2.1 dX5_unit_71 rfl (lv_at hl 1 rfl) ?_
      refine y_c1 (n := 1) C0 (by decide) dX5_unit_72 (fun v_114 e_115 => ?_)
      refine y_add C0 (o24_85 l1 u1 e_115 (le_min a1) (le_max a1) (le_min v_114) (le_max v_114)) (o24_86 l1 u1 e_115 (le_min a1) (le_max a1) (le_min v_114) (le_max v_114)) dX5_unit_73 (fun v_116 e_117 => ?_)
      refine y_cv h (y_rV (As := [.int v_116]) (rest := []) C0 hZ h (c_X5_truth_5 l G Z ad _ h.2 v_116 (o24_87 l1 u1 e_115 e_117) (o24_88 l1 u1 e_115 e_117)) k_X5_truth q_843 q_19 q_841 kSC_77 rfl rfl rfl hl.1 rfl rfl (Nat.le_of_ble_eq_true rfl) dX5_unit_74 ⟨Nat.le_of_ble_eq_true rfl, Nat.le_of_ble_eq_true rfl⟩ ⟨Nat.le_of_ble_eq_true rfl, Nat.le_of_ble_eq_true rfl⟩) (fun H locs ws_118 h u_119 p_120 => ?_)
      have e_121 := p_120
      replace HE : FT = g30c_X5_unit_4 (xso SC ad ws_118) := HE.trans (by rw [e_121, e_117, e_115, (o24_89 l1 u1 e_115 e_117)]; rfl)
      refine lv_aload_n C0.1 C0.2.1 dX5_unit_77 rfl (lv_at hl 0 rfl) ?_
      refine y_c2 (n := 93) C0 (by decide) dX5_unit_78 (fun v_122 e_123 => ?_)
      refine y_cv h (y_rV (As := [.int v_122]) (rest := []) C0 hZ h (c_X5_sign l G Z ad _ h.2 v_122 (o24_79 e_123) (o24_80 e_123)) k_X5_sign q_812 q_14 q_810 kSC_77 rfl rfl rfl hl.1 rfl rfl (Nat.le_of_ble_eq_true rfl) dX5_unit_80 ⟨Nat.le_of_ble_eq_true rfl, Nat.le_of_ble_eq_true rfl⟩ ⟨Nat.le_of_ble_eq_true rfl, Nat.le_of_ble_eq_true rfl⟩) (fun H locs ws_124 h u_125 p_126 => ?_)
      have e_127 := p_126
      replace HE : FT = g31c_X5_unit_4 (xso SC ad ws_124) := HE.trans (by rw [e_127, e_123]; rfl)
      refine lv_goto (tgt := 165) C0.1 C0.2.1 dX5_unit_83 (by decide) ?_
      replace HE : FT = ((xso SC ad ws_124), 0) := HE.trans rfl
      rw [hQ]
      exact y_vret C0 h (Fr.tr (Fr.tr (Fr.tr (Fr.tr (Fr.mono u_2 (by decide)) (Fr.mono u_102 (by decide))) (Fr.mono u_111 (by decide))) u_119) (Fr.mono u_125 (by decide))) (congrArg Prod.fst (HE.symm.trans hFT)) dX5_unit_165
  · -- 6
    replace HE : FT = g4_X5_unit_4 (xso SC ad ws_1) := HE.trans (if_neg c_9)
    refine lv_aload_n C0.1 C0.2.1 dX5_unit_9 rfl (lv_at hl 0 rfl) ?_
    refine lv_iload_n C0.1 C0.2.1 dX5_unit_10 rfl (lv_at hl 1 rfl) ?_
    refine y_ci h (y_rV (As := [.int a1]) (rest := []) C0 hZ h (c_X5_tooDeep_4 l G Z ad _ h.2 a1 (o24_82 l1 u1) (o24_83 l1 u1)) k_X5_tooDeep q_832 q_18 q_830 kSC_77 rfl rfl rfl hl.1 rfl rfl (Nat.le_of_ble_eq_true rfl) dX5_unit_11 ⟨Nat.le_of_ble_eq_true rfl, Nat.le_of_ble_eq_true rfl⟩ ⟨Nat.le_of_ble_eq_true rfl, Nat.le_of_ble_eq_true rfl⟩) (fun r_131 H locs ws_128 h u_129 p_130 => ?_)
    obtain ⟨e_132, e_133, e_134, e_135⟩ := p_130
    replace HE : FT = g32c_X5_unit_4 (xso SC ad ws_128) := HE.trans (by rw [e_132, (o24_84 l1 u1)]; rfl)
    refine y_if_ne (tgt := 165) C0 dX5_unit_14 (by decide) (fun c_136 => ((o24_71 e_134 e_135 c_136)).elim) (fun c_136 => ?_)
    refine lv_aload_n C0.1 C0.2.1 dX5_unit_17 rfl (lv_at hl 0 rfl) ?_
    refine y_cv h (y_rV (As := []) (rest := []) C0 hZ h (c_X5_advance l G Z ad _ h.2) k_X5_advance q_616 q_0 q_614 kSC_77 rfl rfl rfl hl.1 rfl rfl (Nat.le_of_ble_eq_true rfl) dX5_unit_18 ⟨Nat.le_of_ble_eq_true rfl, Nat.le_of_ble_eq_true rfl⟩ ⟨Nat.le_of_ble_eq_true rfl, Nat.le_of_ble_eq_true rfl⟩) (fun H locs ws_137 h u_138 p_139 => ?_)
    have e_140 := p_139
    replace HE : FT = g33c_X5_unit_4 (xso SC ad ws_137) := HE.trans (by rw [e_140]; rfl)
    refine lv_aload_n C0.1 C0.2.1 dX5_unit_21 rfl (lv_at hl 0 rfl) ?_
    refine lv_iload_n C0.1 C0.2.1 dX5_unit_22 rfl (lv_at hl 1 rfl) ?_
    refine y_c1 (n := 1) C0 (by decide) dX5_unit_23 (fun v_141 e_142 => ?_)
    refine y_add C0 (o24_85 l1 u1 e_142 (le_min a1) (le_max a1) (le_min v_141) (le_max v_141)) (o24_86 l1 u1 e_142 (le_min a1) (le_max a1) (le_min v_141) (le_max v_141)) dX5_unit_24 (fun v_143 e_144 => ?_)
    refine y_cv h (y_rV (As := [.int v_143]) (rest := []) C0 hZ h (c_X5_unit_5 l G Z ad _ h.2 v_143 (o24_87 l1 u1 e_142 e_144) (o24_88 l1 u1 e_142 e_144)) k_X5_unit q_851 q_21 q_849 kSC_77 rfl rfl rfl hl.1 rfl rfl (Nat.le_of_ble_eq_true rfl) dX5_unit_25 ⟨Nat.le_of_ble_eq_true rfl, Nat.le_of_ble_eq_true rfl⟩ ⟨Nat.le_of_ble_eq_true rfl, Nat.le_of_ble_eq_true rfl⟩) (fun H locs ws_145 h u_146 p_147 => ?_)
    have e_148 := p_147
    replace HE : FT = g34c_X5_unit_4 (xso SC ad ws_145) := HE.trans (by rw [e_148, e_144, e_142, (o24_89 l1 u1 e_142 e_144)]; rfl)
    refine lv_aload_n C0.1 C0.2.1 dX5_unit_28 rfl (lv_at hl 0 rfl) ?_
    refine tg_X5_law C0 h kSC_77 q_380 dX5_unit_29 (fun i_149 hi_149 ei_149 => ?_)
    refine y_c1 (n := 0) C0 (by decide) dX5_unit_32 (fun v_150 e_151 => ?_)
    refine y_cv h (y_rV (As := [.int v_150]) (rest := []) C0 hZ h (c_X4_add l G Z ad _ h.2 i_149 hi_149 v_150) k_X4_add q_827 q_828 q_826 hi_149 rfl rfl rfl hl.1 rfl rfl (Nat.le_of_ble_eq_true rfl) dX5_unit_33 ⟨Nat.le_of_ble_eq_true rfl, Nat.le_of_ble_eq_true rfl⟩ ⟨Nat.le_of_ble_eq_true rfl, Nat.le_of_ble_eq_true rfl⟩) (fun H locs ws_152 h u_153 p_154 => ?_)
    have e_155 := p_154
    replace HE : FT = g35c_X5_unit_4 (xso SC ad ws_152) := HE.trans (by rw [e_155, e_151, ei_149]; rfl)
    refine lv_aload_n C0.1 C0.2.1 dX5_unit_36 rfl (lv_at hl 0 rfl) ?_
    refine tg_X5_law C0 h kSC_77 q_380 dX5_unit_37 (fun i_156 hi_156 ei_156 => ?_)
    refine y_c3 (n := 2003) C0 (by decide) dX5_unit_40 (fun v_157 e_158 => ?_)
    refine y_cv h (y_rV (As := [.int v_157]) (rest := []) C0 hZ h (c_X4_add l G Z ad _ h.2 i_156 hi_156 v_157) k_X4_add q_827 q_828 q_826 hi_156 rfl rfl rfl hl.1 rfl rfl (Nat.le_of_ble_eq_true rfl) dX5_unit_43 ⟨Nat.le_of_ble_eq_true rfl, Nat.le_of_ble_eq_true rfl⟩ ⟨Nat.le_of_ble_eq_true rfl, Nat.le_of_ble_eq_true rfl⟩) (fun H locs ws_159 h u_160 p_161 => ?_)
    have e_162 := p_161
    replace HE : FT = g36c_X5_unit_4 (xso SC ad ws_159) := HE.trans (by rw [e_162, e_158, ei_156]; rfl)
    refine lv_goto (tgt := 165) C0.1 C0.2.1 dX5_unit_46 (by decide) ?_
    replace HE : FT = ((xso SC ad ws_159), 0) := HE.trans rfl
    rw [hQ]
    exact y_vret C0 h (Fr.tr (Fr.tr (Fr.tr (Fr.tr (Fr.tr (Fr.mono u_2 (by decide)) (Fr.mono u_129 (by decide))) (Fr.mono u_138 (by decide))) u_146) (Fr.mono u_153 (by decide))) (Fr.mono u_160 (by decide))) (congrArg Prod.fst (HE.symm.trans hFT)) dX5_unit_165
noncomputable def g5_X5_both_4 (s : XS) : XR := (s, 0)
noncomputable def g9_X5_both_4 (s : XS) : XR := (s, 0)
noncomputable def g13c_X5_both_4 (R7 : XS → Int → XR) (s : XS) (x2_7 : Int) : XR := R7 s ((x2_7 + 1))
noncomputable def g12c_X5_both_4 (R7 : XS → Int → XR) (s : XS) (x2_7 : Int) : XR := g13c_X5_both_4 R7 ((f_X4_add s (Int.toNat (s 3 77 10)) 2006).1) x2_7
noncomputable def g11c_X5_both_4 (R7 : XS → Int → XR) (s : XS) (x2_7 : Int) : XR := g12c_X5_both_4 R7 ((f_X5_unit_4 s 4).1) x2_7
noncomputable def g10_X5_both_4 (R7 : XS → Int → XR) (s : XS) (x2_7 : Int) : XR := g11c_X5_both_4 R7 ((f_X5_advance s).1) x2_7
noncomputable def g8b_X5_both_4 (R7 : XS → Int → XR) (s : XS) (r_22 : Int) (x2_7 : Int) : XR := if r_22 = 0 then g9_X5_both_4 s else g10_X5_both_4 R7 s x2_7
noncomputable def g7c_X5_both_4 (R7 : XS → Int → XR) (s : XS) (r_22 : Int) (x2_7 : Int) : XR := g8b_X5_both_4 R7 s r_22 x2_7
noncomputable def g6_X5_both_4 (R7 : XS → Int → XR) (s : XS) (x2_7 : Int) : XR := g7c_X5_both_4 R7 ((f_X5_isWord s 20).1) (((f_X5_isWord s 20).2)) x2_7
noncomputable def g4b_X5_both_4 (R7 : XS → Int → XR) (s : XS) (x2_7 : Int) : XR := if x2_7 < 900 then g6_X5_both_4 R7 s x2_7 else g5_X5_both_4 s
noncomputable def g3l_X5_both_4 (R7 : XS → Int → XR) (s : XS) (x2_7 : Int) : XR := g4b_X5_both_4 R7 s x2_7
noncomputable def L2_X5_both_4 (n : Nat) : XS → Int → XR := Nat.rec (motive := fun _ => XS → Int → XR) (fun s _ => (s, 0)) (fun _ R7 => g3l_X5_both_4 R7) n
noncomputable def g1c_X5_both_4 (s : XS) : XR := L2_X5_both_4 (Int.toNat (900 - 0 + 1)) s 0
noncomputable def f_X5_both_4 (s : XS) (a1 : Int) : XR := g1c_X5_both_4 ((f_X5_unit_4 s a1).1)
set_option maxHeartbeats 4000000 in
set_option maxRecDepth 100000 in
theorem c_X5_both_4 (l : Launch) (G : GG) (Z : RZ) (ad : Nat → Nat) (ws0 : va_W) (hT : Ty G SC ad ws0) (a1 : Int32) (l1 : 4 ≤ a1.toInt) (u1 : a1.toInt ≤ 4) : Mq l yX5_both cX5_both 3 none 16 G Z [.ref (ad 77), .int a1] ws0 (PV G SC ad [2, 3, 16] ws0 (fun u => (xso SC ad u = (f_X5_both_4 (xso SC ad ws0) a1.toInt).1))) := by
  refine Mq.start (by decide) (Nat.le_of_ble_eq_true rfl) ?_
  intro p e s m below meth c A ls C0 hZ h hl
  have hl : lv_has ls 3 [(0, .ref (ad 77)), (1, .int a1)] := hl
  have h : Wt G SC ad A s s.heap [] ws0 := ⟨h, hT⟩
  obtain ⟨args, hargs⟩ : ∃ z, z = ([.ref (ad 77), .int a1] : List Value).toArray := ⟨_, rfl⟩
  rw [← hargs] at C0 ⊢
  have C0 : Cx p s m args meth c RX5 cX5_both 3 none := C0
  obtain ⟨Q, hQ⟩ : ∃ z, z = MQ below ((PV G SC ad [2, 3, 16] ws0 (fun u => (xso SC ad u = (f_X5_both_4 (xso SC ad ws0) a1.toInt).1))) A) args s 0 0 A := ⟨_, rfl⟩
  rw [← hQ]
  obtain ⟨FT, hFT⟩ : ∃ z, z = f_X5_both_4 (xso SC ad ws0) a1.toInt := ⟨_, rfl⟩
  have HE : FT = f_X5_both_4 (xso SC ad ws0) a1.toInt := hFT
  refine lv_aload_n C0.1 C0.2.1 dX5_both_0 rfl (lv_at hl 0 rfl) ?_
  refine lv_iload_n C0.1 C0.2.1 dX5_both_1 rfl (lv_at hl 1 rfl) ?_
  refine y_cv h (y_rV (As := [.int a1]) (rest := []) C0 hZ h (c_X5_unit_4 l G Z ad _ h.2 a1 (o24_82 l1 u1) (o24_83 l1 u1)) k_X5_unit q_851 q_21 q_849 kSC_77 rfl rfl rfl hl.1 rfl rfl (Nat.le_of_ble_eq_true rfl) dX5_both_2 ⟨Nat.le_of_ble_eq_true rfl, Nat.le_of_ble_eq_true rfl⟩ ⟨Nat.le_of_ble_eq_true rfl, Nat.le_of_ble_eq_true rfl⟩) (fun H locs ws_1 h u_2 p_3 => ?_)
  have e_4 := p_3
  replace HE : FT = g1c_X5_both_4 (xso SC ad ws_1) := HE.trans (by rw [e_4]; rfl)
  refine y_c1 (n := 0) C0 (by decide) dX5_both_5 (fun v_5 e_6 => ?_)
  refine lv_istore_n (lv' := [(2, .int v_5), (0, .ref (ad 77)), (1, .int a1)]) C0.1 C0.2.1 dX5_both_6 rfl hl (by decide) rfl (fun ls hl => ?_)
  have lp_10 : ∀ (n_12 : Nat) (x2_7 : Int32) (H : Heap) (locs : List Loc) (ls : Array Slot) (ws_8 : va_W), 900 - x2_7.toInt < (n_12 : Int) → 0 ≤ x2_7.toInt → x2_7.toInt ≤ 900 → (FT = L2_X5_both_4 n_12 (xso SC ad ws_8) x2_7.toInt) → Wt G SC ad A s H locs ws_8 → Fr SC [2, 3, 16] ws_1 ws_8 → lv_has ls 3 [(2, .int x2_7), (0, .ref (ad 77)), (1, .int a1)] → W p l e (rmd 16 0 0) s m args below meth c H locs 0 0 Q (F0 m 7 ls []) := by
    intro n_12
    induction n_12 with
    | zero => intro x2_7 H locs ls ws_8 hn_13 b_14 b_15 HE h hF_9 hl; exact ((o24_22 b_14 b_15 hn_13)).elim
    | succ n_12 ih_11 =>
      intro x2_7 H locs ls ws_8 hn_13 b_14 b_15 HE h hF_9 hl
      obtain ⟨R7, hR7⟩ : ∃ z, z = L2_X5_both_4 n_12 := ⟨_, rfl⟩
      replace HE : FT = g3l_X5_both_4 R7 (xso SC ad ws_8) x2_7.toInt := HE.trans (by rw [hR7]; rfl)
      refine lv_iload_n C0.1 C0.2.1 dX5_both_7 rfl (lv_at hl 0 rfl) ?_
      refine y_c3 (n := 900) C0 (by decide) dX5_both_8 (fun v_16 e_17 => ?_)
      replace HE : FT = g4b_X5_both_4 R7 (xso SC ad ws_8) x2_7.toInt := HE.trans rfl
      refine y_icmp_ge (tgt := 48) C0 dX5_both_11 (by decide) (fun c_18 => ?_) (fun c_18 => ?_)
      · -- 11
        replace HE : FT = g5_X5_both_4 (xso SC ad ws_8) := HE.trans (if_neg (o24_24 b_14 b_15 hn_13 e_17 c_18))
        replace HE : FT = ((xso SC ad ws_8), 0) := HE.trans rfl
        rw [hQ]
        exact y_vret C0 h (Fr.tr u_2 hF_9) (congrArg Prod.fst (HE.symm.trans hFT)) dX5_both_48
      · -- 11
        replace HE : FT = g6_X5_both_4 R7 (xso SC ad ws_8) x2_7.toInt := HE.trans (if_pos (o24_25 b_14 b_15 hn_13 e_17 c_18))
        refine lv_aload_n C0.1 C0.2.1 dX5_both_14 rfl (lv_at hl 1 rfl) ?_
        refine va_ldcS C0.1 C0.2.1 C0.2.2.2.1 (sr_20 hZ) dX5_both_15 ?_
        refine y_ci h (y_rV (As := [.ref (Z.2.1 20)]) (rest := []) C0 hZ h (c_X5_isWord l G Z ad _ h.2 20 (by decide)) k_X5_isWord q_724 q_5 q_722 kSC_77 rfl rfl rfl hl.1 rfl rfl (Nat.le_of_ble_eq_true rfl) dX5_both_17 ⟨Nat.le_of_ble_eq_true rfl, Nat.le_of_ble_eq_true rfl⟩ ⟨Nat.le_of_ble_eq_true rfl, Nat.le_of_ble_eq_true rfl⟩) (fun r_22 H locs ws_19 h u_20 p_21 => ?_)
        obtain ⟨e_23, e_24, e_25, e_26⟩ := p_21
        replace HE : FT = g7c_X5_both_4 R7 (xso SC ad ws_19) r_22.toInt x2_7.toInt := HE.trans (by rw [e_23, e_24]; rfl)
        replace HE : FT = g8b_X5_both_4 R7 (xso SC ad ws_19) r_22.toInt x2_7.toInt := HE.trans rfl
        refine y_if_eq (tgt := 48) C0 dX5_both_20 (by decide) (fun c_27 => ?_) (fun c_27 => ?_)
        · -- 20
          replace HE : FT = g9_X5_both_4 (xso SC ad ws_19) := HE.trans (if_pos c_27)
          replace HE : FT = ((xso SC ad ws_19), 0) := HE.trans rfl
          rw [hQ]
          exact y_vret C0 h (Fr.tr (Fr.tr u_2 hF_9) (Fr.mono u_20 (by decide))) (congrArg Prod.fst (HE.symm.trans hFT)) dX5_both_48
        · -- 20
          replace HE : FT = g10_X5_both_4 R7 (xso SC ad ws_19) x2_7.toInt := HE.trans (if_neg c_27)
          refine lv_aload_n C0.1 C0.2.1 dX5_both_23 rfl (lv_at hl 1 rfl) ?_
          refine y_cv h (y_rV (As := []) (rest := []) C0 hZ h (c_X5_advance l G Z ad _ h.2) k_X5_advance q_616 q_0 q_614 kSC_77 rfl rfl rfl hl.1 rfl rfl (Nat.le_of_ble_eq_true rfl) dX5_both_24 ⟨Nat.le_of_ble_eq_true rfl, Nat.le_of_ble_eq_true rfl⟩ ⟨Nat.le_of_ble_eq_true rfl, Nat.le_of_ble_eq_true rfl⟩) (fun H locs ws_28 h u_29 p_30 => ?_)
          have e_31 := p_30
          replace HE : FT = g11c_X5_both_4 R7 (xso SC ad ws_28) x2_7.toInt := HE.trans (by rw [e_31]; rfl)
          refine lv_aload_n C0.1 C0.2.1 dX5_both_27 rfl (lv_at hl 1 rfl) ?_
          refine lv_iload_n C0.1 C0.2.1 dX5_both_28 rfl (lv_at hl 2 rfl) ?_
          refine y_cv h (y_rV (As := [.int a1]) (rest := []) C0 hZ h (c_X5_unit_4 l G Z ad _ h.2 a1 (o24_82 l1 u1) (o24_83 l1 u1)) k_X5_unit q_851 q_21 q_849 kSC_77 rfl rfl rfl hl.1 rfl rfl (Nat.le_of_ble_eq_true rfl) dX5_both_29 ⟨Nat.le_of_ble_eq_true rfl, Nat.le_of_ble_eq_true rfl⟩ ⟨Nat.le_of_ble_eq_true rfl, Nat.le_of_ble_eq_true rfl⟩) (fun H locs ws_32 h u_33 p_34 => ?_)
          have e_35 := p_34
          replace HE : FT = g12c_X5_both_4 R7 (xso SC ad ws_32) x2_7.toInt := HE.trans (by rw [e_35, (o24_84 l1 u1)]; rfl)
          refine lv_aload_n C0.1 C0.2.1 dX5_both_32 rfl (lv_at hl 1 rfl) ?_
          refine tg_X5_law C0 h kSC_77 q_380 dX5_both_33 (fun i_36 hi_36 ei_36 => ?_)
          refine y_c3 (n := 2006) C0 (by decide) dX5_both_36 (fun v_37 e_38 => ?_)
          refine y_cv h (y_rV (As := [.int v_37]) (rest := []) C0 hZ h (c_X4_add l G Z ad _ h.2 i_36 hi_36 v_37) k_X4_add q_827 q_828 q_826 hi_36 rfl rfl rfl hl.1 rfl rfl (Nat.le_of_ble_eq_true rfl) dX5_both_39 ⟨Nat.le_of_ble_eq_true rfl, Nat.le_of_ble_eq_true rfl⟩ ⟨Nat.le_of_ble_eq_true rfl, Nat.le_of_ble_eq_true rfl⟩) (fun H locs ws_39 h u_40 p_41 => ?_)
          have e_42 := p_41
          replace HE : FT = g13c_X5_both_4 R7 (xso SC ad ws_39) x2_7.toInt := HE.trans (by rw [e_42, e_38, ei_36]; rfl)
          refine y_inc (kp := 0) (n := 1) (fun v_43 => [(2, .int v_43), (0, .ref (ad 77)), (1, .int a1)]) C0 hl rfl (by decide) (by decide) (fun _ => rfl) (o24_29 b_14 b_15 hn_13 e_17 c_18 (le_min x2_7) (le_max x2_7) (le_min v_16) (le_max v_16)) (o24_30 b_14 b_15 hn_13 e_17 c_18 (le_min x2_7) (le_max x2_7) (le_min v_16) (le_max v_16)) dX5_both_42 (fun v_43 ls e_44 hl => ?_)
          refine lv_goto (tgt := 7) C0.1 C0.2.1 dX5_both_45 (by decide) ?_
          exact ih_11 v_43 _ _ _ _ (o24_31 b_14 b_15 hn_13 e_17 c_18 e_44) (o24_32 b_14 b_15 hn_13 e_17 c_18 e_44) (o24_33 b_14 b_15 hn_13 e_17 c_18 e_44) (((show FT = R7 (xso SC ad ws_39) v_43.toInt from HE.trans (by rw [e_44]; rfl)).trans (by rw [hR7]))) h (Fr.tr (Fr.tr (Fr.tr (Fr.tr hF_9 (Fr.mono u_20 (by decide))) (Fr.mono u_29 (by decide))) u_33) (Fr.mono u_40 (by decide))) (lv_sub hl [0, 1, 2] rfl)
  exact lp_10 ((900 - v_5.toInt + 1).toNat) v_5 _ _ _ _ (o24_34 e_6) (o24_35 e_6) (o24_36 e_6) ((show FT = L2_X5_both_4 (Int.toNat (900 - v_5.toInt + 1)) (xso SC ad ws_1) v_5.toInt from HE.trans (by rw [e_6]; rfl))) h Fr.rf (lv_sub hl [0, 1, 2] rfl)
noncomputable def g5_X5_truth_4 (s : XS) : XR := (s, 0)
noncomputable def g9_X5_truth_4 (s : XS) : XR := (s, 0)
noncomputable def g13c_X5_truth_4 (R7 : XS → Int → XR) (s : XS) (x2_7 : Int) : XR := R7 s ((x2_7 + 1))
noncomputable def g12c_X5_truth_4 (R7 : XS → Int → XR) (s : XS) (x2_7 : Int) : XR := g13c_X5_truth_4 R7 ((f_X4_add s (Int.toNat (s 3 77 10)) 2007).1) x2_7
noncomputable def g11c_X5_truth_4 (R7 : XS → Int → XR) (s : XS) (x2_7 : Int) : XR := g12c_X5_truth_4 R7 ((f_X5_both_4 s 4).1) x2_7
noncomputable def g10_X5_truth_4 (R7 : XS → Int → XR) (s : XS) (x2_7 : Int) : XR := g11c_X5_truth_4 R7 ((f_X5_advance s).1) x2_7
noncomputable def g8b_X5_truth_4 (R7 : XS → Int → XR) (s : XS) (r_22 : Int) (x2_7 : Int) : XR := if r_22 = 0 then g9_X5_truth_4 s else g10_X5_truth_4 R7 s x2_7
noncomputable def g7c_X5_truth_4 (R7 : XS → Int → XR) (s : XS) (r_22 : Int) (x2_7 : Int) : XR := g8b_X5_truth_4 R7 s r_22 x2_7
noncomputable def g6_X5_truth_4 (R7 : XS → Int → XR) (s : XS) (x2_7 : Int) : XR := g7c_X5_truth_4 R7 ((f_X5_isWord s 21).1) (((f_X5_isWord s 21).2)) x2_7
noncomputable def g4b_X5_truth_4 (R7 : XS → Int → XR) (s : XS) (x2_7 : Int) : XR := if x2_7 < 900 then g6_X5_truth_4 R7 s x2_7 else g5_X5_truth_4 s
noncomputable def g3l_X5_truth_4 (R7 : XS → Int → XR) (s : XS) (x2_7 : Int) : XR := g4b_X5_truth_4 R7 s x2_7
noncomputable def L2_X5_truth_4 (n : Nat) : XS → Int → XR := Nat.rec (motive := fun _ => XS → Int → XR) (fun s _ => (s, 0)) (fun _ R7 => g3l_X5_truth_4 R7) n
noncomputable def g1c_X5_truth_4 (s : XS) : XR := L2_X5_truth_4 (Int.toNat (900 - 0 + 1)) s 0
noncomputable def f_X5_truth_4 (s : XS) (a1 : Int) : XR := g1c_X5_truth_4 ((f_X5_both_4 s a1).1)
set_option maxHeartbeats 4000000 in
set_option maxRecDepth 100000 in
theorem c_X5_truth_4 (l : Launch) (G : GG) (Z : RZ) (ad : Nat → Nat) (ws0 : va_W) (hT : Ty G SC ad ws0) (a1 : Int32) (l1 : 4 ≤ a1.toInt) (u1 : a1.toInt ≤ 4) : Mq l yX5_truth cX5_truth 3 none 17 G Z [.ref (ad 77), .int a1] ws0 (PV G SC ad [2, 3, 16] ws0 (fun u => (xso SC ad u = (f_X5_truth_4 (xso SC ad ws0) a1.toInt).1))) := by
  refine Mq.start (by decide) (Nat.le_of_ble_eq_true rfl) ?_
  intro p e s m below meth c A ls C0 hZ h hl
  have hl : lv_has ls 3 [(0, .ref (ad 77)), (1, .int a1)] := hl
  have h : Wt G SC ad A s s.heap [] ws0 := ⟨h, hT⟩
  obtain ⟨args, hargs⟩ : ∃ z, z = ([.ref (ad 77), .int a1] : List Value).toArray := ⟨_, rfl⟩
  rw [← hargs] at C0 ⊢
  have C0 : Cx p s m args meth c RX5 cX5_truth 3 none := C0
  obtain ⟨Q, hQ⟩ : ∃ z, z = MQ below ((PV G SC ad [2, 3, 16] ws0 (fun u => (xso SC ad u = (f_X5_truth_4 (xso SC ad ws0) a1.toInt).1))) A) args s 0 0 A := ⟨_, rfl⟩
  rw [← hQ]
  obtain ⟨FT, hFT⟩ : ∃ z, z = f_X5_truth_4 (xso SC ad ws0) a1.toInt := ⟨_, rfl⟩
  have HE : FT = f_X5_truth_4 (xso SC ad ws0) a1.toInt := hFT
  refine lv_aload_n C0.1 C0.2.1 dX5_truth_0 rfl (lv_at hl 0 rfl) ?_
  refine lv_iload_n C0.1 C0.2.1 dX5_truth_1 rfl (lv_at hl 1 rfl) ?_
  refine y_cv h (y_rV (As := [.int a1]) (rest := []) C0 hZ h (c_X5_both_4 l G Z ad _ h.2 a1 (o24_82 l1 u1) (o24_83 l1 u1)) k_X5_both q_847 q_20 q_845 kSC_77 rfl rfl rfl hl.1 rfl rfl (Nat.le_of_ble_eq_true rfl) dX5_truth_2 ⟨Nat.le_of_ble_eq_true rfl, Nat.le_of_ble_eq_true rfl⟩ ⟨Nat.le_of_ble_eq_true rfl, Nat.le_of_ble_eq_true rfl⟩) (fun H locs ws_1 h u_2 p_3 => ?_)
  have e_4 := p_3
  replace HE : FT = g1c_X5_truth_4 (xso SC ad ws_1) := HE.trans (by rw [e_4]; rfl)
  refine y_c1 (n := 0) C0 (by decide) dX5_truth_5 (fun v_5 e_6 => ?_)
  refine lv_istore_n (lv' := [(2, .int v_5), (0, .ref (ad 77)), (1, .int a1)]) C0.1 C0.2.1 dX5_truth_6 rfl hl (by decide) rfl (fun ls hl => ?_)
  have lp_10 : ∀ (n_12 : Nat) (x2_7 : Int32) (H : Heap) (locs : List Loc) (ls : Array Slot) (ws_8 : va_W), 900 - x2_7.toInt < (n_12 : Int) → 0 ≤ x2_7.toInt → x2_7.toInt ≤ 900 → (FT = L2_X5_truth_4 n_12 (xso SC ad ws_8) x2_7.toInt) → Wt G SC ad A s H locs ws_8 → Fr SC [2, 3, 16] ws_1 ws_8 → lv_has ls 3 [(2, .int x2_7), (0, .ref (ad 77)), (1, .int a1)] → W p l e (rmd 17 0 0) s m args below meth c H locs 0 0 Q (F0 m 7 ls []) := by
    intro n_12
    induction n_12 with
    | zero => intro x2_7 H locs ls ws_8 hn_13 b_14 b_15 HE h hF_9 hl; exact ((o24_22 b_14 b_15 hn_13)).elim
    | succ n_12 ih_11 =>
      intro x2_7 H locs ls ws_8 hn_13 b_14 b_15 HE h hF_9 hl
      obtain ⟨R7, hR7⟩ : ∃ z, z = L2_X5_truth_4 n_12 := ⟨_, rfl⟩
      replace HE : FT = g3l_X5_truth_4 R7 (xso SC ad ws_8) x2_7.toInt := HE.trans (by rw [hR7]; rfl)
      refine lv_iload_n C0.1 C0.2.1 dX5_truth_7 rfl (lv_at hl 0 rfl) ?_
      refine y_c3 (n := 900) C0 (by decide) dX5_truth_8 (fun v_16 e_17 => ?_)
      replace HE : FT = g4b_X5_truth_4 R7 (xso SC ad ws_8) x2_7.toInt := HE.trans rfl
      refine y_icmp_ge (tgt := 48) C0 dX5_truth_11 (by decide) (fun c_18 => ?_) (fun c_18 => ?_)
      · -- 11
        replace HE : FT = g5_X5_truth_4 (xso SC ad ws_8) := HE.trans (if_neg (o24_24 b_14 b_15 hn_13 e_17 c_18))
        replace HE : FT = ((xso SC ad ws_8), 0) := HE.trans rfl
        rw [hQ]
        exact y_vret C0 h (Fr.tr u_2 hF_9) (congrArg Prod.fst (HE.symm.trans hFT)) dX5_truth_48
      · -- 11
        replace HE : FT = g6_X5_truth_4 R7 (xso SC ad ws_8) x2_7.toInt := HE.trans (if_pos (o24_25 b_14 b_15 hn_13 e_17 c_18))
        refine lv_aload_n C0.1 C0.2.1 dX5_truth_14 rfl (lv_at hl 1 rfl) ?_
        refine va_ldcS C0.1 C0.2.1 C0.2.2.2.1 (sr_21 hZ) dX5_truth_15 ?_
        refine y_ci h (y_rV (As := [.ref (Z.2.1 21)]) (rest := []) C0 hZ h (c_X5_isWord l G Z ad _ h.2 21 (by decide)) k_X5_isWord q_724 q_5 q_722 kSC_77 rfl rfl rfl hl.1 rfl rfl (Nat.le_of_ble_eq_true rfl) dX5_truth_17 ⟨Nat.le_of_ble_eq_true rfl, Nat.le_of_ble_eq_true rfl⟩ ⟨Nat.le_of_ble_eq_true rfl, Nat.le_of_ble_eq_true rfl⟩) (fun r_22 H locs ws_19 h u_20 p_21 => ?_)
        obtain ⟨e_23, e_24, e_25, e_26⟩ := p_21
        replace HE : FT = g7c_X5_truth_4 R7 (xso SC ad ws_19) r_22.toInt x2_7.toInt := HE.trans (by rw [e_23, e_24]; rfl)
        replace HE : FT = g8b_X5_truth_4 R7 (xso SC ad ws_19) r_22.toInt x2_7.toInt := HE.trans rfl
        refine y_if_eq (tgt := 48) C0 dX5_truth_20 (by decide) (fun c_27 => ?_) (fun c_27 => ?_)
        · -- 20
          replace HE : FT = g9_X5_truth_4 (xso SC ad ws_19) := HE.trans (if_pos c_27)
          replace HE : FT = ((xso SC ad ws_19), 0) := HE.trans rfl
          rw [hQ]
          exact y_vret C0 h (Fr.tr (Fr.tr u_2 hF_9) (Fr.mono u_20 (by decide))) (congrArg Prod.fst (HE.symm.trans hFT)) dX5_truth_48
        · -- 20
          replace HE : FT = g10_X5_truth_4 R7 (xso SC ad ws_19) x2_7.toInt := HE.trans (if_neg c_27)
          refine lv_aload_n C0.1 C0.2.1 dX5_truth_23 rfl (lv_at hl 1 rfl) ?_
          refine y_cv h (y_rV (As := []) (rest := []) C0 hZ h (c_X5_advance l G Z ad _ h.2) k_X5_advance q_616 q_0 q_614 kSC_77 rfl rfl rfl hl.1 rfl rfl (Nat.le_of_ble_eq_true rfl) dX5_truth_24 ⟨Nat.le_of_ble_eq_true rfl, Nat.le_of_ble_eq_true rfl⟩ ⟨Nat.le_of_ble_eq_true rfl, Nat.le_of_ble_eq_true rfl⟩) (fun H locs ws_28 h u_29 p_30 => ?_)
          have e_31 := p_30
          replace HE : FT = g11c_X5_truth_4 R7 (xso SC ad ws_28) x2_7.toInt := HE.trans (by rw [e_31]; rfl)
          refine lv_aload_n C0.1 C0.2.1 dX5_truth_27 rfl (lv_at hl 1 rfl) ?_
          refine lv_iload_n C0.1 C0.2.1 dX5_truth_28 rfl (lv_at hl 2 rfl) ?_
          refine y_cv h (y_rV (As := [.int a1]) (rest := []) C0 hZ h (c_X5_both_4 l G Z ad _ h.2 a1 (o24_82 l1 u1) (o24_83 l1 u1)) k_X5_both q_847 q_20 q_845 kSC_77 rfl rfl rfl hl.1 rfl rfl (Nat.le_of_ble_eq_true rfl) dX5_truth_29 ⟨Nat.le_of_ble_eq_true rfl, Nat.le_of_ble_eq_true rfl⟩ ⟨Nat.le_of_ble_eq_true rfl, Nat.le_of_ble_eq_true rfl⟩) (fun H locs ws_32 h u_33 p_34 => ?_)
          have e_35 := p_34
          replace HE : FT = g12c_X5_truth_4 R7 (xso SC ad ws_32) x2_7.toInt := HE.trans (by rw [e_35, (o24_84 l1 u1)]; rfl)
          refine lv_aload_n C0.1 C0.2.1 dX5_truth_32 rfl (lv_at hl 1 rfl) ?_
          refine tg_X5_law C0 h kSC_77 q_380 dX5_truth_33 (fun i_36 hi_36 ei_36 => ?_)
          refine y_c3 (n := 2007) C0 (by decide) dX5_truth_36 (fun v_37 e_38 => ?_)
          refine y_cv h (y_rV (As := [.int v_37]) (rest := []) C0 hZ h (c_X4_add l G Z ad _ h.2 i_36 hi_36 v_37) k_X4_add q_827 q_828 q_826 hi_36 rfl rfl rfl hl.1 rfl rfl (Nat.le_of_ble_eq_true rfl) dX5_truth_39 ⟨Nat.le_of_ble_eq_true rfl, Nat.le_of_ble_eq_true rfl⟩ ⟨Nat.le_of_ble_eq_true rfl, Nat.le_of_ble_eq_true rfl⟩) (fun H locs ws_39 h u_40 p_41 => ?_)
          have e_42 := p_41
          replace HE : FT = g13c_X5_truth_4 R7 (xso SC ad ws_39) x2_7.toInt := HE.trans (by rw [e_42, e_38, ei_36]; rfl)
          refine y_inc (kp := 0) (n := 1) (fun v_43 => [(2, .int v_43), (0, .ref (ad 77)), (1, .int a1)]) C0 hl rfl (by decide) (by decide) (fun _ => rfl) (o24_29 b_14 b_15 hn_13 e_17 c_18 (le_min x2_7) (le_max x2_7) (le_min v_16) (le_max v_16)) (o24_30 b_14 b_15 hn_13 e_17 c_18 (le_min x2_7) (le_max x2_7) (le_min v_16) (le_max v_16)) dX5_truth_42 (fun v_43 ls e_44 hl => ?_)
          refine lv_goto (tgt := 7) C0.1 C0.2.1 dX5_truth_45 (by decide) ?_
          exact ih_11 v_43 _ _ _ _ (o24_31 b_14 b_15 hn_13 e_17 c_18 e_44) (o24_32 b_14 b_15 hn_13 e_17 c_18 e_44) (o24_33 b_14 b_15 hn_13 e_17 c_18 e_44) (((show FT = R7 (xso SC ad ws_39) v_43.toInt from HE.trans (by rw [e_44]; rfl)).trans (by rw [hR7]))) h (Fr.tr (Fr.tr (Fr.tr (Fr.tr hF_9 (Fr.mono u_20 (by decide))) (Fr.mono u_29 (by decide))) u_33) (Fr.mono u_40 (by decide))) (lv_sub hl [0, 1, 2] rfl)
  exact lp_10 ((900 - v_5.toInt + 1).toNat) v_5 _ _ _ _ (o24_34 e_6) (o24_35 e_6) (o24_36 e_6) ((show FT = L2_X5_truth_4 (Int.toNat (900 - v_5.toInt + 1)) (xso SC ad ws_1) v_5.toInt from HE.trans (by rw [e_6]; rfl))) h Fr.rf (lv_sub hl [0, 1, 2] rfl)
noncomputable def f_X5_tooDeep_3 (s : XS) (a1 : Int) : XR := (s, 0)
set_option maxHeartbeats 4000000 in
set_option maxRecDepth 100000 in
theorem c_X5_tooDeep_3 (l : Launch) (G : GG) (Z : RZ) (ad : Nat → Nat) (ws0 : va_W) (hT : Ty G SC ad ws0) (a1 : Int32) (l1 : 3 ≤ a1.toInt) (u1 : a1.toInt ≤ 3) : Mq l yX5_tooDeep cX5_tooDeep 2 (some .boolean) 1 G Z [.ref (ad 77), .int a1] ws0 (PI G SC ad [] ws0 (fun r u => (xso SC ad u = (f_X5_tooDeep_3 (xso SC ad ws0) a1.toInt).1) ∧ (r.toInt = (f_X5_tooDeep_3 (xso SC ad ws0) a1.toInt).2) ∧ (0 ≤ r.toInt) ∧ (r.toInt ≤ 0))) := by
  refine Mq.start (by decide) (Nat.le_of_ble_eq_true rfl) ?_
  intro p e s m below meth c A ls C0 hZ h hl
  have hl : lv_has ls 2 [(0, .ref (ad 77)), (1, .int a1)] := hl
  have h : Wt G SC ad A s s.heap [] ws0 := ⟨h, hT⟩
  obtain ⟨args, hargs⟩ : ∃ z, z = ([.ref (ad 77), .int a1] : List Value).toArray := ⟨_, rfl⟩
  rw [← hargs] at C0 ⊢
  have C0 : Cx p s m args meth c RX5 cX5_tooDeep 2 (some .boolean) := C0
  obtain ⟨Q, hQ⟩ : ∃ z, z = MQ below ((PI G SC ad [] ws0 (fun r u => (xso SC ad u = (f_X5_tooDeep_3 (xso SC ad ws0) a1.toInt).1) ∧ (r.toInt = (f_X5_tooDeep_3 (xso SC ad ws0) a1.toInt).2) ∧ (0 ≤ r.toInt) ∧ (r.toInt ≤ 0))) A) args s 0 0 A := ⟨_, rfl⟩
  rw [← hQ]
  obtain ⟨FT, hFT⟩ : ∃ z, z = f_X5_tooDeep_3 (xso SC ad ws0) a1.toInt := ⟨_, rfl⟩
  have HE : FT = f_X5_tooDeep_3 (xso SC ad ws0) a1.toInt := hFT
  refine lv_iload_n C0.1 C0.2.1 dX5_tooDeep_0 rfl (lv_at hl 1 rfl) ?_
  refine y_c2 (n := 6) C0 (by decide) dX5_tooDeep_1 (fun v_1 e_2 => ?_)
  refine y_icmp_lt (tgt := 13) C0 dX5_tooDeep_3 (by decide) (fun c_3 => ?_) (fun c_3 => ((o24_90 l1 u1 e_2 c_3)).elim)
  refine y_c1 (n := 0) C0 (by decide) dX5_tooDeep_13 (fun v_4 e_5 => ?_)
  replace HE : FT = ((xso SC ad ws0), v_4.toInt) := HE.trans (by rw [e_5]; rfl)
  rw [hQ]
  exact y_zret C0 h (o24_35 e_5) (o24_67 e_5) Fr.rf ⟨(congrArg Prod.fst (HE.symm.trans hFT)), (congrArg Prod.snd (HE.symm.trans hFT)), (o24_35 e_5), (o24_66 e_5)⟩ dX5_tooDeep_14
noncomputable def g31c_X5_atom_3 (s : XS) : XR := (s, 0)
noncomputable def g29_X5_atom_3 (s : XS) : XR := g31c_X5_atom_3 ((f_X5_fail s 2).1)
noncomputable def g33c_X5_atom_3 (s : XS) : XR := (s, 0)
noncomputable def g32c_X5_atom_3 (s : XS) : XR := g33c_X5_atom_3 ((f_X5_advance s).1)
noncomputable def g30_X5_atom_3 (s : XS) : XR := g32c_X5_atom_3 ((f_X4_add s (Int.toNat (s 3 77 10)) 1005).1)
noncomputable def g28b_X5_atom_3 (s : XS) (r_64 : Int) : XR := if r_64 = 0 then g29_X5_atom_3 s else g30_X5_atom_3 s
noncomputable def g27c_X5_atom_3 (s : XS) (r_64 : Int) : XR := g28b_X5_atom_3 s r_64
noncomputable def g25_X5_atom_3 (s : XS) : XR := g27c_X5_atom_3 ((f_X5_isWord s 17).1) (((f_X5_isWord s 17).2))
noncomputable def g35c_X5_atom_3 (s : XS) : XR := (s, 0)
noncomputable def g34c_X5_atom_3 (s : XS) : XR := g35c_X5_atom_3 ((f_X5_advance s).1)
noncomputable def g26_X5_atom_3 (s : XS) : XR := g34c_X5_atom_3 ((f_X4_add s (Int.toNat (s 3 77 10)) 1004).1)
noncomputable def g24b_X5_atom_3 (s : XS) (r_55 : Int) : XR := if r_55 = 0 then g25_X5_atom_3 s else g26_X5_atom_3 s
noncomputable def g23c_X5_atom_3 (s : XS) (r_55 : Int) : XR := g24b_X5_atom_3 s r_55
noncomputable def g21_X5_atom_3 (s : XS) : XR := g23c_X5_atom_3 ((f_X5_isWord s 16).1) (((f_X5_isWord s 16).2))
noncomputable def g37c_X5_atom_3 (s : XS) : XR := (s, 0)
noncomputable def g36c_X5_atom_3 (s : XS) : XR := g37c_X5_atom_3 ((f_X5_advance s).1)
noncomputable def g22_X5_atom_3 (s : XS) : XR := g36c_X5_atom_3 ((f_X4_add s (Int.toNat (s 3 77 10)) 1003).1)
noncomputable def g20b_X5_atom_3 (s : XS) (r_46 : Int) : XR := if r_46 = 0 then g21_X5_atom_3 s else g22_X5_atom_3 s
noncomputable def g19c_X5_atom_3 (s : XS) (r_46 : Int) : XR := g20b_X5_atom_3 s r_46
noncomputable def g17_X5_atom_3 (s : XS) : XR := g19c_X5_atom_3 ((f_X5_isWord s 15).1) (((f_X5_isWord s 15).2))
noncomputable def g39c_X5_atom_3 (s : XS) : XR := (s, 0)
noncomputable def g38c_X5_atom_3 (s : XS) : XR := g39c_X5_atom_3 ((f_X5_advance s).1)
noncomputable def g18_X5_atom_3 (s : XS) : XR := g38c_X5_atom_3 ((f_X4_add s (Int.toNat (s 3 77 10)) 1002).1)
noncomputable def g16b_X5_atom_3 (s : XS) (r_37 : Int) : XR := if r_37 = 0 then g17_X5_atom_3 s else g18_X5_atom_3 s
noncomputable def g15c_X5_atom_3 (s : XS) (r_37 : Int) : XR := g16b_X5_atom_3 s r_37
noncomputable def g13_X5_atom_3 (s : XS) : XR := g15c_X5_atom_3 ((f_X5_isWord s 14).1) (((f_X5_isWord s 14).2))
noncomputable def g41c_X5_atom_3 (s : XS) : XR := (s, 0)
noncomputable def g40c_X5_atom_3 (s : XS) : XR := g41c_X5_atom_3 ((f_X5_advance s).1)
noncomputable def g14_X5_atom_3 (s : XS) : XR := g40c_X5_atom_3 ((f_X4_add s (Int.toNat (s 3 77 10)) 1001).1)
noncomputable def g12b_X5_atom_3 (s : XS) (r_28 : Int) : XR := if r_28 = 0 then g13_X5_atom_3 s else g14_X5_atom_3 s
noncomputable def g11c_X5_atom_3 (s : XS) (r_28 : Int) : XR := g12b_X5_atom_3 s r_28
noncomputable def g9_X5_atom_3 (s : XS) : XR := g11c_X5_atom_3 ((f_X5_isWord s 13).1) (((f_X5_isWord s 13).2))
noncomputable def g43c_X5_atom_3 (s : XS) : XR := (s, 0)
noncomputable def g42c_X5_atom_3 (s : XS) : XR := g43c_X5_atom_3 ((f_X5_advance s).1)
noncomputable def g10_X5_atom_3 (s : XS) : XR := g42c_X5_atom_3 ((f_X4_add s (Int.toNat (s 3 77 10)) 1000).1)
noncomputable def g8b_X5_atom_3 (s : XS) (r_19 : Int) : XR := if r_19 = 0 then g9_X5_atom_3 s else g10_X5_atom_3 s
noncomputable def g7c_X5_atom_3 (s : XS) (r_19 : Int) : XR := g8b_X5_atom_3 s r_19
noncomputable def g5_X5_atom_3 (s : XS) : XR := g7c_X5_atom_3 ((f_X5_isWord s 12).1) (((f_X5_isWord s 12).2))
noncomputable def g47c_X5_atom_3 (s : XS) : XR := (s, 0)
noncomputable def g46c_X5_atom_3 (s : XS) : XR := g47c_X5_atom_3 ((f_X5_sign s 41).1)
noncomputable def g45c_X5_atom_3 (s : XS) : XR := g46c_X5_atom_3 ((f_X5_sum_4 s (3 + 1)).1)
noncomputable def g44c_X5_atom_3 (s : XS) : XR := g45c_X5_atom_3 ((f_X5_advance s).1)
noncomputable def g6_X5_atom_3 (s : XS) : XR := g44c_X5_atom_3 ((f_X5_tooDeep_3 s 3).1)
noncomputable def g4b_X5_atom_3 (s : XS) (v_8 : Int) : XR := if v_8 = 40 then g6_X5_atom_3 s else g5_X5_atom_3 s
noncomputable def g2_X5_atom_3 (s : XS) : XR := g4b_X5_atom_3 s ((s 0 77 4))
noncomputable def g49c_X5_atom_3 (s : XS) : XR := (s, 0)
noncomputable def g48c_X5_atom_3 (s : XS) : XR := g49c_X5_atom_3 ((f_X5_advance s).1)
noncomputable def g3_X5_atom_3 (s : XS) : XR := g48c_X5_atom_3 ((f_X4_add s (Int.toNat (s 3 77 10)) (s 0 77 7)).1)
noncomputable def g1b_X5_atom_3 (s : XS) (v_1 : Int) : XR := if v_1 = 2 then g3_X5_atom_3 s else g2_X5_atom_3 s
noncomputable def f_X5_atom_3 (s : XS) (a1 : Int) : XR := g1b_X5_atom_3 s ((s 0 77 4))
set_option maxHeartbeats 4000000 in
set_option maxRecDepth 100000 in
theorem c_X5_atom_3 (l : Launch) (G : GG) (Z : RZ) (ad : Nat → Nat) (ws0 : va_W) (hT : Ty G SC ad ws0) (a1 : Int32) (l1 : 3 ≤ a1.toInt) (u1 : a1.toInt ≤ 3) : Mq l yX5_atom cX5_atom 3 none 15 G Z [.ref (ad 77), .int a1] ws0 (PV G SC ad [2, 3, 16] ws0 (fun u => (xso SC ad u = (f_X5_atom_3 (xso SC ad ws0) a1.toInt).1))) := by
  refine Mq.start (by decide) (Nat.le_of_ble_eq_true rfl) ?_
  intro p e s m below meth c A ls C0 hZ h hl
  have hl : lv_has ls 3 [(0, .ref (ad 77)), (1, .int a1)] := hl
  have h : Wt G SC ad A s s.heap [] ws0 := ⟨h, hT⟩
  obtain ⟨args, hargs⟩ : ∃ z, z = ([.ref (ad 77), .int a1] : List Value).toArray := ⟨_, rfl⟩
  rw [← hargs] at C0 ⊢
  have C0 : Cx p s m args meth c RX5 cX5_atom 3 none := C0
  obtain ⟨Q, hQ⟩ : ∃ z, z = MQ below ((PV G SC ad [2, 3, 16] ws0 (fun u => (xso SC ad u = (f_X5_atom_3 (xso SC ad ws0) a1.toInt).1))) A) args s 0 0 A := ⟨_, rfl⟩
  rw [← hQ]
  obtain ⟨FT, hFT⟩ : ∃ z, z = f_X5_atom_3 (xso SC ad ws0) a1.toInt := ⟨_, rfl⟩
  have HE : FT = f_X5_atom_3 (xso SC ad ws0) a1.toInt := hFT
  refine lv_aload_n C0.1 C0.2.1 dX5_atom_0 rfl (lv_at hl 0 rfl) ?_
  refine tg_X5_kind C0 h kSC_77 q_374 dX5_atom_1 (fun v_1 e_2 e_3 e_4 => ?_)
  refine y_c1 (n := 2) C0 (by decide) dX5_atom_4 (fun v_5 e_6 => ?_)
  replace HE : FT = g1b_X5_atom_3 (xso SC ad ws0) v_1.toInt := HE.trans (by rw [(xg0 e_2 : v_1.toInt = (xso SC ad ws0) 0 77 4)]; rfl)
  refine y_icmp_ne (tgt := 26) C0 dX5_atom_5 (by decide) (fun c_7 => ?_) (fun c_7 => ?_)
  · -- 5
    replace HE : FT = g2_X5_atom_3 (xso SC ad ws0) := HE.trans (if_neg (o24_6 e_6 c_7))
    refine lv_aload_n C0.1 C0.2.1 dX5_atom_26 rfl (lv_at hl 0 rfl) ?_
    refine tg_X5_kind C0 h kSC_77 q_374 dX5_atom_27 (fun v_8 e_9 e_10 e_11 => ?_)
    have qh_12 : v_8.toInt = v_1.toInt := congrArg Int32.toInt (e_9.symm.trans (Eq.trans rfl e_2))
    refine y_c2 (n := 40) C0 (by decide) dX5_atom_30 (fun v_13 e_14 => ?_)
    replace HE : FT = g4b_X5_atom_3 (xso SC ad ws0) v_8.toInt := HE.trans (by rw [(xg0 e_9 : v_8.toInt = (xso SC ad ws0) 0 77 4)]; rfl)
    refine y_icmp_ne (tgt := 63) C0 dX5_atom_32 (by decide) (fun c_15 => ?_) (fun c_15 => ?_)
    · -- 32
      replace HE : FT = g5_X5_atom_3 (xso SC ad ws0) := HE.trans (if_neg (o24_9 e_6 c_7 qh_12 e_14 c_15))
      refine lv_aload_n C0.1 C0.2.1 dX5_atom_63 rfl (lv_at hl 0 rfl) ?_
      refine va_ldcS C0.1 C0.2.1 C0.2.2.2.1 (sr_12 hZ) dX5_atom_64 ?_
      refine y_ci h (y_rV (As := [.ref (Z.2.1 12)]) (rest := []) C0 hZ h (c_X5_isWord l G Z ad _ h.2 12 (by decide)) k_X5_isWord q_724 q_5 q_722 kSC_77 rfl rfl rfl hl.1 rfl rfl (Nat.le_of_ble_eq_true rfl) dX5_atom_66 ⟨Nat.le_of_ble_eq_true rfl, Nat.le_of_ble_eq_true rfl⟩ ⟨Nat.le_of_ble_eq_true rfl, Nat.le_of_ble_eq_true rfl⟩) (fun r_19 H locs ws_16 h u_17 p_18 => ?_)
      obtain ⟨e_20, e_21, e_22, e_23⟩ := p_18
      replace HE : FT = g7c_X5_atom_3 (xso SC ad ws_16) r_19.toInt := HE.trans (by rw [e_20, e_21]; rfl)
      replace HE : FT = g8b_X5_atom_3 (xso SC ad ws_16) r_19.toInt := HE.trans rfl
      refine y_if_eq (tgt := 78) C0 dX5_atom_69 (by decide) (fun c_24 => ?_) (fun c_24 => ?_)
      · -- 69
        replace HE : FT = g9_X5_atom_3 (xso SC ad ws_16) := HE.trans (if_pos c_24)
        refine lv_aload_n C0.1 C0.2.1 dX5_atom_78 rfl (lv_at hl 0 rfl) ?_
        refine va_ldcS C0.1 C0.2.1 C0.2.2.2.1 (sr_13 hZ) dX5_atom_79 ?_
        refine y_ci h (y_rV (As := [.ref (Z.2.1 13)]) (rest := []) C0 hZ h (c_X5_isWord l G Z ad _ h.2 13 (by decide)) k_X5_isWord q_724 q_5 q_722 kSC_77 rfl rfl rfl hl.1 rfl rfl (Nat.le_of_ble_eq_true rfl) dX5_atom_81 ⟨Nat.le_of_ble_eq_true rfl, Nat.le_of_ble_eq_true rfl⟩ ⟨Nat.le_of_ble_eq_true rfl, Nat.le_of_ble_eq_true rfl⟩) (fun r_28 H locs ws_25 h u_26 p_27 => ?_)
        obtain ⟨e_29, e_30, e_31, e_32⟩ := p_27
        replace HE : FT = g11c_X5_atom_3 (xso SC ad ws_25) r_28.toInt := HE.trans (by rw [e_29, e_30]; rfl)
        replace HE : FT = g12b_X5_atom_3 (xso SC ad ws_25) r_28.toInt := HE.trans rfl
        refine y_if_eq (tgt := 93) C0 dX5_atom_84 (by decide) (fun c_33 => ?_) (fun c_33 => ?_)
        · -- 84
          replace HE : FT = g13_X5_atom_3 (xso SC ad ws_25) := HE.trans (if_pos c_33)
          refine lv_aload_n C0.1 C0.2.1 dX5_atom_93 rfl (lv_at hl 0 rfl) ?_
          refine va_ldcS C0.1 C0.2.1 C0.2.2.2.1 (sr_14 hZ) dX5_atom_94 ?_
          refine y_ci h (y_rV (As := [.ref (Z.2.1 14)]) (rest := []) C0 hZ h (c_X5_isWord l G Z ad _ h.2 14 (by decide)) k_X5_isWord q_724 q_5 q_722 kSC_77 rfl rfl rfl hl.1 rfl rfl (Nat.le_of_ble_eq_true rfl) dX5_atom_96 ⟨Nat.le_of_ble_eq_true rfl, Nat.le_of_ble_eq_true rfl⟩ ⟨Nat.le_of_ble_eq_true rfl, Nat.le_of_ble_eq_true rfl⟩) (fun r_37 H locs ws_34 h u_35 p_36 => ?_)
          obtain ⟨e_38, e_39, e_40, e_41⟩ := p_36
          replace HE : FT = g15c_X5_atom_3 (xso SC ad ws_34) r_37.toInt := HE.trans (by rw [e_38, e_39]; rfl)
          replace HE : FT = g16b_X5_atom_3 (xso SC ad ws_34) r_37.toInt := HE.trans rfl
          refine y_if_eq (tgt := 108) C0 dX5_atom_99 (by decide) (fun c_42 => ?_) (fun c_42 => ?_)
          · -- 99
            replace HE : FT = g17_X5_atom_3 (xso SC ad ws_34) := HE.trans (if_pos c_42)
            refine lv_aload_n C0.1 C0.2.1 dX5_atom_108 rfl (lv_at hl 0 rfl) ?_
            refine va_ldcS C0.1 C0.2.1 C0.2.2.2.1 (sr_15 hZ) dX5_atom_109 ?_
            refine y_ci h (y_rV (As := [.ref (Z.2.1 15)]) (rest := []) C0 hZ h (c_X5_isWord l G Z ad _ h.2 15 (by decide)) k_X5_isWord q_724 q_5 q_722 kSC_77 rfl rfl rfl hl.1 rfl rfl (Nat.le_of_ble_eq_true rfl) dX5_atom_111 ⟨Nat.le_of_ble_eq_true rfl, Nat.le_of_ble_eq_true rfl⟩ ⟨Nat.le_of_ble_eq_true rfl, Nat.le_of_ble_eq_true rfl⟩) (fun r_46 H locs ws_43 h u_44 p_45 => ?_)
            obtain ⟨e_47, e_48, e_49, e_50⟩ := p_45
            replace HE : FT = g19c_X5_atom_3 (xso SC ad ws_43) r_46.toInt := HE.trans (by rw [e_47, e_48]; rfl)
            replace HE : FT = g20b_X5_atom_3 (xso SC ad ws_43) r_46.toInt := HE.trans rfl
            refine y_if_eq (tgt := 123) C0 dX5_atom_114 (by decide) (fun c_51 => ?_) (fun c_51 => ?_)
            · -- 114
              replace HE : FT = g21_X5_atom_3 (xso SC ad ws_43) := HE.trans (if_pos c_51)
              refine lv_aload_n C0.1 C0.2.1 dX5_atom_123 rfl (lv_at hl 0 rfl) ?_
              refine va_ldcS C0.1 C0.2.1 C0.2.2.2.1 (sr_16 hZ) dX5_atom_124 ?_
              refine y_ci h (y_rV (As := [.ref (Z.2.1 16)]) (rest := []) C0 hZ h (c_X5_isWord l G Z ad _ h.2 16 (by decide)) k_X5_isWord q_724 q_5 q_722 kSC_77 rfl rfl rfl hl.1 rfl rfl (Nat.le_of_ble_eq_true rfl) dX5_atom_126 ⟨Nat.le_of_ble_eq_true rfl, Nat.le_of_ble_eq_true rfl⟩ ⟨Nat.le_of_ble_eq_true rfl, Nat.le_of_ble_eq_true rfl⟩) (fun r_55 H locs ws_52 h u_53 p_54 => ?_)
              obtain ⟨e_56, e_57, e_58, e_59⟩ := p_54
              replace HE : FT = g23c_X5_atom_3 (xso SC ad ws_52) r_55.toInt := HE.trans (by rw [e_56, e_57]; rfl)
              replace HE : FT = g24b_X5_atom_3 (xso SC ad ws_52) r_55.toInt := HE.trans rfl
              refine y_if_eq (tgt := 138) C0 dX5_atom_129 (by decide) (fun c_60 => ?_) (fun c_60 => ?_)
              · -- 129
                replace HE : FT = g25_X5_atom_3 (xso SC ad ws_52) := HE.trans (if_pos c_60)
                refine lv_aload_n C0.1 C0.2.1 dX5_atom_138 rfl (lv_at hl 0 rfl) ?_
                refine va_ldcS C0.1 C0.2.1 C0.2.2.2.1 (sr_17 hZ) dX5_atom_139 ?_
                refine y_ci h (y_rV (As := [.ref (Z.2.1 17)]) (rest := []) C0 hZ h (c_X5_isWord l G Z ad _ h.2 17 (by decide)) k_X5_isWord q_724 q_5 q_722 kSC_77 rfl rfl rfl hl.1 rfl rfl (Nat.le_of_ble_eq_true rfl) dX5_atom_141 ⟨Nat.le_of_ble_eq_true rfl, Nat.le_of_ble_eq_true rfl⟩ ⟨Nat.le_of_ble_eq_true rfl, Nat.le_of_ble_eq_true rfl⟩) (fun r_64 H locs ws_61 h u_62 p_63 => ?_)
                obtain ⟨e_65, e_66, e_67, e_68⟩ := p_63
                replace HE : FT = g27c_X5_atom_3 (xso SC ad ws_61) r_64.toInt := HE.trans (by rw [e_65, e_66]; rfl)
                replace HE : FT = g28b_X5_atom_3 (xso SC ad ws_61) r_64.toInt := HE.trans rfl
                refine y_if_eq (tgt := 153) C0 dX5_atom_144 (by decide) (fun c_69 => ?_) (fun c_69 => ?_)
                · -- 144
                  replace HE : FT = g29_X5_atom_3 (xso SC ad ws_61) := HE.trans (if_pos c_69)
                  refine y_c1 (n := (-1)) C0 (by decide) dX5_atom_153 (fun v_70 e_71 => ?_)
                  refine lv_istore_n (lv' := [(2, .int v_70), (0, .ref (ad 77)), (1, .int a1)]) C0.1 C0.2.1 dX5_atom_154 rfl hl (by decide) rfl (fun ls hl => ?_)
                  refine lv_iload_n C0.1 C0.2.1 dX5_atom_155 rfl (lv_at hl 0 rfl) ?_
                  refine y_if_ge (tgt := 165) C0 dX5_atom_156 (by decide) (fun c_72 => ((o24_11 e_71 c_72)).elim) (fun c_72 => ?_)
                  refine lv_aload_n C0.1 C0.2.1 dX5_atom_159 rfl (lv_at hl 1 rfl) ?_
                  refine y_c1 (n := 2) C0 (by decide) dX5_atom_160 (fun v_73 e_74 => ?_)
                  refine y_cv h (y_rV (As := [.int v_73]) (rest := []) C0 hZ h (c_X5_fail l G Z ad _ h.2 v_73) k_X5_fail q_628 q_3 q_626 kSC_77 rfl rfl rfl hl.1 rfl rfl (Nat.le_of_ble_eq_true rfl) dX5_atom_161 ⟨Nat.le_of_ble_eq_true rfl, Nat.le_of_ble_eq_true rfl⟩ ⟨Nat.le_of_ble_eq_true rfl, Nat.le_of_ble_eq_true rfl⟩) (fun H locs ws_75 h u_76 p_77 => ?_)
                  have e_78 := p_77
                  replace HE : FT = g31c_X5_atom_3 (xso SC ad ws_75) := HE.trans (by rw [e_78, e_74]; rfl)
                  replace HE : FT = ((xso SC ad ws_75), 0) := HE.trans rfl
                  rw [hQ]
                  exact y_vret C0 h (Fr.tr (Fr.tr (Fr.tr (Fr.tr (Fr.tr (Fr.tr (Fr.mono u_17 (by decide)) (Fr.mono u_26 (by decide))) (Fr.mono u_35 (by decide))) (Fr.mono u_44 (by decide))) (Fr.mono u_53 (by decide))) (Fr.mono u_62 (by decide))) (Fr.mono u_76 (by decide))) (congrArg Prod.fst (HE.symm.trans hFT)) dX5_atom_164
                · -- 144
                  replace HE : FT = g30_X5_atom_3 (xso SC ad ws_61) := HE.trans (if_neg c_69)
                  refine y_c3 (n := 1005) C0 (by decide) dX5_atom_147 (fun v_79 e_80 => ?_)
                  refine lv_goto (tgt := 154) C0.1 C0.2.1 dX5_atom_150 (by decide) ?_
                  refine lv_istore_n (lv' := [(2, .int v_79), (0, .ref (ad 77)), (1, .int a1)]) C0.1 C0.2.1 dX5_atom_154 rfl hl (by decide) rfl (fun ls hl => ?_)
                  refine lv_iload_n C0.1 C0.2.1 dX5_atom_155 rfl (lv_at hl 0 rfl) ?_
                  refine y_if_ge (tgt := 165) C0 dX5_atom_156 (by decide) (fun c_81 => ?_) (fun c_81 => ((o24_12 e_80 c_81)).elim)
                  refine lv_aload_n C0.1 C0.2.1 dX5_atom_165 rfl (lv_at hl 1 rfl) ?_
                  refine tg_X5_law C0 h kSC_77 q_380 dX5_atom_166 (fun i_82 hi_82 ei_82 => ?_)
                  refine lv_iload_n C0.1 C0.2.1 dX5_atom_169 rfl (lv_at hl 0 rfl) ?_
                  refine y_cv h (y_rV (As := [.int v_79]) (rest := []) C0 hZ h (c_X4_add l G Z ad _ h.2 i_82 hi_82 v_79) k_X4_add q_827 q_828 q_826 hi_82 rfl rfl rfl hl.1 rfl rfl (Nat.le_of_ble_eq_true rfl) dX5_atom_170 ⟨Nat.le_of_ble_eq_true rfl, Nat.le_of_ble_eq_true rfl⟩ ⟨Nat.le_of_ble_eq_true rfl, Nat.le_of_ble_eq_true rfl⟩) (fun H locs ws_83 h u_84 p_85 => ?_)
                  have e_86 := p_85
                  replace HE : FT = g32c_X5_atom_3 (xso SC ad ws_83) := HE.trans (by rw [e_86, e_80, ei_82]; rfl)
                  refine lv_aload_n C0.1 C0.2.1 dX5_atom_173 rfl (lv_at hl 1 rfl) ?_
                  refine y_cv h (y_rV (As := []) (rest := []) C0 hZ h (c_X5_advance l G Z ad _ h.2) k_X5_advance q_616 q_0 q_614 kSC_77 rfl rfl rfl hl.1 rfl rfl (Nat.le_of_ble_eq_true rfl) dX5_atom_174 ⟨Nat.le_of_ble_eq_true rfl, Nat.le_of_ble_eq_true rfl⟩ ⟨Nat.le_of_ble_eq_true rfl, Nat.le_of_ble_eq_true rfl⟩) (fun H locs ws_87 h u_88 p_89 => ?_)
                  have e_90 := p_89
                  replace HE : FT = g33c_X5_atom_3 (xso SC ad ws_87) := HE.trans (by rw [e_90]; rfl)
                  replace HE : FT = ((xso SC ad ws_87), 0) := HE.trans rfl
                  rw [hQ]
                  exact y_vret C0 h (Fr.tr (Fr.tr (Fr.tr (Fr.tr (Fr.tr (Fr.tr (Fr.tr (Fr.mono u_17 (by decide)) (Fr.mono u_26 (by decide))) (Fr.mono u_35 (by decide))) (Fr.mono u_44 (by decide))) (Fr.mono u_53 (by decide))) (Fr.mono u_62 (by decide))) (Fr.mono u_84 (by decide))) (Fr.mono u_88 (by decide))) (congrArg Prod.fst (HE.symm.trans hFT)) dX5_atom_177
              · -- 129
                replace HE : FT = g26_X5_atom_3 (xso SC ad ws_52) := HE.trans (if_neg c_60)
                refine y_c3 (n := 1004) C0 (by decide) dX5_atom_132 (fun v_91 e_92 => ?_)
                refine lv_goto (tgt := 154) C0.1 C0.2.1 dX5_atom_135 (by decide) ?_
                refine lv_istore_n (lv' := [(2, .int v_91), (0, .ref (ad 77)), (1, .int a1)]) C0.1 C0.2.1 dX5_atom_154 rfl hl (by decide) rfl (fun ls hl => ?_)
                refine lv_iload_n C0.1 C0.2.1 dX5_atom_155 rfl (lv_at hl 0 rfl) ?_
                refine y_if_ge (tgt := 165) C0 dX5_atom_156 (by decide) (fun c_93 => ?_) (fun c_93 => ((o24_13 e_92 c_93)).elim)
                refine lv_aload_n C0.1 C0.2.1 dX5_atom_165 rfl (lv_at hl 1 rfl) ?_
                refine tg_X5_law C0 h kSC_77 q_380 dX5_atom_166 (fun i_94 hi_94 ei_94 => ?_)
                refine lv_iload_n C0.1 C0.2.1 dX5_atom_169 rfl (lv_at hl 0 rfl) ?_
                refine y_cv h (y_rV (As := [.int v_91]) (rest := []) C0 hZ h (c_X4_add l G Z ad _ h.2 i_94 hi_94 v_91) k_X4_add q_827 q_828 q_826 hi_94 rfl rfl rfl hl.1 rfl rfl (Nat.le_of_ble_eq_true rfl) dX5_atom_170 ⟨Nat.le_of_ble_eq_true rfl, Nat.le_of_ble_eq_true rfl⟩ ⟨Nat.le_of_ble_eq_true rfl, Nat.le_of_ble_eq_true rfl⟩) (fun H locs ws_95 h u_96 p_97 => ?_)
                have e_98 := p_97
                replace HE : FT = g34c_X5_atom_3 (xso SC ad ws_95) := HE.trans (by rw [e_98, e_92, ei_94]; rfl)
                refine lv_aload_n C0.1 C0.2.1 dX5_atom_173 rfl (lv_at hl 1 rfl) ?_
                refine y_cv h (y_rV (As := []) (rest := []) C0 hZ h (c_X5_advance l G Z ad _ h.2) k_X5_advance q_616 q_0 q_614 kSC_77 rfl rfl rfl hl.1 rfl rfl (Nat.le_of_ble_eq_true rfl) dX5_atom_174 ⟨Nat.le_of_ble_eq_true rfl, Nat.le_of_ble_eq_true rfl⟩ ⟨Nat.le_of_ble_eq_true rfl, Nat.le_of_ble_eq_true rfl⟩) (fun H locs ws_99 h u_100 p_101 => ?_)
                have e_102 := p_101
                replace HE : FT = g35c_X5_atom_3 (xso SC ad ws_99) := HE.trans (by rw [e_102]; rfl)
                replace HE : FT = ((xso SC ad ws_99), 0) := HE.trans rfl
                rw [hQ]
                exact y_vret C0 h (Fr.tr (Fr.tr (Fr.tr (Fr.tr (Fr.tr (Fr.tr (Fr.mono u_17 (by decide)) (Fr.mono u_26 (by decide))) (Fr.mono u_35 (by decide))) (Fr.mono u_44 (by decide))) (Fr.mono u_53 (by decide))) (Fr.mono u_96 (by decide))) (Fr.mono u_100 (by decide))) (congrArg Prod.fst (HE.symm.trans hFT)) dX5_atom_177
            · -- 114
              replace HE : FT = g22_X5_atom_3 (xso SC ad ws_43) := HE.trans (if_neg c_51)
              refine y_c3 (n := 1003) C0 (by decide) dX5_atom_117 (fun v_103 e_104 => ?_)
              refine lv_goto (tgt := 154) C0.1 C0.2.1 dX5_atom_120 (by decide) ?_
              refine lv_istore_n (lv' := [(2, .int v_103), (0, .ref (ad 77)), (1, .int a1)]) C0.1 C0.2.1 dX5_atom_154 rfl hl (by decide) rfl (fun ls hl => ?_)
              refine lv_iload_n C0.1 C0.2.1 dX5_atom_155 rfl (lv_at hl 0 rfl) ?_
              refine y_if_ge (tgt := 165) C0 dX5_atom_156 (by decide) (fun c_105 => ?_) (fun c_105 => ((o24_14 e_104 c_105)).elim)
              refine lv_aload_n C0.1 C0.2.1 dX5_atom_165 rfl (lv_at hl 1 rfl) ?_
              refine tg_X5_law C0 h kSC_77 q_380 dX5_atom_166 (fun i_106 hi_106 ei_106 => ?_)
              refine lv_iload_n C0.1 C0.2.1 dX5_atom_169 rfl (lv_at hl 0 rfl) ?_
              refine y_cv h (y_rV (As := [.int v_103]) (rest := []) C0 hZ h (c_X4_add l G Z ad _ h.2 i_106 hi_106 v_103) k_X4_add q_827 q_828 q_826 hi_106 rfl rfl rfl hl.1 rfl rfl (Nat.le_of_ble_eq_true rfl) dX5_atom_170 ⟨Nat.le_of_ble_eq_true rfl, Nat.le_of_ble_eq_true rfl⟩ ⟨Nat.le_of_ble_eq_true rfl, Nat.le_of_ble_eq_true rfl⟩) (fun H locs ws_107 h u_108 p_109 => ?_)
              have e_110 := p_109
              replace HE : FT = g36c_X5_atom_3 (xso SC ad ws_107) := HE.trans (by rw [e_110, e_104, ei_106]; rfl)
              refine lv_aload_n C0.1 C0.2.1 dX5_atom_173 rfl (lv_at hl 1 rfl) ?_
              refine y_cv h (y_rV (As := []) (rest := []) C0 hZ h (c_X5_advance l G Z ad _ h.2) k_X5_advance q_616 q_0 q_614 kSC_77 rfl rfl rfl hl.1 rfl rfl (Nat.le_of_ble_eq_true rfl) dX5_atom_174 ⟨Nat.le_of_ble_eq_true rfl, Nat.le_of_ble_eq_true rfl⟩ ⟨Nat.le_of_ble_eq_true rfl, Nat.le_of_ble_eq_true rfl⟩) (fun H locs ws_111 h u_112 p_113 => ?_)
              have e_114 := p_113
              replace HE : FT = g37c_X5_atom_3 (xso SC ad ws_111) := HE.trans (by rw [e_114]; rfl)
              replace HE : FT = ((xso SC ad ws_111), 0) := HE.trans rfl
              rw [hQ]
              exact y_vret C0 h (Fr.tr (Fr.tr (Fr.tr (Fr.tr (Fr.tr (Fr.mono u_17 (by decide)) (Fr.mono u_26 (by decide))) (Fr.mono u_35 (by decide))) (Fr.mono u_44 (by decide))) (Fr.mono u_108 (by decide))) (Fr.mono u_112 (by decide))) (congrArg Prod.fst (HE.symm.trans hFT)) dX5_atom_177
          · -- 99
            replace HE : FT = g18_X5_atom_3 (xso SC ad ws_34) := HE.trans (if_neg c_42)
            refine y_c3 (n := 1002) C0 (by decide) dX5_atom_102 (fun v_115 e_116 => ?_)
            refine lv_goto (tgt := 154) C0.1 C0.2.1 dX5_atom_105 (by decide) ?_
            refine lv_istore_n (lv' := [(2, .int v_115), (0, .ref (ad 77)), (1, .int a1)]) C0.1 C0.2.1 dX5_atom_154 rfl hl (by decide) rfl (fun ls hl => ?_)
            refine lv_iload_n C0.1 C0.2.1 dX5_atom_155 rfl (lv_at hl 0 rfl) ?_
            refine y_if_ge (tgt := 165) C0 dX5_atom_156 (by decide) (fun c_117 => ?_) (fun c_117 => ((o24_15 e_116 c_117)).elim)
            refine lv_aload_n C0.1 C0.2.1 dX5_atom_165 rfl (lv_at hl 1 rfl) ?_
            refine tg_X5_law C0 h kSC_77 q_380 dX5_atom_166 (fun i_118 hi_118 ei_118 => ?_)
            refine lv_iload_n C0.1 C0.2.1 dX5_atom_169 rfl (lv_at hl 0 rfl) ?_
            refine y_cv h (y_rV (As := [.int v_115]) (rest := []) C0 hZ h (c_X4_add l G Z ad _ h.2 i_118 hi_118 v_115) k_X4_add q_827 q_828 q_826 hi_118 rfl rfl rfl hl.1 rfl rfl (Nat.le_of_ble_eq_true rfl) dX5_atom_170 ⟨Nat.le_of_ble_eq_true rfl, Nat.le_of_ble_eq_true rfl⟩ ⟨Nat.le_of_ble_eq_true rfl, Nat.le_of_ble_eq_true rfl⟩) (fun H locs ws_119 h u_120 p_121 => ?_)
            have e_122 := p_121
            replace HE : FT = g38c_X5_atom_3 (xso SC ad ws_119) := HE.trans (by rw [e_122, e_116, ei_118]; rfl)
            refine lv_aload_n C0.1 C0.2.1 dX5_atom_173 rfl (lv_at hl 1 rfl) ?_
            refine y_cv h (y_rV (As := []) (rest := []) C0 hZ h (c_X5_advance l G Z ad _ h.2) k_X5_advance q_616 q_0 q_614 kSC_77 rfl rfl rfl hl.1 rfl rfl (Nat.le_of_ble_eq_true rfl) dX5_atom_174 ⟨Nat.le_of_ble_eq_true rfl, Nat.le_of_ble_eq_true rfl⟩ ⟨Nat.le_of_ble_eq_true rfl, Nat.le_of_ble_eq_true rfl⟩) (fun H locs ws_123 h u_124 p_125 => ?_)
            have e_126 := p_125
            replace HE : FT = g39c_X5_atom_3 (xso SC ad ws_123) := HE.trans (by rw [e_126]; rfl)
            replace HE : FT = ((xso SC ad ws_123), 0) := HE.trans rfl
            rw [hQ]
            exact y_vret C0 h (Fr.tr (Fr.tr (Fr.tr (Fr.tr (Fr.mono u_17 (by decide)) (Fr.mono u_26 (by decide))) (Fr.mono u_35 (by decide))) (Fr.mono u_120 (by decide))) (Fr.mono u_124 (by decide))) (congrArg Prod.fst (HE.symm.trans hFT)) dX5_atom_177
        · -- 84
          replace HE : FT = g14_X5_atom_3 (xso SC ad ws_25) := HE.trans (if_neg c_33)
          refine y_c3 (n := 1001) C0 (by decide) dX5_atom_87 (fun v_127 e_128 => ?_)
          refine lv_goto (tgt := 154) C0.1 C0.2.1 dX5_atom_90 (by decide) ?_
          refine lv_istore_n (lv' := [(2, .int v_127), (0, .ref (ad 77)), (1, .int a1)]) C0.1 C0.2.1 dX5_atom_154 rfl hl (by decide) rfl (fun ls hl => ?_)
          refine lv_iload_n C0.1 C0.2.1 dX5_atom_155 rfl (lv_at hl 0 rfl) ?_
          refine y_if_ge (tgt := 165) C0 dX5_atom_156 (by decide) (fun c_129 => ?_) (fun c_129 => ((o24_16 e_128 c_129)).elim)
          refine lv_aload_n C0.1 C0.2.1 dX5_atom_165 rfl (lv_at hl 1 rfl) ?_
          refine tg_X5_law C0 h kSC_77 q_380 dX5_atom_166 (fun i_130 hi_130 ei_130 => ?_)
          refine lv_iload_n C0.1 C0.2.1 dX5_atom_169 rfl (lv_at hl 0 rfl) ?_
          refine y_cv h (y_rV (As := [.int v_127]) (rest := []) C0 hZ h (c_X4_add l G Z ad _ h.2 i_130 hi_130 v_127) k_X4_add q_827 q_828 q_826 hi_130 rfl rfl rfl hl.1 rfl rfl (Nat.le_of_ble_eq_true rfl) dX5_atom_170 ⟨Nat.le_of_ble_eq_true rfl, Nat.le_of_ble_eq_true rfl⟩ ⟨Nat.le_of_ble_eq_true rfl, Nat.le_of_ble_eq_true rfl⟩) (fun H locs ws_131 h u_132 p_133 => ?_)
          have e_134 := p_133
          replace HE : FT = g40c_X5_atom_3 (xso SC ad ws_131) := HE.trans (by rw [e_134, e_128, ei_130]; rfl)
          refine lv_aload_n C0.1 C0.2.1 dX5_atom_173 rfl (lv_at hl 1 rfl) ?_
          refine y_cv h (y_rV (As := []) (rest := []) C0 hZ h (c_X5_advance l G Z ad _ h.2) k_X5_advance q_616 q_0 q_614 kSC_77 rfl rfl rfl hl.1 rfl rfl (Nat.le_of_ble_eq_true rfl) dX5_atom_174 ⟨Nat.le_of_ble_eq_true rfl, Nat.le_of_ble_eq_true rfl⟩ ⟨Nat.le_of_ble_eq_true rfl, Nat.le_of_ble_eq_true rfl⟩) (fun H locs ws_135 h u_136 p_137 => ?_)
          have e_138 := p_137
          replace HE : FT = g41c_X5_atom_3 (xso SC ad ws_135) := HE.trans (by rw [e_138]; rfl)
          replace HE : FT = ((xso SC ad ws_135), 0) := HE.trans rfl
          rw [hQ]
          exact y_vret C0 h (Fr.tr (Fr.tr (Fr.tr (Fr.mono u_17 (by decide)) (Fr.mono u_26 (by decide))) (Fr.mono u_132 (by decide))) (Fr.mono u_136 (by decide))) (congrArg Prod.fst (HE.symm.trans hFT)) dX5_atom_177
      · -- 69
        replace HE : FT = g10_X5_atom_3 (xso SC ad ws_16) := HE.trans (if_neg c_24)
        refine y_c3 (n := 1000) C0 (by decide) dX5_atom_72 (fun v_139 e_140 => ?_)
        refine lv_goto (tgt := 154) C0.1 C0.2.1 dX5_atom_75 (by decide) ?_
        refine lv_istore_n (lv' := [(2, .int v_139), (0, .ref (ad 77)), (1, .int a1)]) C0.1 C0.2.1 dX5_atom_154 rfl hl (by decide) rfl (fun ls hl => ?_)
        refine lv_iload_n C0.1 C0.2.1 dX5_atom_155 rfl (lv_at hl 0 rfl) ?_
        refine y_if_ge (tgt := 165) C0 dX5_atom_156 (by decide) (fun c_141 => ?_) (fun c_141 => ((o24_17 e_140 c_141)).elim)
        refine lv_aload_n C0.1 C0.2.1 dX5_atom_165 rfl (lv_at hl 1 rfl) ?_
        refine tg_X5_law C0 h kSC_77 q_380 dX5_atom_166 (fun i_142 hi_142 ei_142 => ?_)
        refine lv_iload_n C0.1 C0.2.1 dX5_atom_169 rfl (lv_at hl 0 rfl) ?_
        refine y_cv h (y_rV (As := [.int v_139]) (rest := []) C0 hZ h (c_X4_add l G Z ad _ h.2 i_142 hi_142 v_139) k_X4_add q_827 q_828 q_826 hi_142 rfl rfl rfl hl.1 rfl rfl (Nat.le_of_ble_eq_true rfl) dX5_atom_170 ⟨Nat.le_of_ble_eq_true rfl, Nat.le_of_ble_eq_true rfl⟩ ⟨Nat.le_of_ble_eq_true rfl, Nat.le_of_ble_eq_true rfl⟩) (fun H locs ws_143 h u_144 p_145 => ?_)
        have e_146 := p_145
        replace HE : FT = g42c_X5_atom_3 (xso SC ad ws_143) := HE.trans (by rw [e_146, e_140, ei_142]; rfl)
        refine lv_aload_n C0.1 C0.2.1 dX5_atom_173 rfl (lv_at hl 1 rfl) ?_
        refine y_cv h (y_rV (As := []) (rest := []) C0 hZ h (c_X5_advance l G Z ad _ h.2) k_X5_advance q_616 q_0 q_614 kSC_77 rfl rfl rfl hl.1 rfl rfl (Nat.le_of_ble_eq_true rfl) dX5_atom_174 ⟨Nat.le_of_ble_eq_true rfl, Nat.le_of_ble_eq_true rfl⟩ ⟨Nat.le_of_ble_eq_true rfl, Nat.le_of_ble_eq_true rfl⟩) (fun H locs ws_147 h u_148 p_149 => ?_)
        have e_150 := p_149
        replace HE : FT = g43c_X5_atom_3 (xso SC ad ws_147) := HE.trans (by rw [e_150]; rfl)
        replace HE : FT = ((xso SC ad ws_147), 0) := HE.trans rfl
        rw [hQ]
        exact y_vret C0 h (Fr.tr (Fr.tr (Fr.mono u_17 (by decide)) (Fr.mono u_144 (by decide))) (Fr.mono u_148 (by decide))) (congrArg Prod.fst (HE.symm.trans hFT)) dX5_atom_177
    · -- 32
      replace HE : FT = g6_X5_atom_3 (xso SC ad ws0) := HE.trans (if_pos (o24_10 e_6 c_7 qh_12 e_14 c_15))
      refine lv_aload_n C0.1 C0.2.1 dX5_atom_35 rfl (lv_at hl 0 rfl) ?_
      refine lv_iload_n C0.1 C0.2.1 dX5_atom_36 rfl (lv_at hl 1 rfl) ?_
      refine y_ci h (y_rV (As := [.int a1]) (rest := []) C0 hZ h (c_X5_tooDeep_3 l G Z ad _ h.2 a1 (o24_91 l1 u1) (o24_92 l1 u1)) k_X5_tooDeep q_832 q_18 q_830 kSC_77 rfl rfl rfl hl.1 rfl rfl (Nat.le_of_ble_eq_true rfl) dX5_atom_37 ⟨Nat.le_of_ble_eq_true rfl, Nat.le_of_ble_eq_true rfl⟩ ⟨Nat.le_of_ble_eq_true rfl, Nat.le_of_ble_eq_true rfl⟩) (fun r_154 H locs ws_151 h u_152 p_153 => ?_)
      obtain ⟨e_155, e_156, e_157, e_158⟩ := p_153
      replace HE : FT = g44c_X5_atom_3 (xso SC ad ws_151) := HE.trans (by rw [e_155, (o24_93 l1 u1)]; rfl)
      refine y_if_ne (tgt := 177) C0 dX5_atom_40 (by decide) (fun c_159 => ((o24_71 e_157 e_158 c_159)).elim) (fun c_159 => ?_)
      refine lv_aload_n C0.1 C0.2.1 dX5_atom_43 rfl (lv_at hl 0 rfl) ?_
      refine y_cv h (y_rV (As := []) (rest := []) C0 hZ h (c_X5_advance l G Z ad _ h.2) k_X5_advance q_616 q_0 q_614 kSC_77 rfl rfl rfl hl.1 rfl rfl (Nat.le_of_ble_eq_true rfl) dX5_atom_44 ⟨Nat.le_of_ble_eq_true rfl, Nat.le_of_ble_eq_true rfl⟩ ⟨Nat.le_of_ble_eq_true rfl, Nat.le_of_ble_eq_true rfl⟩) (fun H locs ws_160 h u_161 p_162 => ?_)
      have e_163 := p_162
      replace HE : FT = g45c_X5_atom_3 (xso SC ad ws_160) := HE.trans (by rw [e_163]; rfl)
      refine lv_aload_n C0.1 C0.2.1 dX5_atom_47 rfl (lv_at hl 0 rfl) ?_
      refine lv_iload_n C0.1 C0.2.1 dX5_atom_48 rfl (lv_at hl 1 rfl) ?_
      refine y_c1 (n := 1) C0 (by decide) dX5_atom_49 (fun v_164 e_165 => ?_)
      refine y_add C0 (o24_94 l1 u1 e_165 (le_min a1) (le_max a1) (le_min v_164) (le_max v_164)) (o24_95 l1 u1 e_165 (le_min a1) (le_max a1) (le_min v_164) (le_max v_164)) dX5_atom_50 (fun v_166 e_167 => ?_)
      refine y_cv h (y_rV (As := [.int v_166]) (rest := []) C0 hZ h (c_X5_sum_4 l G Z ad _ h.2 v_166 (o24_96 l1 u1 e_165 e_167) (o24_97 l1 u1 e_165 e_167)) k_X5_sum q_816 q_15 q_814 kSC_77 rfl rfl rfl hl.1 rfl rfl (Nat.le_of_ble_eq_true rfl) dX5_atom_51 ⟨Nat.le_of_ble_eq_true rfl, Nat.le_of_ble_eq_true rfl⟩ ⟨Nat.le_of_ble_eq_true rfl, Nat.le_of_ble_eq_true rfl⟩) (fun H locs ws_168 h u_169 p_170 => ?_)
      have e_171 := p_170
      replace HE : FT = g46c_X5_atom_3 (xso SC ad ws_168) := HE.trans (by rw [e_171, e_167, e_165, (o24_98 l1 u1 e_165 e_167)]; rfl)
      refine lv_aload_n C0.1 C0.2.1 dX5_atom_54 rfl (lv_at hl 0 rfl) ?_
      refine y_c2 (n := 41) C0 (by decide) dX5_atom_55 (fun v_172 e_173 => ?_)
      refine y_cv h (y_rV (As := [.int v_172]) (rest := []) C0 hZ h (c_X5_sign l G Z ad _ h.2 v_172 (o24_77 e_173) (o24_78 e_173)) k_X5_sign q_812 q_14 q_810 kSC_77 rfl rfl rfl hl.1 rfl rfl (Nat.le_of_ble_eq_true rfl) dX5_atom_57 ⟨Nat.le_of_ble_eq_true rfl, Nat.le_of_ble_eq_true rfl⟩ ⟨Nat.le_of_ble_eq_true rfl, Nat.le_of_ble_eq_true rfl⟩) (fun H locs ws_174 h u_175 p_176 => ?_)
      have e_177 := p_176
      replace HE : FT = g47c_X5_atom_3 (xso SC ad ws_174) := HE.trans (by rw [e_177, e_173]; rfl)
      refine lv_goto (tgt := 177) C0.1 C0.2.1 dX5_atom_60 (by decide) ?_
      replace HE : FT = ((xso SC ad ws_174), 0) := HE.trans rfl
      rw [hQ]
      exact y_vret C0 h (Fr.tr (Fr.tr (Fr.tr (Fr.mono u_152 (by decide)) (Fr.mono u_161 (by decide))) u_169) (Fr.mono u_175 (by decide))) (congrArg Prod.fst (HE.symm.trans hFT)) dX5_atom_177
  · -- 5
    replace HE : FT = g3_X5_atom_3 (xso SC ad ws0) := HE.trans (if_pos (o24_7 e_6 c_7))
    refine lv_aload_n C0.1 C0.2.1 dX5_atom_8 rfl (lv_at hl 0 rfl) ?_
    refine tg_X5_law C0 h kSC_77 q_380 dX5_atom_9 (fun i_178 hi_178 ei_178 => ?_)
    refine lv_aload_n C0.1 C0.2.1 dX5_atom_12 rfl (lv_at hl 0 rfl) ?_
    refine tg_X5_number C0 h kSC_77 q_377 dX5_atom_13 (fun v_179 e_180 e_181 e_182 => ?_)
    refine y_cv h (y_rV (As := [.int v_179]) (rest := []) C0 hZ h (c_X4_add l G Z ad _ h.2 i_178 hi_178 v_179) k_X4_add q_827 q_828 q_826 hi_178 rfl rfl rfl hl.1 rfl rfl (Nat.le_of_ble_eq_true rfl) dX5_atom_16 ⟨Nat.le_of_ble_eq_true rfl, Nat.le_of_ble_eq_true rfl⟩ ⟨Nat.le_of_ble_eq_true rfl, Nat.le_of_ble_eq_true rfl⟩) (fun H locs ws_183 h u_184 p_185 => ?_)
    have e_186 := p_185
    replace HE : FT = g48c_X5_atom_3 (xso SC ad ws_183) := HE.trans (by rw [e_186, (xg0 e_180 : v_179.toInt = (xso SC ad ws0) 0 77 7), ei_178]; rfl)
    refine lv_aload_n C0.1 C0.2.1 dX5_atom_19 rfl (lv_at hl 0 rfl) ?_
    refine y_cv h (y_rV (As := []) (rest := []) C0 hZ h (c_X5_advance l G Z ad _ h.2) k_X5_advance q_616 q_0 q_614 kSC_77 rfl rfl rfl hl.1 rfl rfl (Nat.le_of_ble_eq_true rfl) dX5_atom_20 ⟨Nat.le_of_ble_eq_true rfl, Nat.le_of_ble_eq_true rfl⟩ ⟨Nat.le_of_ble_eq_true rfl, Nat.le_of_ble_eq_true rfl⟩) (fun H locs ws_187 h u_188 p_189 => ?_)
    have e_190 := p_189
    replace HE : FT = g49c_X5_atom_3 (xso SC ad ws_187) := HE.trans (by rw [e_190]; rfl)
    refine lv_goto (tgt := 177) C0.1 C0.2.1 dX5_atom_23 (by decide) ?_
    replace HE : FT = ((xso SC ad ws_187), 0) := HE.trans rfl
    rw [hQ]
    exact y_vret C0 h (Fr.tr (Fr.mono u_184 (by decide)) (Fr.mono u_188 (by decide))) (congrArg Prod.fst (HE.symm.trans hFT)) dX5_atom_177
noncomputable def g5_X5_term_3 (s : XS) : XR := (s, 0)
noncomputable def g8_X5_term_3 (s : XS) : XR := (s, 0)
noncomputable def g12c_X5_term_3 (R7 : XS → Int → XR) (s : XS) (x2_7 : Int) : XR := R7 s ((x2_7 + 1))
noncomputable def g11c_X5_term_3 (R7 : XS → Int → XR) (s : XS) (x2_7 : Int) : XR := g12c_X5_term_3 R7 ((f_X4_add s (Int.toNat (s 3 77 10)) 2002).1) x2_7
noncomputable def g10c_X5_term_3 (R7 : XS → Int → XR) (s : XS) (x2_7 : Int) : XR := g11c_X5_term_3 R7 ((f_X5_atom_3 s 3).1) x2_7
noncomputable def g9_X5_term_3 (R7 : XS → Int → XR) (s : XS) (x2_7 : Int) : XR := g10c_X5_term_3 R7 ((f_X5_advance s).1) x2_7
noncomputable def g7b_X5_term_3 (R7 : XS → Int → XR) (s : XS) (v_19 : Int) (x2_7 : Int) : XR := if v_19 = 42 then g9_X5_term_3 R7 s x2_7 else g8_X5_term_3 s
noncomputable def g6_X5_term_3 (R7 : XS → Int → XR) (s : XS) (x2_7 : Int) : XR := g7b_X5_term_3 R7 s ((s 0 77 4)) x2_7
noncomputable def g4b_X5_term_3 (R7 : XS → Int → XR) (s : XS) (x2_7 : Int) : XR := if x2_7 < 900 then g6_X5_term_3 R7 s x2_7 else g5_X5_term_3 s
noncomputable def g3l_X5_term_3 (R7 : XS → Int → XR) (s : XS) (x2_7 : Int) : XR := g4b_X5_term_3 R7 s x2_7
noncomputable def L2_X5_term_3 (n : Nat) : XS → Int → XR := Nat.rec (motive := fun _ => XS → Int → XR) (fun s _ => (s, 0)) (fun _ R7 => g3l_X5_term_3 R7) n
noncomputable def g1c_X5_term_3 (s : XS) : XR := L2_X5_term_3 (Int.toNat (900 - 0 + 1)) s 0
noncomputable def f_X5_term_3 (s : XS) (a1 : Int) : XR := g1c_X5_term_3 ((f_X5_atom_3 s a1).1)
set_option maxHeartbeats 4000000 in
set_option maxRecDepth 100000 in
theorem c_X5_term_3 (l : Launch) (G : GG) (Z : RZ) (ad : Nat → Nat) (ws0 : va_W) (hT : Ty G SC ad ws0) (a1 : Int32) (l1 : 3 ≤ a1.toInt) (u1 : a1.toInt ≤ 3) : Mq l yX5_term cX5_term 3 none 16 G Z [.ref (ad 77), .int a1] ws0 (PV G SC ad [2, 3, 16] ws0 (fun u => (xso SC ad u = (f_X5_term_3 (xso SC ad ws0) a1.toInt).1))) := by
  refine Mq.start (by decide) (Nat.le_of_ble_eq_true rfl) ?_
  intro p e s m below meth c A ls C0 hZ h hl
  have hl : lv_has ls 3 [(0, .ref (ad 77)), (1, .int a1)] := hl
  have h : Wt G SC ad A s s.heap [] ws0 := ⟨h, hT⟩
  obtain ⟨args, hargs⟩ : ∃ z, z = ([.ref (ad 77), .int a1] : List Value).toArray := ⟨_, rfl⟩
  rw [← hargs] at C0 ⊢
  have C0 : Cx p s m args meth c RX5 cX5_term 3 none := C0
  obtain ⟨Q, hQ⟩ : ∃ z, z = MQ below ((PV G SC ad [2, 3, 16] ws0 (fun u => (xso SC ad u = (f_X5_term_3 (xso SC ad ws0) a1.toInt).1))) A) args s 0 0 A := ⟨_, rfl⟩
  rw [← hQ]
  obtain ⟨FT, hFT⟩ : ∃ z, z = f_X5_term_3 (xso SC ad ws0) a1.toInt := ⟨_, rfl⟩
  have HE : FT = f_X5_term_3 (xso SC ad ws0) a1.toInt := hFT
  refine lv_aload_n C0.1 C0.2.1 dX5_term_0 rfl (lv_at hl 0 rfl) ?_
  refine lv_iload_n C0.1 C0.2.1 dX5_term_1 rfl (lv_at hl 1 rfl) ?_
  refine y_cv h (y_rV (As := [.int a1]) (rest := []) C0 hZ h (c_X5_atom_3 l G Z ad _ h.2 a1 (o24_91 l1 u1) (o24_92 l1 u1)) k_X5_atom q_824 q_17 q_822 kSC_77 rfl rfl rfl hl.1 rfl rfl (Nat.le_of_ble_eq_true rfl) dX5_term_2 ⟨Nat.le_of_ble_eq_true rfl, Nat.le_of_ble_eq_true rfl⟩ ⟨Nat.le_of_ble_eq_true rfl, Nat.le_of_ble_eq_true rfl⟩) (fun H locs ws_1 h u_2 p_3 => ?_)
  have e_4 := p_3
  replace HE : FT = g1c_X5_term_3 (xso SC ad ws_1) := HE.trans (by rw [e_4]; rfl)
  refine y_c1 (n := 0) C0 (by decide) dX5_term_5 (fun v_5 e_6 => ?_)
  refine lv_istore_n (lv' := [(2, .int v_5), (0, .ref (ad 77)), (1, .int a1)]) C0.1 C0.2.1 dX5_term_6 rfl hl (by decide) rfl (fun ls hl => ?_)
  have lp_10 : ∀ (n_12 : Nat) (x2_7 : Int32) (H : Heap) (locs : List Loc) (ls : Array Slot) (ws_8 : va_W), 900 - x2_7.toInt < (n_12 : Int) → 0 ≤ x2_7.toInt → x2_7.toInt ≤ 900 → (FT = L2_X5_term_3 n_12 (xso SC ad ws_8) x2_7.toInt) → Wt G SC ad A s H locs ws_8 → Fr SC [2, 3, 16] ws_1 ws_8 → lv_has ls 3 [(2, .int x2_7), (0, .ref (ad 77)), (1, .int a1)] → W p l e (rmd 16 0 0) s m args below meth c H locs 0 0 Q (F0 m 7 ls []) := by
    intro n_12
    induction n_12 with
    | zero => intro x2_7 H locs ls ws_8 hn_13 b_14 b_15 HE h hF_9 hl; exact ((o24_22 b_14 b_15 hn_13)).elim
    | succ n_12 ih_11 =>
      intro x2_7 H locs ls ws_8 hn_13 b_14 b_15 HE h hF_9 hl
      obtain ⟨R7, hR7⟩ : ∃ z, z = L2_X5_term_3 n_12 := ⟨_, rfl⟩
      replace HE : FT = g3l_X5_term_3 R7 (xso SC ad ws_8) x2_7.toInt := HE.trans (by rw [hR7]; rfl)
      refine lv_iload_n C0.1 C0.2.1 dX5_term_7 rfl (lv_at hl 0 rfl) ?_
      refine y_c3 (n := 900) C0 (by decide) dX5_term_8 (fun v_16 e_17 => ?_)
      replace HE : FT = g4b_X5_term_3 R7 (xso SC ad ws_8) x2_7.toInt := HE.trans rfl
      refine y_icmp_ge (tgt := 48) C0 dX5_term_11 (by decide) (fun c_18 => ?_) (fun c_18 => ?_)
      · -- 11
        replace HE : FT = g5_X5_term_3 (xso SC ad ws_8) := HE.trans (if_neg (o24_24 b_14 b_15 hn_13 e_17 c_18))
        replace HE : FT = ((xso SC ad ws_8), 0) := HE.trans rfl
        rw [hQ]
        exact y_vret C0 h (Fr.tr u_2 hF_9) (congrArg Prod.fst (HE.symm.trans hFT)) dX5_term_48
      · -- 11
        replace HE : FT = g6_X5_term_3 R7 (xso SC ad ws_8) x2_7.toInt := HE.trans (if_pos (o24_25 b_14 b_15 hn_13 e_17 c_18))
        refine lv_aload_n C0.1 C0.2.1 dX5_term_14 rfl (lv_at hl 1 rfl) ?_
        refine tg_X5_kind C0 h kSC_77 q_374 dX5_term_15 (fun v_19 e_20 e_21 e_22 => ?_)
        refine y_c2 (n := 42) C0 (by decide) dX5_term_18 (fun v_23 e_24 => ?_)
        replace HE : FT = g7b_X5_term_3 R7 (xso SC ad ws_8) v_19.toInt x2_7.toInt := HE.trans (by rw [(xg0 e_20 : v_19.toInt = (xso SC ad ws_8) 0 77 4)]; rfl)
        refine y_icmp_ne (tgt := 48) C0 dX5_term_20 (by decide) (fun c_25 => ?_) (fun c_25 => ?_)
        · -- 20
          replace HE : FT = g8_X5_term_3 (xso SC ad ws_8) := HE.trans (if_neg (o24_27 e_24 c_25))
          replace HE : FT = ((xso SC ad ws_8), 0) := HE.trans rfl
          rw [hQ]
          exact y_vret C0 h (Fr.tr u_2 hF_9) (congrArg Prod.fst (HE.symm.trans hFT)) dX5_term_48
        · -- 20
          replace HE : FT = g9_X5_term_3 R7 (xso SC ad ws_8) x2_7.toInt := HE.trans (if_pos (o24_28 e_24 c_25))
          refine lv_aload_n C0.1 C0.2.1 dX5_term_23 rfl (lv_at hl 1 rfl) ?_
          refine y_cv h (y_rV (As := []) (rest := []) C0 hZ h (c_X5_advance l G Z ad _ h.2) k_X5_advance q_616 q_0 q_614 kSC_77 rfl rfl rfl hl.1 rfl rfl (Nat.le_of_ble_eq_true rfl) dX5_term_24 ⟨Nat.le_of_ble_eq_true rfl, Nat.le_of_ble_eq_true rfl⟩ ⟨Nat.le_of_ble_eq_true rfl, Nat.le_of_ble_eq_true rfl⟩) (fun H locs ws_26 h u_27 p_28 => ?_)
          have e_29 := p_28
          replace HE : FT = g10c_X5_term_3 R7 (xso SC ad ws_26) x2_7.toInt := HE.trans (by rw [e_29]; rfl)
          refine lv_aload_n C0.1 C0.2.1 dX5_term_27 rfl (lv_at hl 1 rfl) ?_
          refine lv_iload_n C0.1 C0.2.1 dX5_term_28 rfl (lv_at hl 2 rfl) ?_
          refine y_cv h (y_rV (As := [.int a1]) (rest := []) C0 hZ h (c_X5_atom_3 l G Z ad _ h.2 a1 (o24_91 l1 u1) (o24_92 l1 u1)) k_X5_atom q_824 q_17 q_822 kSC_77 rfl rfl rfl hl.1 rfl rfl (Nat.le_of_ble_eq_true rfl) dX5_term_29 ⟨Nat.le_of_ble_eq_true rfl, Nat.le_of_ble_eq_true rfl⟩ ⟨Nat.le_of_ble_eq_true rfl, Nat.le_of_ble_eq_true rfl⟩) (fun H locs ws_30 h u_31 p_32 => ?_)
          have e_33 := p_32
          replace HE : FT = g11c_X5_term_3 R7 (xso SC ad ws_30) x2_7.toInt := HE.trans (by rw [e_33, (o24_93 l1 u1)]; rfl)
          refine lv_aload_n C0.1 C0.2.1 dX5_term_32 rfl (lv_at hl 1 rfl) ?_
          refine tg_X5_law C0 h kSC_77 q_380 dX5_term_33 (fun i_34 hi_34 ei_34 => ?_)
          refine y_c3 (n := 2002) C0 (by decide) dX5_term_36 (fun v_35 e_36 => ?_)
          refine y_cv h (y_rV (As := [.int v_35]) (rest := []) C0 hZ h (c_X4_add l G Z ad _ h.2 i_34 hi_34 v_35) k_X4_add q_827 q_828 q_826 hi_34 rfl rfl rfl hl.1 rfl rfl (Nat.le_of_ble_eq_true rfl) dX5_term_39 ⟨Nat.le_of_ble_eq_true rfl, Nat.le_of_ble_eq_true rfl⟩ ⟨Nat.le_of_ble_eq_true rfl, Nat.le_of_ble_eq_true rfl⟩) (fun H locs ws_37 h u_38 p_39 => ?_)
          have e_40 := p_39
          replace HE : FT = g12c_X5_term_3 R7 (xso SC ad ws_37) x2_7.toInt := HE.trans (by rw [e_40, e_36, ei_34]; rfl)
          refine y_inc (kp := 0) (n := 1) (fun v_41 => [(2, .int v_41), (0, .ref (ad 77)), (1, .int a1)]) C0 hl rfl (by decide) (by decide) (fun _ => rfl) (o24_29 b_14 b_15 hn_13 e_17 c_18 (le_min x2_7) (le_max x2_7) (le_min v_16) (le_max v_16)) (o24_30 b_14 b_15 hn_13 e_17 c_18 (le_min x2_7) (le_max x2_7) (le_min v_16) (le_max v_16)) dX5_term_42 (fun v_41 ls e_42 hl => ?_)
          refine lv_goto (tgt := 7) C0.1 C0.2.1 dX5_term_45 (by decide) ?_
          exact ih_11 v_41 _ _ _ _ (o24_31 b_14 b_15 hn_13 e_17 c_18 e_42) (o24_32 b_14 b_15 hn_13 e_17 c_18 e_42) (o24_33 b_14 b_15 hn_13 e_17 c_18 e_42) (((show FT = R7 (xso SC ad ws_37) v_41.toInt from HE.trans (by rw [e_42]; rfl)).trans (by rw [hR7]))) h (Fr.tr (Fr.tr (Fr.tr hF_9 (Fr.mono u_27 (by decide))) u_31) (Fr.mono u_38 (by decide))) (lv_sub hl [0, 1, 2] rfl)
  exact lp_10 ((900 - v_5.toInt + 1).toNat) v_5 _ _ _ _ (o24_34 e_6) (o24_35 e_6) (o24_36 e_6) ((show FT = L2_X5_term_3 (Int.toNat (900 - v_5.toInt + 1)) (xso SC ad ws_1) v_5.toInt from HE.trans (by rw [e_6]; rfl))) h Fr.rf (lv_sub hl [0, 1, 2] rfl)
noncomputable def g5_X5_sum_3 (s : XS) : XR := (s, 0)
noncomputable def g12c_X5_sum_3 (R7 : XS → Int → XR) (s : XS) (x2_7 : Int) : XR := R7 s ((x2_7 + 1))
noncomputable def g11c_X5_sum_3 (R7 : XS → Int → XR) (s : XS) (x2_7 : Int) : XR := g12c_X5_sum_3 R7 ((f_X4_add s (Int.toNat (s 3 77 10)) 2000).1) x2_7
noncomputable def g10c_X5_sum_3 (R7 : XS → Int → XR) (s : XS) (x2_7 : Int) : XR := g11c_X5_sum_3 R7 ((f_X5_term_3 s 3).1) x2_7
noncomputable def g8_X5_sum_3 (R7 : XS → Int → XR) (s : XS) (x2_7 : Int) : XR := g10c_X5_sum_3 R7 ((f_X5_advance s).1) x2_7
noncomputable def g14_X5_sum_3 (s : XS) : XR := (s, 0)
noncomputable def g18c_X5_sum_3 (R7 : XS → Int → XR) (s : XS) (x2_7 : Int) : XR := R7 s ((x2_7 + 1))
noncomputable def g17c_X5_sum_3 (R7 : XS → Int → XR) (s : XS) (x2_7 : Int) : XR := g18c_X5_sum_3 R7 ((f_X4_add s (Int.toNat (s 3 77 10)) 2001).1) x2_7
noncomputable def g16c_X5_sum_3 (R7 : XS → Int → XR) (s : XS) (x2_7 : Int) : XR := g17c_X5_sum_3 R7 ((f_X5_term_3 s 3).1) x2_7
noncomputable def g15_X5_sum_3 (R7 : XS → Int → XR) (s : XS) (x2_7 : Int) : XR := g16c_X5_sum_3 R7 ((f_X5_advance s).1) x2_7
noncomputable def g13b_X5_sum_3 (R7 : XS → Int → XR) (s : XS) (v_51 : Int) (x2_7 : Int) : XR := if v_51 = 45 then g15_X5_sum_3 R7 s x2_7 else g14_X5_sum_3 s
noncomputable def g9_X5_sum_3 (R7 : XS → Int → XR) (s : XS) (x2_7 : Int) : XR := g13b_X5_sum_3 R7 s ((s 0 77 4)) x2_7
noncomputable def g7b_X5_sum_3 (R7 : XS → Int → XR) (s : XS) (v_19 : Int) (x2_7 : Int) : XR := if v_19 = 43 then g8_X5_sum_3 R7 s x2_7 else g9_X5_sum_3 R7 s x2_7
noncomputable def g6_X5_sum_3 (R7 : XS → Int → XR) (s : XS) (x2_7 : Int) : XR := g7b_X5_sum_3 R7 s ((s 0 77 4)) x2_7
noncomputable def g4b_X5_sum_3 (R7 : XS → Int → XR) (s : XS) (x2_7 : Int) : XR := if x2_7 < 900 then g6_X5_sum_3 R7 s x2_7 else g5_X5_sum_3 s
noncomputable def g3l_X5_sum_3 (R7 : XS → Int → XR) (s : XS) (x2_7 : Int) : XR := g4b_X5_sum_3 R7 s x2_7
noncomputable def L2_X5_sum_3 (n : Nat) : XS → Int → XR := Nat.rec (motive := fun _ => XS → Int → XR) (fun s _ => (s, 0)) (fun _ R7 => g3l_X5_sum_3 R7) n
noncomputable def g1c_X5_sum_3 (s : XS) : XR := L2_X5_sum_3 (Int.toNat (900 - 0 + 1)) s 0
noncomputable def f_X5_sum_3 (s : XS) (a1 : Int) : XR := g1c_X5_sum_3 ((f_X5_term_3 s a1).1)
set_option maxHeartbeats 4000000 in
set_option maxRecDepth 100000 in
theorem c_X5_sum_3 (l : Launch) (G : GG) (Z : RZ) (ad : Nat → Nat) (ws0 : va_W) (hT : Ty G SC ad ws0) (a1 : Int32) (l1 : 3 ≤ a1.toInt) (u1 : a1.toInt ≤ 3) : Mq l yX5_sum cX5_sum 4 none 17 G Z [.ref (ad 77), .int a1] ws0 (PV G SC ad [2, 3, 16] ws0 (fun u => (xso SC ad u = (f_X5_sum_3 (xso SC ad ws0) a1.toInt).1))) := by
  refine Mq.start (by decide) (Nat.le_of_ble_eq_true rfl) ?_
  intro p e s m below meth c A ls C0 hZ h hl
  have hl : lv_has ls 4 [(0, .ref (ad 77)), (1, .int a1)] := hl
  have h : Wt G SC ad A s s.heap [] ws0 := ⟨h, hT⟩
  obtain ⟨args, hargs⟩ : ∃ z, z = ([.ref (ad 77), .int a1] : List Value).toArray := ⟨_, rfl⟩
  rw [← hargs] at C0 ⊢
  have C0 : Cx p s m args meth c RX5 cX5_sum 4 none := C0
  obtain ⟨Q, hQ⟩ : ∃ z, z = MQ below ((PV G SC ad [2, 3, 16] ws0 (fun u => (xso SC ad u = (f_X5_sum_3 (xso SC ad ws0) a1.toInt).1))) A) args s 0 0 A := ⟨_, rfl⟩
  rw [← hQ]
  obtain ⟨FT, hFT⟩ : ∃ z, z = f_X5_sum_3 (xso SC ad ws0) a1.toInt := ⟨_, rfl⟩
  have HE : FT = f_X5_sum_3 (xso SC ad ws0) a1.toInt := hFT
  refine lv_aload_n C0.1 C0.2.1 dX5_sum_0 rfl (lv_at hl 0 rfl) ?_
  refine lv_iload_n C0.1 C0.2.1 dX5_sum_1 rfl (lv_at hl 1 rfl) ?_
  refine y_cv h (y_rV (As := [.int a1]) (rest := []) C0 hZ h (c_X5_term_3 l G Z ad _ h.2 a1 (o24_91 l1 u1) (o24_92 l1 u1)) k_X5_term q_820 q_16 q_818 kSC_77 rfl rfl rfl hl.1 rfl rfl (Nat.le_of_ble_eq_true rfl) dX5_sum_2 ⟨Nat.le_of_ble_eq_true rfl, Nat.le_of_ble_eq_true rfl⟩ ⟨Nat.le_of_ble_eq_true rfl, Nat.le_of_ble_eq_true rfl⟩) (fun H locs ws_1 h u_2 p_3 => ?_)
  have e_4 := p_3
  replace HE : FT = g1c_X5_sum_3 (xso SC ad ws_1) := HE.trans (by rw [e_4]; rfl)
  refine y_c1 (n := 0) C0 (by decide) dX5_sum_5 (fun v_5 e_6 => ?_)
  refine lv_istore_n (lv' := [(2, .int v_5), (0, .ref (ad 77)), (1, .int a1)]) C0.1 C0.2.1 dX5_sum_6 rfl hl (by decide) rfl (fun ls hl => ?_)
  have lp_10 : ∀ (n_12 : Nat) (x2_7 : Int32) (H : Heap) (locs : List Loc) (ls : Array Slot) (ws_8 : va_W), 900 - x2_7.toInt < (n_12 : Int) → 0 ≤ x2_7.toInt → x2_7.toInt ≤ 900 → (FT = L2_X5_sum_3 n_12 (xso SC ad ws_8) x2_7.toInt) → Wt G SC ad A s H locs ws_8 → Fr SC [2, 3, 16] ws_1 ws_8 → lv_has ls 4 [(2, .int x2_7), (0, .ref (ad 77)), (1, .int a1)] → W p l e (rmd 17 0 0) s m args below meth c H locs 0 0 Q (F0 m 7 ls []) := by
    intro n_12
    induction n_12 with
    | zero => intro x2_7 H locs ls ws_8 hn_13 b_14 b_15 HE h hF_9 hl; exact ((o24_22 b_14 b_15 hn_13)).elim
    | succ n_12 ih_11 =>
      intro x2_7 H locs ls ws_8 hn_13 b_14 b_15 HE h hF_9 hl
      obtain ⟨R7, hR7⟩ : ∃ z, z = L2_X5_sum_3 n_12 := ⟨_, rfl⟩
      replace HE : FT = g3l_X5_sum_3 R7 (xso SC ad ws_8) x2_7.toInt := HE.trans (by rw [hR7]; rfl)
      refine lv_iload_n C0.1 C0.2.1 dX5_sum_7 rfl (lv_at hl 0 rfl) ?_
      refine y_c3 (n := 900) C0 (by decide) dX5_sum_8 (fun v_16 e_17 => ?_)
      replace HE : FT = g4b_X5_sum_3 R7 (xso SC ad ws_8) x2_7.toInt := HE.trans rfl
      refine y_icmp_ge (tgt := 74) C0 dX5_sum_11 (by decide) (fun c_18 => ?_) (fun c_18 => ?_)
      · -- 11
        replace HE : FT = g5_X5_sum_3 (xso SC ad ws_8) := HE.trans (if_neg (o24_24 b_14 b_15 hn_13 e_17 c_18))
        replace HE : FT = ((xso SC ad ws_8), 0) := HE.trans rfl
        rw [hQ]
        exact y_vret C0 h (Fr.tr u_2 hF_9) (congrArg Prod.fst (HE.symm.trans hFT)) dX5_sum_74
      · -- 11
        replace HE : FT = g6_X5_sum_3 R7 (xso SC ad ws_8) x2_7.toInt := HE.trans (if_pos (o24_25 b_14 b_15 hn_13 e_17 c_18))
        refine lv_aload_n C0.1 C0.2.1 dX5_sum_14 rfl (lv_at hl 1 rfl) ?_
        refine tg_X5_kind C0 h kSC_77 q_374 dX5_sum_15 (fun v_19 e_20 e_21 e_22 => ?_)
        refine y_c2 (n := 43) C0 (by decide) dX5_sum_18 (fun v_23 e_24 => ?_)
        replace HE : FT = g7b_X5_sum_3 R7 (xso SC ad ws_8) v_19.toInt x2_7.toInt := HE.trans (by rw [(xg0 e_20 : v_19.toInt = (xso SC ad ws_8) 0 77 4)]; rfl)
        refine y_icmp_eq (tgt := 32) C0 dX5_sum_20 (by decide) (fun c_25 => ?_) (fun c_25 => ?_)
        · -- 20
          replace HE : FT = g8_X5_sum_3 R7 (xso SC ad ws_8) x2_7.toInt := HE.trans (if_pos (o24_38 e_24 c_25))
          refine lv_aload_n C0.1 C0.2.1 dX5_sum_32 rfl (lv_at hl 1 rfl) ?_
          refine tg_X5_kind C0 h kSC_77 q_374 dX5_sum_33 (fun v_26 e_27 e_28 e_29 => ?_)
          have qh_30 : v_26.toInt = v_19.toInt := congrArg Int32.toInt (e_27.symm.trans (Eq.trans rfl e_20))
          refine y_c2 (n := 43) C0 (by decide) dX5_sum_36 (fun v_31 e_32 => ?_)
          refine y_icmp_ne (tgt := 47) C0 dX5_sum_38 (by decide) (fun c_33 => ((o24_40 e_24 c_25 qh_30 e_32 c_33)).elim) (fun c_33 => ?_)
          refine y_c3 (n := 2000) C0 (by decide) dX5_sum_41 (fun v_34 e_35 => ?_)
          refine lv_goto (tgt := 50) C0.1 C0.2.1 dX5_sum_44 (by decide) ?_
          refine lv_istore_n (lv' := [(3, .int v_34), (2, .int x2_7), (0, .ref (ad 77)), (1, .int a1)]) C0.1 C0.2.1 dX5_sum_50 rfl hl (by decide) rfl (fun ls hl => ?_)
          refine lv_aload_n C0.1 C0.2.1 dX5_sum_51 rfl (lv_at hl 2 rfl) ?_
          refine y_cv h (y_rV (As := []) (rest := []) C0 hZ h (c_X5_advance l G Z ad _ h.2) k_X5_advance q_616 q_0 q_614 kSC_77 rfl rfl rfl hl.1 rfl rfl (Nat.le_of_ble_eq_true rfl) dX5_sum_52 ⟨Nat.le_of_ble_eq_true rfl, Nat.le_of_ble_eq_true rfl⟩ ⟨Nat.le_of_ble_eq_true rfl, Nat.le_of_ble_eq_true rfl⟩) (fun H locs ws_36 h u_37 p_38 => ?_)
          have e_39 := p_38
          replace HE : FT = g10c_X5_sum_3 R7 (xso SC ad ws_36) x2_7.toInt := HE.trans (by rw [e_39]; rfl)
          refine lv_aload_n C0.1 C0.2.1 dX5_sum_55 rfl (lv_at hl 2 rfl) ?_
          refine lv_iload_n C0.1 C0.2.1 dX5_sum_56 rfl (lv_at hl 3 rfl) ?_
          refine y_cv h (y_rV (As := [.int a1]) (rest := []) C0 hZ h (c_X5_term_3 l G Z ad _ h.2 a1 (o24_91 l1 u1) (o24_92 l1 u1)) k_X5_term q_820 q_16 q_818 kSC_77 rfl rfl rfl hl.1 rfl rfl (Nat.le_of_ble_eq_true rfl) dX5_sum_57 ⟨Nat.le_of_ble_eq_true rfl, Nat.le_of_ble_eq_true rfl⟩ ⟨Nat.le_of_ble_eq_true rfl, Nat.le_of_ble_eq_true rfl⟩) (fun H locs ws_40 h u_41 p_42 => ?_)
          have e_43 := p_42
          replace HE : FT = g11c_X5_sum_3 R7 (xso SC ad ws_40) x2_7.toInt := HE.trans (by rw [e_43, (o24_93 l1 u1)]; rfl)
          refine lv_aload_n C0.1 C0.2.1 dX5_sum_60 rfl (lv_at hl 2 rfl) ?_
          refine tg_X5_law C0 h kSC_77 q_380 dX5_sum_61 (fun i_44 hi_44 ei_44 => ?_)
          refine lv_iload_n C0.1 C0.2.1 dX5_sum_64 rfl (lv_at hl 0 rfl) ?_
          refine y_cv h (y_rV (As := [.int v_34]) (rest := []) C0 hZ h (c_X4_add l G Z ad _ h.2 i_44 hi_44 v_34) k_X4_add q_827 q_828 q_826 hi_44 rfl rfl rfl hl.1 rfl rfl (Nat.le_of_ble_eq_true rfl) dX5_sum_65 ⟨Nat.le_of_ble_eq_true rfl, Nat.le_of_ble_eq_true rfl⟩ ⟨Nat.le_of_ble_eq_true rfl, Nat.le_of_ble_eq_true rfl⟩) (fun H locs ws_45 h u_46 p_47 => ?_)
          have e_48 := p_47
          replace HE : FT = g12c_X5_sum_3 R7 (xso SC ad ws_45) x2_7.toInt := HE.trans (by rw [e_48, (o24_41 e_35), ei_44]; rfl)
          refine y_inc (kp := 1) (n := 1) (fun v_49 => [(2, .int v_49), (3, .int v_34), (0, .ref (ad 77)), (1, .int a1)]) C0 hl rfl (by decide) (by decide) (fun _ => rfl) (o24_29 b_14 b_15 hn_13 e_17 c_18 (le_min x2_7) (le_max x2_7) (le_min v_16) (le_max v_16)) (o24_30 b_14 b_15 hn_13 e_17 c_18 (le_min x2_7) (le_max x2_7) (le_min v_16) (le_max v_16)) dX5_sum_68 (fun v_49 ls e_50 hl => ?_)
          refine lv_goto (tgt := 7) C0.1 C0.2.1 dX5_sum_71 (by decide) ?_
          exact ih_11 v_49 _ _ _ _ (o24_31 b_14 b_15 hn_13 e_17 c_18 e_50) (o24_32 b_14 b_15 hn_13 e_17 c_18 e_50) (o24_33 b_14 b_15 hn_13 e_17 c_18 e_50) (((show FT = R7 (xso SC ad ws_45) v_49.toInt from HE.trans (by rw [e_50]; rfl)).trans (by rw [hR7]))) h (Fr.tr (Fr.tr (Fr.tr hF_9 (Fr.mono u_37 (by decide))) u_41) (Fr.mono u_46 (by decide))) (lv_sub hl [0, 2, 3] rfl)
        · -- 20
          replace HE : FT = g9_X5_sum_3 R7 (xso SC ad ws_8) x2_7.toInt := HE.trans (if_neg (o24_39 e_24 c_25))
          refine lv_aload_n C0.1 C0.2.1 dX5_sum_23 rfl (lv_at hl 1 rfl) ?_
          refine tg_X5_kind C0 h kSC_77 q_374 dX5_sum_24 (fun v_51 e_52 e_53 e_54 => ?_)
          have qh_55 : v_51.toInt = v_19.toInt := congrArg Int32.toInt (e_52.symm.trans (Eq.trans rfl e_20))
          refine y_c2 (n := 45) C0 (by decide) dX5_sum_27 (fun v_56 e_57 => ?_)
          replace HE : FT = g13b_X5_sum_3 R7 (xso SC ad ws_8) v_51.toInt x2_7.toInt := HE.trans (by rw [(xg0 e_52 : v_51.toInt = (xso SC ad ws_8) 0 77 4)]; rfl)
          refine y_icmp_ne (tgt := 74) C0 dX5_sum_29 (by decide) (fun c_58 => ?_) (fun c_58 => ?_)
          · -- 29
            replace HE : FT = g14_X5_sum_3 (xso SC ad ws_8) := HE.trans (if_neg (o24_43 e_24 c_25 qh_55 e_57 c_58))
            replace HE : FT = ((xso SC ad ws_8), 0) := HE.trans rfl
            rw [hQ]
            exact y_vret C0 h (Fr.tr u_2 hF_9) (congrArg Prod.fst (HE.symm.trans hFT)) dX5_sum_74
          · -- 29
            replace HE : FT = g15_X5_sum_3 R7 (xso SC ad ws_8) x2_7.toInt := HE.trans (if_pos (o24_44 e_24 c_25 qh_55 e_57 c_58))
            refine lv_aload_n C0.1 C0.2.1 dX5_sum_32 rfl (lv_at hl 1 rfl) ?_
            refine tg_X5_kind C0 h kSC_77 q_374 dX5_sum_33 (fun v_59 e_60 e_61 e_62 => ?_)
            have qh_63 : v_59.toInt = v_19.toInt := congrArg Int32.toInt (e_60.symm.trans (Eq.trans rfl e_20))
            refine y_c2 (n := 43) C0 (by decide) dX5_sum_36 (fun v_64 e_65 => ?_)
            refine y_icmp_ne (tgt := 47) C0 dX5_sum_38 (by decide) (fun c_66 => ?_) (fun c_66 => ((o24_45 e_24 c_25 qh_55 e_57 c_58 qh_63 e_65 c_66)).elim)
            refine y_c3 (n := 2001) C0 (by decide) dX5_sum_47 (fun v_67 e_68 => ?_)
            refine lv_istore_n (lv' := [(3, .int v_67), (2, .int x2_7), (0, .ref (ad 77)), (1, .int a1)]) C0.1 C0.2.1 dX5_sum_50 rfl hl (by decide) rfl (fun ls hl => ?_)
            refine lv_aload_n C0.1 C0.2.1 dX5_sum_51 rfl (lv_at hl 2 rfl) ?_
            refine y_cv h (y_rV (As := []) (rest := []) C0 hZ h (c_X5_advance l G Z ad _ h.2) k_X5_advance q_616 q_0 q_614 kSC_77 rfl rfl rfl hl.1 rfl rfl (Nat.le_of_ble_eq_true rfl) dX5_sum_52 ⟨Nat.le_of_ble_eq_true rfl, Nat.le_of_ble_eq_true rfl⟩ ⟨Nat.le_of_ble_eq_true rfl, Nat.le_of_ble_eq_true rfl⟩) (fun H locs ws_69 h u_70 p_71 => ?_)
            have e_72 := p_71
            replace HE : FT = g16c_X5_sum_3 R7 (xso SC ad ws_69) x2_7.toInt := HE.trans (by rw [e_72]; rfl)
            refine lv_aload_n C0.1 C0.2.1 dX5_sum_55 rfl (lv_at hl 2 rfl) ?_
            refine lv_iload_n C0.1 C0.2.1 dX5_sum_56 rfl (lv_at hl 3 rfl) ?_
            refine y_cv h (y_rV (As := [.int a1]) (rest := []) C0 hZ h (c_X5_term_3 l G Z ad _ h.2 a1 (o24_91 l1 u1) (o24_92 l1 u1)) k_X5_term q_820 q_16 q_818 kSC_77 rfl rfl rfl hl.1 rfl rfl (Nat.le_of_ble_eq_true rfl) dX5_sum_57 ⟨Nat.le_of_ble_eq_true rfl, Nat.le_of_ble_eq_true rfl⟩ ⟨Nat.le_of_ble_eq_true rfl, Nat.le_of_ble_eq_true rfl⟩) (fun H locs ws_73 h u_74 p_75 => ?_)
            have e_76 := p_75
            replace HE : FT = g17c_X5_sum_3 R7 (xso SC ad ws_73) x2_7.toInt := HE.trans (by rw [e_76, (o24_93 l1 u1)]; rfl)
            refine lv_aload_n C0.1 C0.2.1 dX5_sum_60 rfl (lv_at hl 2 rfl) ?_
            refine tg_X5_law C0 h kSC_77 q_380 dX5_sum_61 (fun i_77 hi_77 ei_77 => ?_)
            refine lv_iload_n C0.1 C0.2.1 dX5_sum_64 rfl (lv_at hl 0 rfl) ?_
            refine y_cv h (y_rV (As := [.int v_67]) (rest := []) C0 hZ h (c_X4_add l G Z ad _ h.2 i_77 hi_77 v_67) k_X4_add q_827 q_828 q_826 hi_77 rfl rfl rfl hl.1 rfl rfl (Nat.le_of_ble_eq_true rfl) dX5_sum_65 ⟨Nat.le_of_ble_eq_true rfl, Nat.le_of_ble_eq_true rfl⟩ ⟨Nat.le_of_ble_eq_true rfl, Nat.le_of_ble_eq_true rfl⟩) (fun H locs ws_78 h u_79 p_80 => ?_)
            have e_81 := p_80
            replace HE : FT = g18c_X5_sum_3 R7 (xso SC ad ws_78) x2_7.toInt := HE.trans (by rw [e_81, (o24_46 e_68), ei_77]; rfl)
            refine y_inc (kp := 1) (n := 1) (fun v_82 => [(2, .int v_82), (3, .int v_67), (0, .ref (ad 77)), (1, .int a1)]) C0 hl rfl (by decide) (by decide) (fun _ => rfl) (o24_29 b_14 b_15 hn_13 e_17 c_18 (le_min x2_7) (le_max x2_7) (le_min v_16) (le_max v_16)) (o24_30 b_14 b_15 hn_13 e_17 c_18 (le_min x2_7) (le_max x2_7) (le_min v_16) (le_max v_16)) dX5_sum_68 (fun v_82 ls e_83 hl => ?_)
            refine lv_goto (tgt := 7) C0.1 C0.2.1 dX5_sum_71 (by decide) ?_
            exact ih_11 v_82 _ _ _ _ (o24_31 b_14 b_15 hn_13 e_17 c_18 e_83) (o24_32 b_14 b_15 hn_13 e_17 c_18 e_83) (o24_33 b_14 b_15 hn_13 e_17 c_18 e_83) (((show FT = R7 (xso SC ad ws_78) v_82.toInt from HE.trans (by rw [e_83]; rfl)).trans (by rw [hR7]))) h (Fr.tr (Fr.tr (Fr.tr hF_9 (Fr.mono u_70 (by decide))) u_74) (Fr.mono u_79 (by decide))) (lv_sub hl [0, 2, 3] rfl)
  exact lp_10 ((900 - v_5.toInt + 1).toNat) v_5 _ _ _ _ (o24_34 e_6) (o24_35 e_6) (o24_36 e_6) ((show FT = L2_X5_sum_3 (Int.toNat (900 - v_5.toInt + 1)) (xso SC ad ws_1) v_5.toInt from HE.trans (by rw [e_6]; rfl))) h Fr.rf (lv_sub hl [0, 1, 2] rfl)
noncomputable def g18c_X5_unit_3 (s : XS) : XR := (s, 0)
noncomputable def g16_X5_unit_3 (s : XS) : XR := g18c_X5_unit_3 ((f_X5_fail s 2).1)
noncomputable def g21c_X5_unit_3 (s : XS) : XR := (s, 0)
noncomputable def g20c_X5_unit_3 (s : XS) : XR := g21c_X5_unit_3 ((f_X4_add s (Int.toNat (s 3 77 10)) 2005).1)
noncomputable def g19c_X5_unit_3 (s : XS) : XR := g20c_X5_unit_3 ((f_X5_sum_3 s 3).1)
noncomputable def g17_X5_unit_3 (s : XS) : XR := g19c_X5_unit_3 ((f_X5_advance s).1)
noncomputable def g15b_X5_unit_3 (s : XS) (v_36 : Int) : XR := if v_36 = 62 then g17_X5_unit_3 s else g16_X5_unit_3 s
noncomputable def g13_X5_unit_3 (s : XS) : XR := g15b_X5_unit_3 s ((s 0 77 4))
noncomputable def g24c_X5_unit_3 (s : XS) : XR := (s, 0)
noncomputable def g23c_X5_unit_3 (s : XS) : XR := g24c_X5_unit_3 ((f_X4_add s (Int.toNat (s 3 77 10)) 2004).1)
noncomputable def g22c_X5_unit_3 (s : XS) : XR := g23c_X5_unit_3 ((f_X5_sum_3 s 3).1)
noncomputable def g14_X5_unit_3 (s : XS) : XR := g22c_X5_unit_3 ((f_X5_advance s).1)
noncomputable def g12b_X5_unit_3 (s : XS) (v_28 : Int) : XR := if v_28 = 60 then g14_X5_unit_3 s else g13_X5_unit_3 s
noncomputable def g10_X5_unit_3 (s : XS) : XR := g12b_X5_unit_3 s ((s 0 77 4))
noncomputable def g27c_X5_unit_3 (s : XS) : XR := (s, 0)
noncomputable def g26c_X5_unit_3 (s : XS) : XR := g27c_X5_unit_3 ((f_X4_add s (Int.toNat (s 3 77 10)) 2003).1)
noncomputable def g25c_X5_unit_3 (s : XS) : XR := g26c_X5_unit_3 ((f_X5_sum_3 s 3).1)
noncomputable def g11_X5_unit_3 (s : XS) : XR := g25c_X5_unit_3 ((f_X5_advance s).1)
noncomputable def g9b_X5_unit_3 (s : XS) (v_21 : Int) : XR := if v_21 = 61 then g11_X5_unit_3 s else g10_X5_unit_3 s
noncomputable def g8c_X5_unit_3 (s : XS) : XR := g9b_X5_unit_3 s ((s 0 77 4))
noncomputable def g6_X5_unit_3 (s : XS) : XR := g8c_X5_unit_3 ((f_X5_sum_3 s 3).1)
noncomputable def g31c_X5_unit_3 (s : XS) : XR := (s, 0)
noncomputable def g30c_X5_unit_3 (s : XS) : XR := g31c_X5_unit_3 ((f_X5_sign s 93).1)
noncomputable def g29c_X5_unit_3 (s : XS) : XR := g30c_X5_unit_3 ((f_X5_truth_4 s (3 + 1)).1)
noncomputable def g28c_X5_unit_3 (s : XS) : XR := g29c_X5_unit_3 ((f_X5_advance s).1)
noncomputable def g7_X5_unit_3 (s : XS) : XR := g28c_X5_unit_3 ((f_X5_tooDeep_3 s 3).1)
noncomputable def g5b_X5_unit_3 (s : XS) (v_10 : Int) : XR := if v_10 = 91 then g7_X5_unit_3 s else g6_X5_unit_3 s
noncomputable def g3_X5_unit_3 (s : XS) : XR := g5b_X5_unit_3 s ((s 0 77 4))
noncomputable def g36c_X5_unit_3 (s : XS) : XR := (s, 0)
noncomputable def g35c_X5_unit_3 (s : XS) : XR := g36c_X5_unit_3 ((f_X4_add s (Int.toNat (s 3 77 10)) 2003).1)
noncomputable def g34c_X5_unit_3 (s : XS) : XR := g35c_X5_unit_3 ((f_X4_add s (Int.toNat (s 3 77 10)) 0).1)
noncomputable def g33c_X5_unit_3 (s : XS) : XR := g34c_X5_unit_3 ((f_X5_unit_4 s (3 + 1)).1)
noncomputable def g32c_X5_unit_3 (s : XS) : XR := g33c_X5_unit_3 ((f_X5_advance s).1)
noncomputable def g4_X5_unit_3 (s : XS) : XR := g32c_X5_unit_3 ((f_X5_tooDeep_3 s 3).1)
noncomputable def g2b_X5_unit_3 (s : XS) (r_4 : Int) : XR := if r_4 = 0 then g3_X5_unit_3 s else g4_X5_unit_3 s
noncomputable def g1c_X5_unit_3 (s : XS) (r_4 : Int) : XR := g2b_X5_unit_3 s r_4
noncomputable def f_X5_unit_3 (s : XS) (a1 : Int) : XR := g1c_X5_unit_3 ((f_X5_isWord s 19).1) (((f_X5_isWord s 19).2))
set_option maxHeartbeats 4000000 in
set_option maxRecDepth 100000 in
theorem c_X5_unit_3 (l : Launch) (G : GG) (Z : RZ) (ad : Nat → Nat) (ws0 : va_W) (hT : Ty G SC ad ws0) (a1 : Int32) (l1 : 3 ≤ a1.toInt) (u1 : a1.toInt ≤ 3) : Mq l yX5_unit cX5_unit 3 none 18 G Z [.ref (ad 77), .int a1] ws0 (PV G SC ad [2, 3, 16] ws0 (fun u => (xso SC ad u = (f_X5_unit_3 (xso SC ad ws0) a1.toInt).1))) := by
  refine Mq.start (by decide) (Nat.le_of_ble_eq_true rfl) ?_
  intro p e s m below meth c A ls C0 hZ h hl
  have hl : lv_has ls 3 [(0, .ref (ad 77)), (1, .int a1)] := hl
  have h : Wt G SC ad A s s.heap [] ws0 := ⟨h, hT⟩
  obtain ⟨args, hargs⟩ : ∃ z, z = ([.ref (ad 77), .int a1] : List Value).toArray := ⟨_, rfl⟩
  rw [← hargs] at C0 ⊢
  have C0 : Cx p s m args meth c RX5 cX5_unit 3 none := C0
  obtain ⟨Q, hQ⟩ : ∃ z, z = MQ below ((PV G SC ad [2, 3, 16] ws0 (fun u => (xso SC ad u = (f_X5_unit_3 (xso SC ad ws0) a1.toInt).1))) A) args s 0 0 A := ⟨_, rfl⟩
  rw [← hQ]
  obtain ⟨FT, hFT⟩ : ∃ z, z = f_X5_unit_3 (xso SC ad ws0) a1.toInt := ⟨_, rfl⟩
  have HE : FT = f_X5_unit_3 (xso SC ad ws0) a1.toInt := hFT
  refine lv_aload_n C0.1 C0.2.1 dX5_unit_0 rfl (lv_at hl 0 rfl) ?_
  refine va_ldcS C0.1 C0.2.1 C0.2.2.2.1 (sr_19 hZ) dX5_unit_1 ?_
  refine y_ci h (y_rV (As := [.ref (Z.2.1 19)]) (rest := []) C0 hZ h (c_X5_isWord l G Z ad _ h.2 19 (by decide)) k_X5_isWord q_724 q_5 q_722 kSC_77 rfl rfl rfl hl.1 rfl rfl (Nat.le_of_ble_eq_true rfl) dX5_unit_3 ⟨Nat.le_of_ble_eq_true rfl, Nat.le_of_ble_eq_true rfl⟩ ⟨Nat.le_of_ble_eq_true rfl, Nat.le_of_ble_eq_true rfl⟩) (fun r_4 H locs ws_1 h u_2 p_3 => ?_)
  obtain ⟨e_5, e_6, e_7, e_8⟩ := p_3
  replace HE : FT = g1c_X5_unit_3 (xso SC ad ws_1) r_4.toInt := HE.trans (by rw [e_5, e_6]; rfl)
  replace HE : FT = g2b_X5_unit_3 (xso SC ad ws_1) r_4.toInt := HE.trans rfl
  refine y_if_eq (tgt := 49) C0 dX5_unit_6 (by decide) (fun c_9 => ?_) (fun c_9 => ?_)
  · -- 6
    replace HE : FT = g3_X5_unit_3 (xso SC ad ws_1) := HE.trans (if_pos c_9)
    refine lv_aload_n C0.1 C0.2.1 dX5_unit_49 rfl (lv_at hl 0 rfl) ?_
    refine tg_X5_kind C0 h kSC_77 q_374 dX5_unit_50 (fun v_10 e_11 e_12 e_13 => ?_)
    refine y_c2 (n := 91) C0 (by decide) dX5_unit_53 (fun v_14 e_15 => ?_)
    replace HE : FT = g5b_X5_unit_3 (xso SC ad ws_1) v_10.toInt := HE.trans (by rw [(xg0 e_11 : v_10.toInt = (xso SC ad ws_1) 0 77 4)]; rfl)
    refine y_icmp_ne (tgt := 86) C0 dX5_unit_55 (by decide) (fun c_16 => ?_) (fun c_16 => ?_)
    · -- 55
      replace HE : FT = g6_X5_unit_3 (xso SC ad ws_1) := HE.trans (if_neg (o24_48 e_15 c_16))
      refine lv_aload_n C0.1 C0.2.1 dX5_unit_86 rfl (lv_at hl 0 rfl) ?_
      refine lv_iload_n C0.1 C0.2.1 dX5_unit_87 rfl (lv_at hl 1 rfl) ?_
      refine y_cv h (y_rV (As := [.int a1]) (rest := []) C0 hZ h (c_X5_sum_3 l G Z ad _ h.2 a1 (o24_91 l1 u1) (o24_92 l1 u1)) k_X5_sum q_816 q_15 q_814 kSC_77 rfl rfl rfl hl.1 rfl rfl (Nat.le_of_ble_eq_true rfl) dX5_unit_88 ⟨Nat.le_of_ble_eq_true rfl, Nat.le_of_ble_eq_true rfl⟩ ⟨Nat.le_of_ble_eq_true rfl, Nat.le_of_ble_eq_true rfl⟩) (fun H locs ws_17 h u_18 p_19 => ?_)
      have e_20 := p_19
      replace HE : FT = g8c_X5_unit_3 (xso SC ad ws_17) := HE.trans (by rw [e_20, (o24_93 l1 u1)]; rfl)
      refine lv_aload_n C0.1 C0.2.1 dX5_unit_91 rfl (lv_at hl 0 rfl) ?_
      refine tg_X5_kind C0 h kSC_77 q_374 dX5_unit_92 (fun v_21 e_22 e_23 e_24 => ?_)
      refine y_c2 (n := 61) C0 (by decide) dX5_unit_95 (fun v_25 e_26 => ?_)
      replace HE : FT = g9b_X5_unit_3 (xso SC ad ws_17) v_21.toInt := HE.trans (by rw [(xg0 e_22 : v_21.toInt = (xso SC ad ws_17) 0 77 4)]; rfl)
      refine y_icmp_ne (tgt := 106) C0 dX5_unit_97 (by decide) (fun c_27 => ?_) (fun c_27 => ?_)
      · -- 97
        replace HE : FT = g10_X5_unit_3 (xso SC ad ws_17) := HE.trans (if_neg (o24_51 e_26 c_27))
        refine lv_aload_n C0.1 C0.2.1 dX5_unit_106 rfl (lv_at hl 0 rfl) ?_
        refine tg_X5_kind C0 h kSC_77 q_374 dX5_unit_107 (fun v_28 e_29 e_30 e_31 => ?_)
        have qh_32 : v_28.toInt = v_21.toInt := congrArg Int32.toInt (e_29.symm.trans (Eq.trans rfl e_22))
        refine y_c2 (n := 60) C0 (by decide) dX5_unit_110 (fun v_33 e_34 => ?_)
        replace HE : FT = g12b_X5_unit_3 (xso SC ad ws_17) v_28.toInt := HE.trans (by rw [(xg0 e_29 : v_28.toInt = (xso SC ad ws_17) 0 77 4)]; rfl)
        refine y_icmp_ne (tgt := 121) C0 dX5_unit_112 (by decide) (fun c_35 => ?_) (fun c_35 => ?_)
        · -- 112
          replace HE : FT = g13_X5_unit_3 (xso SC ad ws_17) := HE.trans (if_neg (o24_54 e_26 c_27 qh_32 e_34 c_35))
          refine lv_aload_n C0.1 C0.2.1 dX5_unit_121 rfl (lv_at hl 0 rfl) ?_
          refine tg_X5_kind C0 h kSC_77 q_374 dX5_unit_122 (fun v_36 e_37 e_38 e_39 => ?_)
          have qh_40 : v_36.toInt = v_21.toInt := congrArg Int32.toInt (e_37.symm.trans (Eq.trans rfl e_22))
          refine y_c2 (n := 62) C0 (by decide) dX5_unit_125 (fun v_41 e_42 => ?_)
          replace HE : FT = g15b_X5_unit_3 (xso SC ad ws_17) v_36.toInt := HE.trans (by rw [(xg0 e_37 : v_36.toInt = (xso SC ad ws_17) 0 77 4)]; rfl)
          refine y_icmp_ne (tgt := 136) C0 dX5_unit_127 (by decide) (fun c_43 => ?_) (fun c_43 => ?_)
          · -- 127
            replace HE : FT = g16_X5_unit_3 (xso SC ad ws_17) := HE.trans (if_neg (o24_57 e_26 c_27 qh_32 e_34 c_35 qh_40 e_42 c_43))
            refine y_c1 (n := (-1)) C0 (by decide) dX5_unit_136 (fun v_44 e_45 => ?_)
            refine lv_istore_n (lv' := [(2, .int v_44), (0, .ref (ad 77)), (1, .int a1)]) C0.1 C0.2.1 dX5_unit_137 rfl hl (by decide) rfl (fun ls hl => ?_)
            refine lv_iload_n C0.1 C0.2.1 dX5_unit_138 rfl (lv_at hl 0 rfl) ?_
            refine y_if_ge (tgt := 148) C0 dX5_unit_139 (by decide) (fun c_46 => ((o24_11 e_45 c_46)).elim) (fun c_46 => ?_)
            refine lv_aload_n C0.1 C0.2.1 dX5_unit_142 rfl (lv_at hl 1 rfl) ?_
            refine y_c1 (n := 2) C0 (by decide) dX5_unit_143 (fun v_47 e_48 => ?_)
            refine y_cv h (y_rV (As := [.int v_47]) (rest := []) C0 hZ h (c_X5_fail l G Z ad _ h.2 v_47) k_X5_fail q_628 q_3 q_626 kSC_77 rfl rfl rfl hl.1 rfl rfl (Nat.le_of_ble_eq_true rfl) dX5_unit_144 ⟨Nat.le_of_ble_eq_true rfl, Nat.le_of_ble_eq_true rfl⟩ ⟨Nat.le_of_ble_eq_true rfl, Nat.le_of_ble_eq_true rfl⟩) (fun H locs ws_49 h u_50 p_51 => ?_)
            have e_52 := p_51
            replace HE : FT = g18c_X5_unit_3 (xso SC ad ws_49) := HE.trans (by rw [e_52, e_48]; rfl)
            replace HE : FT = ((xso SC ad ws_49), 0) := HE.trans rfl
            rw [hQ]
            exact y_vret C0 h (Fr.tr (Fr.tr (Fr.mono u_2 (by decide)) u_18) (Fr.mono u_50 (by decide))) (congrArg Prod.fst (HE.symm.trans hFT)) dX5_unit_147
          · -- 127
            replace HE : FT = g17_X5_unit_3 (xso SC ad ws_17) := HE.trans (if_pos (o24_58 e_26 c_27 qh_32 e_34 c_35 qh_40 e_42 c_43))
            refine y_c3 (n := 2005) C0 (by decide) dX5_unit_130 (fun v_53 e_54 => ?_)
            refine lv_goto (tgt := 137) C0.1 C0.2.1 dX5_unit_133 (by decide) ?_
            refine lv_istore_n (lv' := [(2, .int v_53), (0, .ref (ad 77)), (1, .int a1)]) C0.1 C0.2.1 dX5_unit_137 rfl hl (by decide) rfl (fun ls hl => ?_)
            refine lv_iload_n C0.1 C0.2.1 dX5_unit_138 rfl (lv_at hl 0 rfl) ?_
            refine y_if_ge (tgt := 148) C0 dX5_unit_139 (by decide) (fun c_55 => ?_) (fun c_55 => ((o24_59 e_54 c_55)).elim)
            refine lv_aload_n C0.1 C0.2.1 dX5_unit_148 rfl (lv_at hl 1 rfl) ?_
            refine y_cv h (y_rV (As := []) (rest := []) C0 hZ h (c_X5_advance l G Z ad _ h.2) k_X5_advance q_616 q_0 q_614 kSC_77 rfl rfl rfl hl.1 rfl rfl (Nat.le_of_ble_eq_true rfl) dX5_unit_149 ⟨Nat.le_of_ble_eq_true rfl, Nat.le_of_ble_eq_true rfl⟩ ⟨Nat.le_of_ble_eq_true rfl, Nat.le_of_ble_eq_true rfl⟩) (fun H locs ws_56 h u_57 p_58 => ?_)
            have e_59 := p_58
            replace HE : FT = g19c_X5_unit_3 (xso SC ad ws_56) := HE.trans (by rw [e_59]; rfl)
            refine lv_aload_n C0.1 C0.2.1 dX5_unit_152 rfl (lv_at hl 1 rfl) ?_
            refine lv_iload_n C0.1 C0.2.1 dX5_unit_153 rfl (lv_at hl 2 rfl) ?_
            refine y_cv h (y_rV (As := [.int a1]) (rest := []) C0 hZ h (c_X5_sum_3 l G Z ad _ h.2 a1 (o24_91 l1 u1) (o24_92 l1 u1)) k_X5_sum q_816 q_15 q_814 kSC_77 rfl rfl rfl hl.1 rfl rfl (Nat.le_of_ble_eq_true rfl) dX5_unit_154 ⟨Nat.le_of_ble_eq_true rfl, Nat.le_of_ble_eq_true rfl⟩ ⟨Nat.le_of_ble_eq_true rfl, Nat.le_of_ble_eq_true rfl⟩) (fun H locs ws_60 h u_61 p_62 => ?_)
            have e_63 := p_62
            replace HE : FT = g20c_X5_unit_3 (xso SC ad ws_60) := HE.trans (by rw [e_63, (o24_93 l1 u1)]; rfl)
            refine lv_aload_n C0.1 C0.2.1 dX5_unit_157 rfl (lv_at hl 1 rfl) ?_
            refine tg_X5_law C0 h kSC_77 q_380 dX5_unit_158 (fun i_64 hi_64 ei_64 => ?_)
            refine lv_iload_n C0.1 C0.2.1 dX5_unit_161 rfl (lv_at hl 0 rfl) ?_
            refine y_cv h (y_rV (As := [.int v_53]) (rest := []) C0 hZ h (c_X4_add l G Z ad _ h.2 i_64 hi_64 v_53) k_X4_add q_827 q_828 q_826 hi_64 rfl rfl rfl hl.1 rfl rfl (Nat.le_of_ble_eq_true rfl) dX5_unit_162 ⟨Nat.le_of_ble_eq_true rfl, Nat.le_of_ble_eq_true rfl⟩ ⟨Nat.le_of_ble_eq_true rfl, Nat.le_of_ble_eq_true rfl⟩) (fun H locs ws_65 h u_66 p_67 => ?_)
            have e_68 := p_67
            replace HE : FT = g21c_X5_unit_3 (xso SC ad ws_65) := HE.trans (by rw [e_68, (o24_60 e_54 c_55), ei_64]; rfl)
            replace HE : FT = ((xso SC ad ws_65), 0) := HE.trans rfl
            rw [hQ]
            exact y_vret C0 h (Fr.tr (Fr.tr (Fr.tr (Fr.tr (Fr.mono u_2 (by decide)) u_18) (Fr.mono u_57 (by decide))) u_61) (Fr.mono u_66 (by decide))) (congrArg Prod.fst (HE.symm.trans hFT)) dX5_unit_165
        · -- 112
          replace HE : FT = g14_X5_unit_3 (xso SC ad ws_17) := HE.trans (if_pos (o24_55 e_26 c_27 qh_32 e_34 c_35))
          refine y_c3 (n := 2004) C0 (by decide) dX5_unit_115 (fun v_69 e_70 => ?_)
          refine lv_goto (tgt := 137) C0.1 C0.2.1 dX5_unit_118 (by decide) ?_
          refine lv_istore_n (lv' := [(2, .int v_69), (0, .ref (ad 77)), (1, .int a1)]) C0.1 C0.2.1 dX5_unit_137 rfl hl (by decide) rfl (fun ls hl => ?_)
          refine lv_iload_n C0.1 C0.2.1 dX5_unit_138 rfl (lv_at hl 0 rfl) ?_
          refine y_if_ge (tgt := 148) C0 dX5_unit_139 (by decide) (fun c_71 => ?_) (fun c_71 => ((o24_61 e_70 c_71)).elim)
          refine lv_aload_n C0.1 C0.2.1 dX5_unit_148 rfl (lv_at hl 1 rfl) ?_
          refine y_cv h (y_rV (As := []) (rest := []) C0 hZ h (c_X5_advance l G Z ad _ h.2) k_X5_advance q_616 q_0 q_614 kSC_77 rfl rfl rfl hl.1 rfl rfl (Nat.le_of_ble_eq_true rfl) dX5_unit_149 ⟨Nat.le_of_ble_eq_true rfl, Nat.le_of_ble_eq_true rfl⟩ ⟨Nat.le_of_ble_eq_true rfl, Nat.le_of_ble_eq_true rfl⟩) (fun H locs ws_72 h u_73 p_74 => ?_)
          have e_75 := p_74
          replace HE : FT = g22c_X5_unit_3 (xso SC ad ws_72) := HE.trans (by rw [e_75]; rfl)
          refine lv_aload_n C0.1 C0.2.1 dX5_unit_152 rfl (lv_at hl 1 rfl) ?_
          refine lv_iload_n C0.1 C0.2.1 dX5_unit_153 rfl (lv_at hl 2 rfl) ?_
          refine y_cv h (y_rV (As := [.int a1]) (rest := []) C0 hZ h (c_X5_sum_3 l G Z ad _ h.2 a1 (o24_91 l1 u1) (o24_92 l1 u1)) k_X5_sum q_816 q_15 q_814 kSC_77 rfl rfl rfl hl.1 rfl rfl (Nat.le_of_ble_eq_true rfl) dX5_unit_154 ⟨Nat.le_of_ble_eq_true rfl, Nat.le_of_ble_eq_true rfl⟩ ⟨Nat.le_of_ble_eq_true rfl, Nat.le_of_ble_eq_true rfl⟩) (fun H locs ws_76 h u_77 p_78 => ?_)
          have e_79 := p_78
          replace HE : FT = g23c_X5_unit_3 (xso SC ad ws_76) := HE.trans (by rw [e_79, (o24_93 l1 u1)]; rfl)
          refine lv_aload_n C0.1 C0.2.1 dX5_unit_157 rfl (lv_at hl 1 rfl) ?_
          refine tg_X5_law C0 h kSC_77 q_380 dX5_unit_158 (fun i_80 hi_80 ei_80 => ?_)
          refine lv_iload_n C0.1 C0.2.1 dX5_unit_161 rfl (lv_at hl 0 rfl) ?_
          refine y_cv h (y_rV (As := [.int v_69]) (rest := []) C0 hZ h (c_X4_add l G Z ad _ h.2 i_80 hi_80 v_69) k_X4_add q_827 q_828 q_826 hi_80 rfl rfl rfl hl.1 rfl rfl (Nat.le_of_ble_eq_true rfl) dX5_unit_162 ⟨Nat.le_of_ble_eq_true rfl, Nat.le_of_ble_eq_true rfl⟩ ⟨Nat.le_of_ble_eq_true rfl, Nat.le_of_ble_eq_true rfl⟩) (fun H locs ws_81 h u_82 p_83 => ?_)
          have e_84 := p_83
          replace HE : FT = g24c_X5_unit_3 (xso SC ad ws_81) := HE.trans (by rw [e_84, (o24_62 e_70 c_71), ei_80]; rfl)
          replace HE : FT = ((xso SC ad ws_81), 0) := HE.trans rfl
          rw [hQ]
          exact y_vret C0 h (Fr.tr (Fr.tr (Fr.tr (Fr.tr (Fr.mono u_2 (by decide)) u_18) (Fr.mono u_73 (by decide))) u_77) (Fr.mono u_82 (by decide))) (congrArg Prod.fst (HE.symm.trans hFT)) dX5_unit_165
      · -- 97
        replace HE : FT = g11_X5_unit_3 (xso SC ad ws_17) := HE.trans (if_pos (o24_52 e_26 c_27))
        refine y_c3 (n := 2003) C0 (by decide) dX5_unit_100 (fun v_85 e_86 => ?_)
        refine lv_goto (tgt := 137) C0.1 C0.2.1 dX5_unit_103 (by decide) ?_
        refine lv_istore_n (lv' := [(2, .int v_85), (0, .ref (ad 77)), (1, .int a1)]) C0.1 C0.2.1 dX5_unit_137 rfl hl (by decide) rfl (fun ls hl => ?_)
        refine lv_iload_n C0.1 C0.2.1 dX5_unit_138 rfl (lv_at hl 0 rfl) ?_
        refine y_if_ge (tgt := 148) C0 dX5_unit_139 (by decide) (fun c_87 => ?_) (fun c_87 => ((o24_63 e_86 c_87)).elim)
        refine lv_aload_n C0.1 C0.2.1 dX5_unit_148 rfl (lv_at hl 1 rfl) ?_
        refine y_cv h (y_rV (As := []) (rest := []) C0 hZ h (c_X5_advance l G Z ad _ h.2) k_X5_advance q_616 q_0 q_614 kSC_77 rfl rfl rfl hl.1 rfl rfl (Nat.le_of_ble_eq_true rfl) dX5_unit_149 ⟨Nat.le_of_ble_eq_true rfl, Nat.le_of_ble_eq_true rfl⟩ ⟨Nat.le_of_ble_eq_true rfl, Nat.le_of_ble_eq_true rfl⟩) (fun H locs ws_88 h u_89 p_90 => ?_)
        have e_91 := p_90
        replace HE : FT = g25c_X5_unit_3 (xso SC ad ws_88) := HE.trans (by rw [e_91]; rfl)
        refine lv_aload_n C0.1 C0.2.1 dX5_unit_152 rfl (lv_at hl 1 rfl) ?_
        refine lv_iload_n C0.1 C0.2.1 dX5_unit_153 rfl (lv_at hl 2 rfl) ?_
        refine y_cv h (y_rV (As := [.int a1]) (rest := []) C0 hZ h (c_X5_sum_3 l G Z ad _ h.2 a1 (o24_91 l1 u1) (o24_92 l1 u1)) k_X5_sum q_816 q_15 q_814 kSC_77 rfl rfl rfl hl.1 rfl rfl (Nat.le_of_ble_eq_true rfl) dX5_unit_154 ⟨Nat.le_of_ble_eq_true rfl, Nat.le_of_ble_eq_true rfl⟩ ⟨Nat.le_of_ble_eq_true rfl, Nat.le_of_ble_eq_true rfl⟩) (fun H locs ws_92 h u_93 p_94 => ?_)
        have e_95 := p_94
        replace HE : FT = g26c_X5_unit_3 (xso SC ad ws_92) := HE.trans (by rw [e_95, (o24_93 l1 u1)]; rfl)
        refine lv_aload_n C0.1 C0.2.1 dX5_unit_157 rfl (lv_at hl 1 rfl) ?_
        refine tg_X5_law C0 h kSC_77 q_380 dX5_unit_158 (fun i_96 hi_96 ei_96 => ?_)
        refine lv_iload_n C0.1 C0.2.1 dX5_unit_161 rfl (lv_at hl 0 rfl) ?_
        refine y_cv h (y_rV (As := [.int v_85]) (rest := []) C0 hZ h (c_X4_add l G Z ad _ h.2 i_96 hi_96 v_85) k_X4_add q_827 q_828 q_826 hi_96 rfl rfl rfl hl.1 rfl rfl (Nat.le_of_ble_eq_true rfl) dX5_unit_162 ⟨Nat.le_of_ble_eq_true rfl, Nat.le_of_ble_eq_true rfl⟩ ⟨Nat.le_of_ble_eq_true rfl, Nat.le_of_ble_eq_true rfl⟩) (fun H locs ws_97 h u_98 p_99 => ?_)
        have e_100 := p_99
        replace HE : FT = g27c_X5_unit_3 (xso SC ad ws_97) := HE.trans (by rw [e_100, (o24_64 e_86 c_87), ei_96]; rfl)
        replace HE : FT = ((xso SC ad ws_97), 0) := HE.trans rfl
        rw [hQ]
        exact y_vret C0 h (Fr.tr (Fr.tr (Fr.tr (Fr.tr (Fr.mono u_2 (by decide)) u_18) (Fr.mono u_89 (by decide))) u_93) (Fr.mono u_98 (by decide))) (congrArg Prod.fst (HE.symm.trans hFT)) dX5_unit_165
    · -- 55
      replace HE : FT = g7_X5_unit_3 (xso SC ad ws_1) := HE.trans (if_pos (o24_49 e_15 c_16))
      refine lv_aload_n C0.1 C0.2.1 dX5_unit_58 rfl (lv_at hl 0 rfl) ?_
      refine lv_iload_n C0.1 C0.2.1 dX5_unit_59 rfl (lv_at hl 1 rfl) ?_
      refine y_ci h (y_rV (As := [.int a1]) (rest := []) C0 hZ h (c_X5_tooDeep_3 l G Z ad _ h.2 a1 (o24_91 l1 u1) (o24_92 l1 u1)) k_X5_tooDeep q_832 q_18 q_830 kSC_77 rfl rfl rfl hl.1 rfl rfl (Nat.le_of_ble_eq_true rfl) dX5_unit_60 ⟨Nat.le_of_ble_eq_true rfl, Nat.le_of_ble_eq_true rfl⟩ ⟨Nat.le_of_ble_eq_true rfl, Nat.le_of_ble_eq_true rfl⟩) (fun r_104 H locs ws_101 h u_102 p_103 => ?_)
      obtain ⟨e_105, e_106, e_107, e_108⟩ := p_103
      replace HE : FT = g28c_X5_unit_3 (xso SC ad ws_101) := HE.trans (by rw [e_105, (o24_93 l1 u1)]; rfl)
      refine y_if_ne (tgt := 165) C0 dX5_unit_63 (by decide) (fun c_109 => ((o24_71 e_107 e_108 c_109)).elim) (fun c_109 => ?_)
      refine lv_aload_n C0.1 C0.2.1 dX5_unit_66 rfl (lv_at hl 0 rfl) ?_
      refine y_cv h (y_rV (As := []) (rest := []) C0 hZ h (c_X5_advance l G Z ad _ h.2) k_X5_advance q_616 q_0 q_614 kSC_77 rfl rfl rfl hl.1 rfl rfl (Nat.le_of_ble_eq_true rfl) dX5_unit_67 ⟨Nat.le_of_ble_eq_true rfl, Nat.le_of_ble_eq_true rfl⟩ ⟨Nat.le_of_ble_eq_true rfl, Nat.le_of_ble_eq_true rfl⟩) (fun H locs ws_110 h u_111 p_112 => ?_)
      have e_113 := p_112
      replace HE : FT = g29c_X5_unit_3 (xso SC ad ws_110) := HE.trans (by rw [e_113]; rfl)
      refine lv_aload_n C0.1 C0.2.1 dX5_unit_70 rfl (lv_at hl 0 rfl) ?_
      refine lv_iload_n C0.1 C0.2.1 dX5_unit_71 rfl (lv_at hl 1 rfl) ?_
      refine y_c1 (n := 1) C0 (by decide) dX5_unit_72 (fun v_114 e_115 => ?_)
      refine y_add C0 (o24_94 l1 u1 e_115 (le_min a1) (le_max a1) (le_min v_114) (le_max v_114)) (o24_95 l1 u1 e_115 (le_min a1) (le_max a1) (le_min v_114) (le_max v_114)) dX5_unit_73 (fun v_116 e_117 => ?_)
      refine y_cv h (y_rV (As := [.int v_116]) (rest := []) C0 hZ h (c_X5_truth_4 l G Z ad _ h.2 v_116 (o24_96 l1 u1 e_115 e_117) (o24_97 l1 u1 e_115 e_117)) k_X5_truth q_843 q_19 q_841 kSC_77 rfl rfl rfl hl.1 rfl rfl (Nat.le_of_ble_eq_true rfl) dX5_unit_74 ⟨Nat.le_of_ble_eq_true rfl, Nat.le_of_ble_eq_true rfl⟩ ⟨Nat.le_of_ble_eq_true rfl, Nat.le_of_ble_eq_true rfl⟩) (fun H locs ws_118 h u_119 p_120 => ?_)
      have e_121 := p_120
      replace HE : FT = g30c_X5_unit_3 (xso SC ad ws_118) := HE.trans (by rw [e_121, e_117, e_115, (o24_98 l1 u1 e_115 e_117)]; rfl)
      refine lv_aload_n C0.1 C0.2.1 dX5_unit_77 rfl (lv_at hl 0 rfl) ?_
      refine y_c2 (n := 93) C0 (by decide) dX5_unit_78 (fun v_122 e_123 => ?_)
      refine y_cv h (y_rV (As := [.int v_122]) (rest := []) C0 hZ h (c_X5_sign l G Z ad _ h.2 v_122 (o24_79 e_123) (o24_80 e_123)) k_X5_sign q_812 q_14 q_810 kSC_77 rfl rfl rfl hl.1 rfl rfl (Nat.le_of_ble_eq_true rfl) dX5_unit_80 ⟨Nat.le_of_ble_eq_true rfl, Nat.le_of_ble_eq_true rfl⟩ ⟨Nat.le_of_ble_eq_true rfl, Nat.le_of_ble_eq_true rfl⟩) (fun H locs ws_124 h u_125 p_126 => ?_)
      have e_127 := p_126
      replace HE : FT = g31c_X5_unit_3 (xso SC ad ws_124) := HE.trans (by rw [e_127, e_123]; rfl)
      refine lv_goto (tgt := 165) C0.1 C0.2.1 dX5_unit_83 (by decide) ?_
      replace HE : FT = ((xso SC ad ws_124), 0) := HE.trans rfl
      rw [hQ]
      exact y_vret C0 h (Fr.tr (Fr.tr (Fr.tr (Fr.tr (Fr.mono u_2 (by decide)) (Fr.mono u_102 (by decide))) (Fr.mono u_111 (by decide))) u_119) (Fr.mono u_125 (by decide))) (congrArg Prod.fst (HE.symm.trans hFT)) dX5_unit_165
  · -- 6
    replace HE : FT = g4_X5_unit_3 (xso SC ad ws_1) := HE.trans (if_neg c_9)
    refine lv_aload_n C0.1 C0.2.1 dX5_unit_9 rfl (lv_at hl 0 rfl) ?_
    refine lv_iload_n C0.1 C0.2.1 dX5_unit_10 rfl (lv_at hl 1 rfl) ?_
    refine y_ci h (y_rV (As := [.int a1]) (rest := []) C0 hZ h (c_X5_tooDeep_3 l G Z ad _ h.2 a1 (o24_91 l1 u1) (o24_92 l1 u1)) k_X5_tooDeep q_832 q_18 q_830 kSC_77 rfl rfl rfl hl.1 rfl rfl (Nat.le_of_ble_eq_true rfl) dX5_unit_11 ⟨Nat.le_of_ble_eq_true rfl, Nat.le_of_ble_eq_true rfl⟩ ⟨Nat.le_of_ble_eq_true rfl, Nat.le_of_ble_eq_true rfl⟩) (fun r_131 H locs ws_128 h u_129 p_130 => ?_)
    obtain ⟨e_132, e_133, e_134, e_135⟩ := p_130
    replace HE : FT = g32c_X5_unit_3 (xso SC ad ws_128) := HE.trans (by rw [e_132, (o24_93 l1 u1)]; rfl)
    refine y_if_ne (tgt := 165) C0 dX5_unit_14 (by decide) (fun c_136 => ((o24_71 e_134 e_135 c_136)).elim) (fun c_136 => ?_)
    refine lv_aload_n C0.1 C0.2.1 dX5_unit_17 rfl (lv_at hl 0 rfl) ?_
    refine y_cv h (y_rV (As := []) (rest := []) C0 hZ h (c_X5_advance l G Z ad _ h.2) k_X5_advance q_616 q_0 q_614 kSC_77 rfl rfl rfl hl.1 rfl rfl (Nat.le_of_ble_eq_true rfl) dX5_unit_18 ⟨Nat.le_of_ble_eq_true rfl, Nat.le_of_ble_eq_true rfl⟩ ⟨Nat.le_of_ble_eq_true rfl, Nat.le_of_ble_eq_true rfl⟩) (fun H locs ws_137 h u_138 p_139 => ?_)
    have e_140 := p_139
    replace HE : FT = g33c_X5_unit_3 (xso SC ad ws_137) := HE.trans (by rw [e_140]; rfl)
    refine lv_aload_n C0.1 C0.2.1 dX5_unit_21 rfl (lv_at hl 0 rfl) ?_
    refine lv_iload_n C0.1 C0.2.1 dX5_unit_22 rfl (lv_at hl 1 rfl) ?_
    refine y_c1 (n := 1) C0 (by decide) dX5_unit_23 (fun v_141 e_142 => ?_)
    refine y_add C0 (o24_94 l1 u1 e_142 (le_min a1) (le_max a1) (le_min v_141) (le_max v_141)) (o24_95 l1 u1 e_142 (le_min a1) (le_max a1) (le_min v_141) (le_max v_141)) dX5_unit_24 (fun v_143 e_144 => ?_)
    refine y_cv h (y_rV (As := [.int v_143]) (rest := []) C0 hZ h (c_X5_unit_4 l G Z ad _ h.2 v_143 (o24_96 l1 u1 e_142 e_144) (o24_97 l1 u1 e_142 e_144)) k_X5_unit q_851 q_21 q_849 kSC_77 rfl rfl rfl hl.1 rfl rfl (Nat.le_of_ble_eq_true rfl) dX5_unit_25 ⟨Nat.le_of_ble_eq_true rfl, Nat.le_of_ble_eq_true rfl⟩ ⟨Nat.le_of_ble_eq_true rfl, Nat.le_of_ble_eq_true rfl⟩) (fun H locs ws_145 h u_146 p_147 => ?_)
    have e_148 := p_147
    replace HE : FT = g34c_X5_unit_3 (xso SC ad ws_145) := HE.trans (by rw [e_148, e_144, e_142, (o24_98 l1 u1 e_142 e_144)]; rfl)
    refine lv_aload_n C0.1 C0.2.1 dX5_unit_28 rfl (lv_at hl 0 rfl) ?_
    refine tg_X5_law C0 h kSC_77 q_380 dX5_unit_29 (fun i_149 hi_149 ei_149 => ?_)
    refine y_c1 (n := 0) C0 (by decide) dX5_unit_32 (fun v_150 e_151 => ?_)
    refine y_cv h (y_rV (As := [.int v_150]) (rest := []) C0 hZ h (c_X4_add l G Z ad _ h.2 i_149 hi_149 v_150) k_X4_add q_827 q_828 q_826 hi_149 rfl rfl rfl hl.1 rfl rfl (Nat.le_of_ble_eq_true rfl) dX5_unit_33 ⟨Nat.le_of_ble_eq_true rfl, Nat.le_of_ble_eq_true rfl⟩ ⟨Nat.le_of_ble_eq_true rfl, Nat.le_of_ble_eq_true rfl⟩) (fun H locs ws_152 h u_153 p_154 => ?_)
    have e_155 := p_154
    replace HE : FT = g35c_X5_unit_3 (xso SC ad ws_152) := HE.trans (by rw [e_155, e_151, ei_149]; rfl)
    refine lv_aload_n C0.1 C0.2.1 dX5_unit_36 rfl (lv_at hl 0 rfl) ?_
    refine tg_X5_law C0 h kSC_77 q_380 dX5_unit_37 (fun i_156 hi_156 ei_156 => ?_)
    refine y_c3 (n := 2003) C0 (by decide) dX5_unit_40 (fun v_157 e_158 => ?_)
    refine y_cv h (y_rV (As := [.int v_157]) (rest := []) C0 hZ h (c_X4_add l G Z ad _ h.2 i_156 hi_156 v_157) k_X4_add q_827 q_828 q_826 hi_156 rfl rfl rfl hl.1 rfl rfl (Nat.le_of_ble_eq_true rfl) dX5_unit_43 ⟨Nat.le_of_ble_eq_true rfl, Nat.le_of_ble_eq_true rfl⟩ ⟨Nat.le_of_ble_eq_true rfl, Nat.le_of_ble_eq_true rfl⟩) (fun H locs ws_159 h u_160 p_161 => ?_)
    have e_162 := p_161
    replace HE : FT = g36c_X5_unit_3 (xso SC ad ws_159) := HE.trans (by rw [e_162, e_158, ei_156]; rfl)
    refine lv_goto (tgt := 165) C0.1 C0.2.1 dX5_unit_46 (by decide) ?_
    replace HE : FT = ((xso SC ad ws_159), 0) := HE.trans rfl
    rw [hQ]
    exact y_vret C0 h (Fr.tr (Fr.tr (Fr.tr (Fr.tr (Fr.tr (Fr.mono u_2 (by decide)) (Fr.mono u_129 (by decide))) (Fr.mono u_138 (by decide))) u_146) (Fr.mono u_153 (by decide))) (Fr.mono u_160 (by decide))) (congrArg Prod.fst (HE.symm.trans hFT)) dX5_unit_165
noncomputable def g5_X5_both_3 (s : XS) : XR := (s, 0)
noncomputable def g9_X5_both_3 (s : XS) : XR := (s, 0)
noncomputable def g13c_X5_both_3 (R7 : XS → Int → XR) (s : XS) (x2_7 : Int) : XR := R7 s ((x2_7 + 1))
noncomputable def g12c_X5_both_3 (R7 : XS → Int → XR) (s : XS) (x2_7 : Int) : XR := g13c_X5_both_3 R7 ((f_X4_add s (Int.toNat (s 3 77 10)) 2006).1) x2_7
noncomputable def g11c_X5_both_3 (R7 : XS → Int → XR) (s : XS) (x2_7 : Int) : XR := g12c_X5_both_3 R7 ((f_X5_unit_3 s 3).1) x2_7
noncomputable def g10_X5_both_3 (R7 : XS → Int → XR) (s : XS) (x2_7 : Int) : XR := g11c_X5_both_3 R7 ((f_X5_advance s).1) x2_7
noncomputable def g8b_X5_both_3 (R7 : XS → Int → XR) (s : XS) (r_22 : Int) (x2_7 : Int) : XR := if r_22 = 0 then g9_X5_both_3 s else g10_X5_both_3 R7 s x2_7
noncomputable def g7c_X5_both_3 (R7 : XS → Int → XR) (s : XS) (r_22 : Int) (x2_7 : Int) : XR := g8b_X5_both_3 R7 s r_22 x2_7
noncomputable def g6_X5_both_3 (R7 : XS → Int → XR) (s : XS) (x2_7 : Int) : XR := g7c_X5_both_3 R7 ((f_X5_isWord s 20).1) (((f_X5_isWord s 20).2)) x2_7
noncomputable def g4b_X5_both_3 (R7 : XS → Int → XR) (s : XS) (x2_7 : Int) : XR := if x2_7 < 900 then g6_X5_both_3 R7 s x2_7 else g5_X5_both_3 s
noncomputable def g3l_X5_both_3 (R7 : XS → Int → XR) (s : XS) (x2_7 : Int) : XR := g4b_X5_both_3 R7 s x2_7
noncomputable def L2_X5_both_3 (n : Nat) : XS → Int → XR := Nat.rec (motive := fun _ => XS → Int → XR) (fun s _ => (s, 0)) (fun _ R7 => g3l_X5_both_3 R7) n
noncomputable def g1c_X5_both_3 (s : XS) : XR := L2_X5_both_3 (Int.toNat (900 - 0 + 1)) s 0
noncomputable def f_X5_both_3 (s : XS) (a1 : Int) : XR := g1c_X5_both_3 ((f_X5_unit_3 s a1).1)
set_option maxHeartbeats 4000000 in
set_option maxRecDepth 100000 in
theorem c_X5_both_3 (l : Launch) (G : GG) (Z : RZ) (ad : Nat → Nat) (ws0 : va_W) (hT : Ty G SC ad ws0) (a1 : Int32) (l1 : 3 ≤ a1.toInt) (u1 : a1.toInt ≤ 3) : Mq l yX5_both cX5_both 3 none 19 G Z [.ref (ad 77), .int a1] ws0 (PV G SC ad [2, 3, 16] ws0 (fun u => (xso SC ad u = (f_X5_both_3 (xso SC ad ws0) a1.toInt).1))) := by
  refine Mq.start (by decide) (Nat.le_of_ble_eq_true rfl) ?_
  intro p e s m below meth c A ls C0 hZ h hl
  have hl : lv_has ls 3 [(0, .ref (ad 77)), (1, .int a1)] := hl
  have h : Wt G SC ad A s s.heap [] ws0 := ⟨h, hT⟩
  obtain ⟨args, hargs⟩ : ∃ z, z = ([.ref (ad 77), .int a1] : List Value).toArray := ⟨_, rfl⟩
  rw [← hargs] at C0 ⊢
  have C0 : Cx p s m args meth c RX5 cX5_both 3 none := C0
  obtain ⟨Q, hQ⟩ : ∃ z, z = MQ below ((PV G SC ad [2, 3, 16] ws0 (fun u => (xso SC ad u = (f_X5_both_3 (xso SC ad ws0) a1.toInt).1))) A) args s 0 0 A := ⟨_, rfl⟩
  rw [← hQ]
  obtain ⟨FT, hFT⟩ : ∃ z, z = f_X5_both_3 (xso SC ad ws0) a1.toInt := ⟨_, rfl⟩
  have HE : FT = f_X5_both_3 (xso SC ad ws0) a1.toInt := hFT
  refine lv_aload_n C0.1 C0.2.1 dX5_both_0 rfl (lv_at hl 0 rfl) ?_
  refine lv_iload_n C0.1 C0.2.1 dX5_both_1 rfl (lv_at hl 1 rfl) ?_
  refine y_cv h (y_rV (As := [.int a1]) (rest := []) C0 hZ h (c_X5_unit_3 l G Z ad _ h.2 a1 (o24_91 l1 u1) (o24_92 l1 u1)) k_X5_unit q_851 q_21 q_849 kSC_77 rfl rfl rfl hl.1 rfl rfl (Nat.le_of_ble_eq_true rfl) dX5_both_2 ⟨Nat.le_of_ble_eq_true rfl, Nat.le_of_ble_eq_true rfl⟩ ⟨Nat.le_of_ble_eq_true rfl, Nat.le_of_ble_eq_true rfl⟩) (fun H locs ws_1 h u_2 p_3 => ?_)
  have e_4 := p_3
  replace HE : FT = g1c_X5_both_3 (xso SC ad ws_1) := HE.trans (by rw [e_4]; rfl)
  refine y_c1 (n := 0) C0 (by decide) dX5_both_5 (fun v_5 e_6 => ?_)
  refine lv_istore_n (lv' := [(2, .int v_5), (0, .ref (ad 77)), (1, .int a1)]) C0.1 C0.2.1 dX5_both_6 rfl hl (by decide) rfl (fun ls hl => ?_)
  have lp_10 : ∀ (n_12 : Nat) (x2_7 : Int32) (H : Heap) (locs : List Loc) (ls : Array Slot) (ws_8 : va_W), 900 - x2_7.toInt < (n_12 : Int) → 0 ≤ x2_7.toInt → x2_7.toInt ≤ 900 → (FT = L2_X5_both_3 n_12 (xso SC ad ws_8) x2_7.toInt) → Wt G SC ad A s H locs ws_8 → Fr SC [2, 3, 16] ws_1 ws_8 → lv_has ls 3 [(2, .int x2_7), (0, .ref (ad 77)), (1, .int a1)] → W p l e (rmd 19 0 0) s m args below meth c H locs 0 0 Q (F0 m 7 ls []) := by
    intro n_12
    induction n_12 with
    | zero => intro x2_7 H locs ls ws_8 hn_13 b_14 b_15 HE h hF_9 hl; exact ((o24_22 b_14 b_15 hn_13)).elim
    | succ n_12 ih_11 =>
      intro x2_7 H locs ls ws_8 hn_13 b_14 b_15 HE h hF_9 hl
      obtain ⟨R7, hR7⟩ : ∃ z, z = L2_X5_both_3 n_12 := ⟨_, rfl⟩
      replace HE : FT = g3l_X5_both_3 R7 (xso SC ad ws_8) x2_7.toInt := HE.trans (by rw [hR7]; rfl)
      refine lv_iload_n C0.1 C0.2.1 dX5_both_7 rfl (lv_at hl 0 rfl) ?_
      refine y_c3 (n := 900) C0 (by decide) dX5_both_8 (fun v_16 e_17 => ?_)
      replace HE : FT = g4b_X5_both_3 R7 (xso SC ad ws_8) x2_7.toInt := HE.trans rfl
      refine y_icmp_ge (tgt := 48) C0 dX5_both_11 (by decide) (fun c_18 => ?_) (fun c_18 => ?_)
      · -- 11
        replace HE : FT = g5_X5_both_3 (xso SC ad ws_8) := HE.trans (if_neg (o24_24 b_14 b_15 hn_13 e_17 c_18))
        replace HE : FT = ((xso SC ad ws_8), 0) := HE.trans rfl
        rw [hQ]
        exact y_vret C0 h (Fr.tr u_2 hF_9) (congrArg Prod.fst (HE.symm.trans hFT)) dX5_both_48
      · -- 11
        replace HE : FT = g6_X5_both_3 R7 (xso SC ad ws_8) x2_7.toInt := HE.trans (if_pos (o24_25 b_14 b_15 hn_13 e_17 c_18))
        refine lv_aload_n C0.1 C0.2.1 dX5_both_14 rfl (lv_at hl 1 rfl) ?_
        refine va_ldcS C0.1 C0.2.1 C0.2.2.2.1 (sr_20 hZ) dX5_both_15 ?_
        refine y_ci h (y_rV (As := [.ref (Z.2.1 20)]) (rest := []) C0 hZ h (c_X5_isWord l G Z ad _ h.2 20 (by decide)) k_X5_isWord q_724 q_5 q_722 kSC_77 rfl rfl rfl hl.1 rfl rfl (Nat.le_of_ble_eq_true rfl) dX5_both_17 ⟨Nat.le_of_ble_eq_true rfl, Nat.le_of_ble_eq_true rfl⟩ ⟨Nat.le_of_ble_eq_true rfl, Nat.le_of_ble_eq_true rfl⟩) (fun r_22 H locs ws_19 h u_20 p_21 => ?_)
        obtain ⟨e_23, e_24, e_25, e_26⟩ := p_21
        replace HE : FT = g7c_X5_both_3 R7 (xso SC ad ws_19) r_22.toInt x2_7.toInt := HE.trans (by rw [e_23, e_24]; rfl)
        replace HE : FT = g8b_X5_both_3 R7 (xso SC ad ws_19) r_22.toInt x2_7.toInt := HE.trans rfl
        refine y_if_eq (tgt := 48) C0 dX5_both_20 (by decide) (fun c_27 => ?_) (fun c_27 => ?_)
        · -- 20
          replace HE : FT = g9_X5_both_3 (xso SC ad ws_19) := HE.trans (if_pos c_27)
          replace HE : FT = ((xso SC ad ws_19), 0) := HE.trans rfl
          rw [hQ]
          exact y_vret C0 h (Fr.tr (Fr.tr u_2 hF_9) (Fr.mono u_20 (by decide))) (congrArg Prod.fst (HE.symm.trans hFT)) dX5_both_48
        · -- 20
          replace HE : FT = g10_X5_both_3 R7 (xso SC ad ws_19) x2_7.toInt := HE.trans (if_neg c_27)
          refine lv_aload_n C0.1 C0.2.1 dX5_both_23 rfl (lv_at hl 1 rfl) ?_
          refine y_cv h (y_rV (As := []) (rest := []) C0 hZ h (c_X5_advance l G Z ad _ h.2) k_X5_advance q_616 q_0 q_614 kSC_77 rfl rfl rfl hl.1 rfl rfl (Nat.le_of_ble_eq_true rfl) dX5_both_24 ⟨Nat.le_of_ble_eq_true rfl, Nat.le_of_ble_eq_true rfl⟩ ⟨Nat.le_of_ble_eq_true rfl, Nat.le_of_ble_eq_true rfl⟩) (fun H locs ws_28 h u_29 p_30 => ?_)
          have e_31 := p_30
          replace HE : FT = g11c_X5_both_3 R7 (xso SC ad ws_28) x2_7.toInt := HE.trans (by rw [e_31]; rfl)
          refine lv_aload_n C0.1 C0.2.1 dX5_both_27 rfl (lv_at hl 1 rfl) ?_
          refine lv_iload_n C0.1 C0.2.1 dX5_both_28 rfl (lv_at hl 2 rfl) ?_
          refine y_cv h (y_rV (As := [.int a1]) (rest := []) C0 hZ h (c_X5_unit_3 l G Z ad _ h.2 a1 (o24_91 l1 u1) (o24_92 l1 u1)) k_X5_unit q_851 q_21 q_849 kSC_77 rfl rfl rfl hl.1 rfl rfl (Nat.le_of_ble_eq_true rfl) dX5_both_29 ⟨Nat.le_of_ble_eq_true rfl, Nat.le_of_ble_eq_true rfl⟩ ⟨Nat.le_of_ble_eq_true rfl, Nat.le_of_ble_eq_true rfl⟩) (fun H locs ws_32 h u_33 p_34 => ?_)
          have e_35 := p_34
          replace HE : FT = g12c_X5_both_3 R7 (xso SC ad ws_32) x2_7.toInt := HE.trans (by rw [e_35, (o24_93 l1 u1)]; rfl)
          refine lv_aload_n C0.1 C0.2.1 dX5_both_32 rfl (lv_at hl 1 rfl) ?_
          refine tg_X5_law C0 h kSC_77 q_380 dX5_both_33 (fun i_36 hi_36 ei_36 => ?_)
          refine y_c3 (n := 2006) C0 (by decide) dX5_both_36 (fun v_37 e_38 => ?_)
          refine y_cv h (y_rV (As := [.int v_37]) (rest := []) C0 hZ h (c_X4_add l G Z ad _ h.2 i_36 hi_36 v_37) k_X4_add q_827 q_828 q_826 hi_36 rfl rfl rfl hl.1 rfl rfl (Nat.le_of_ble_eq_true rfl) dX5_both_39 ⟨Nat.le_of_ble_eq_true rfl, Nat.le_of_ble_eq_true rfl⟩ ⟨Nat.le_of_ble_eq_true rfl, Nat.le_of_ble_eq_true rfl⟩) (fun H locs ws_39 h u_40 p_41 => ?_)
          have e_42 := p_41
          replace HE : FT = g13c_X5_both_3 R7 (xso SC ad ws_39) x2_7.toInt := HE.trans (by rw [e_42, e_38, ei_36]; rfl)
          refine y_inc (kp := 0) (n := 1) (fun v_43 => [(2, .int v_43), (0, .ref (ad 77)), (1, .int a1)]) C0 hl rfl (by decide) (by decide) (fun _ => rfl) (o24_29 b_14 b_15 hn_13 e_17 c_18 (le_min x2_7) (le_max x2_7) (le_min v_16) (le_max v_16)) (o24_30 b_14 b_15 hn_13 e_17 c_18 (le_min x2_7) (le_max x2_7) (le_min v_16) (le_max v_16)) dX5_both_42 (fun v_43 ls e_44 hl => ?_)
          refine lv_goto (tgt := 7) C0.1 C0.2.1 dX5_both_45 (by decide) ?_
          exact ih_11 v_43 _ _ _ _ (o24_31 b_14 b_15 hn_13 e_17 c_18 e_44) (o24_32 b_14 b_15 hn_13 e_17 c_18 e_44) (o24_33 b_14 b_15 hn_13 e_17 c_18 e_44) (((show FT = R7 (xso SC ad ws_39) v_43.toInt from HE.trans (by rw [e_44]; rfl)).trans (by rw [hR7]))) h (Fr.tr (Fr.tr (Fr.tr (Fr.tr hF_9 (Fr.mono u_20 (by decide))) (Fr.mono u_29 (by decide))) u_33) (Fr.mono u_40 (by decide))) (lv_sub hl [0, 1, 2] rfl)
  exact lp_10 ((900 - v_5.toInt + 1).toNat) v_5 _ _ _ _ (o24_34 e_6) (o24_35 e_6) (o24_36 e_6) ((show FT = L2_X5_both_3 (Int.toNat (900 - v_5.toInt + 1)) (xso SC ad ws_1) v_5.toInt from HE.trans (by rw [e_6]; rfl))) h Fr.rf (lv_sub hl [0, 1, 2] rfl)
noncomputable def g5_X5_truth_3 (s : XS) : XR := (s, 0)
noncomputable def g9_X5_truth_3 (s : XS) : XR := (s, 0)
noncomputable def g13c_X5_truth_3 (R7 : XS → Int → XR) (s : XS) (x2_7 : Int) : XR := R7 s ((x2_7 + 1))
noncomputable def g12c_X5_truth_3 (R7 : XS → Int → XR) (s : XS) (x2_7 : Int) : XR := g13c_X5_truth_3 R7 ((f_X4_add s (Int.toNat (s 3 77 10)) 2007).1) x2_7
noncomputable def g11c_X5_truth_3 (R7 : XS → Int → XR) (s : XS) (x2_7 : Int) : XR := g12c_X5_truth_3 R7 ((f_X5_both_3 s 3).1) x2_7
noncomputable def g10_X5_truth_3 (R7 : XS → Int → XR) (s : XS) (x2_7 : Int) : XR := g11c_X5_truth_3 R7 ((f_X5_advance s).1) x2_7
noncomputable def g8b_X5_truth_3 (R7 : XS → Int → XR) (s : XS) (r_22 : Int) (x2_7 : Int) : XR := if r_22 = 0 then g9_X5_truth_3 s else g10_X5_truth_3 R7 s x2_7
noncomputable def g7c_X5_truth_3 (R7 : XS → Int → XR) (s : XS) (r_22 : Int) (x2_7 : Int) : XR := g8b_X5_truth_3 R7 s r_22 x2_7
noncomputable def g6_X5_truth_3 (R7 : XS → Int → XR) (s : XS) (x2_7 : Int) : XR := g7c_X5_truth_3 R7 ((f_X5_isWord s 21).1) (((f_X5_isWord s 21).2)) x2_7
noncomputable def g4b_X5_truth_3 (R7 : XS → Int → XR) (s : XS) (x2_7 : Int) : XR := if x2_7 < 900 then g6_X5_truth_3 R7 s x2_7 else g5_X5_truth_3 s
noncomputable def g3l_X5_truth_3 (R7 : XS → Int → XR) (s : XS) (x2_7 : Int) : XR := g4b_X5_truth_3 R7 s x2_7
noncomputable def L2_X5_truth_3 (n : Nat) : XS → Int → XR := Nat.rec (motive := fun _ => XS → Int → XR) (fun s _ => (s, 0)) (fun _ R7 => g3l_X5_truth_3 R7) n
noncomputable def g1c_X5_truth_3 (s : XS) : XR := L2_X5_truth_3 (Int.toNat (900 - 0 + 1)) s 0
noncomputable def f_X5_truth_3 (s : XS) (a1 : Int) : XR := g1c_X5_truth_3 ((f_X5_both_3 s a1).1)
set_option maxHeartbeats 4000000 in
set_option maxRecDepth 100000 in
theorem c_X5_truth_3 (l : Launch) (G : GG) (Z : RZ) (ad : Nat → Nat) (ws0 : va_W) (hT : Ty G SC ad ws0) (a1 : Int32) (l1 : 3 ≤ a1.toInt) (u1 : a1.toInt ≤ 3) : Mq l yX5_truth cX5_truth 3 none 20 G Z [.ref (ad 77), .int a1] ws0 (PV G SC ad [2, 3, 16] ws0 (fun u => (xso SC ad u = (f_X5_truth_3 (xso SC ad ws0) a1.toInt).1))) := by
  refine Mq.start (by decide) (Nat.le_of_ble_eq_true rfl) ?_
  intro p e s m below meth c A ls C0 hZ h hl
  have hl : lv_has ls 3 [(0, .ref (ad 77)), (1, .int a1)] := hl
  have h : Wt G SC ad A s s.heap [] ws0 := ⟨h, hT⟩
  obtain ⟨args, hargs⟩ : ∃ z, z = ([.ref (ad 77), .int a1] : List Value).toArray := ⟨_, rfl⟩
  rw [← hargs] at C0 ⊢
  have C0 : Cx p s m args meth c RX5 cX5_truth 3 none := C0
  obtain ⟨Q, hQ⟩ : ∃ z, z = MQ below ((PV G SC ad [2, 3, 16] ws0 (fun u => (xso SC ad u = (f_X5_truth_3 (xso SC ad ws0) a1.toInt).1))) A) args s 0 0 A := ⟨_, rfl⟩
  rw [← hQ]
  obtain ⟨FT, hFT⟩ : ∃ z, z = f_X5_truth_3 (xso SC ad ws0) a1.toInt := ⟨_, rfl⟩
  have HE : FT = f_X5_truth_3 (xso SC ad ws0) a1.toInt := hFT
  refine lv_aload_n C0.1 C0.2.1 dX5_truth_0 rfl (lv_at hl 0 rfl) ?_
  refine lv_iload_n C0.1 C0.2.1 dX5_truth_1 rfl (lv_at hl 1 rfl) ?_
  refine y_cv h (y_rV (As := [.int a1]) (rest := []) C0 hZ h (c_X5_both_3 l G Z ad _ h.2 a1 (o24_91 l1 u1) (o24_92 l1 u1)) k_X5_both q_847 q_20 q_845 kSC_77 rfl rfl rfl hl.1 rfl rfl (Nat.le_of_ble_eq_true rfl) dX5_truth_2 ⟨Nat.le_of_ble_eq_true rfl, Nat.le_of_ble_eq_true rfl⟩ ⟨Nat.le_of_ble_eq_true rfl, Nat.le_of_ble_eq_true rfl⟩) (fun H locs ws_1 h u_2 p_3 => ?_)
  have e_4 := p_3
  replace HE : FT = g1c_X5_truth_3 (xso SC ad ws_1) := HE.trans (by rw [e_4]; rfl)
  refine y_c1 (n := 0) C0 (by decide) dX5_truth_5 (fun v_5 e_6 => ?_)
  refine lv_istore_n (lv' := [(2, .int v_5), (0, .ref (ad 77)), (1, .int a1)]) C0.1 C0.2.1 dX5_truth_6 rfl hl (by decide) rfl (fun ls hl => ?_)
  have lp_10 : ∀ (n_12 : Nat) (x2_7 : Int32) (H : Heap) (locs : List Loc) (ls : Array Slot) (ws_8 : va_W), 900 - x2_7.toInt < (n_12 : Int) → 0 ≤ x2_7.toInt → x2_7.toInt ≤ 900 → (FT = L2_X5_truth_3 n_12 (xso SC ad ws_8) x2_7.toInt) → Wt G SC ad A s H locs ws_8 → Fr SC [2, 3, 16] ws_1 ws_8 → lv_has ls 3 [(2, .int x2_7), (0, .ref (ad 77)), (1, .int a1)] → W p l e (rmd 20 0 0) s m args below meth c H locs 0 0 Q (F0 m 7 ls []) := by
    intro n_12
    induction n_12 with
    | zero => intro x2_7 H locs ls ws_8 hn_13 b_14 b_15 HE h hF_9 hl; exact ((o24_22 b_14 b_15 hn_13)).elim
    | succ n_12 ih_11 =>
      intro x2_7 H locs ls ws_8 hn_13 b_14 b_15 HE h hF_9 hl
      obtain ⟨R7, hR7⟩ : ∃ z, z = L2_X5_truth_3 n_12 := ⟨_, rfl⟩
      replace HE : FT = g3l_X5_truth_3 R7 (xso SC ad ws_8) x2_7.toInt := HE.trans (by rw [hR7]; rfl)
      refine lv_iload_n C0.1 C0.2.1 dX5_truth_7 rfl (lv_at hl 0 rfl) ?_
      refine y_c3 (n := 900) C0 (by decide) dX5_truth_8 (fun v_16 e_17 => ?_)
      replace HE : FT = g4b_X5_truth_3 R7 (xso SC ad ws_8) x2_7.toInt := HE.trans rfl
      refine y_icmp_ge (tgt := 48) C0 dX5_truth_11 (by decide) (fun c_18 => ?_) (fun c_18 => ?_)
      · -- 11
        replace HE : FT = g5_X5_truth_3 (xso SC ad ws_8) := HE.trans (if_neg (o24_24 b_14 b_15 hn_13 e_17 c_18))
        replace HE : FT = ((xso SC ad ws_8), 0) := HE.trans rfl
        rw [hQ]
        exact y_vret C0 h (Fr.tr u_2 hF_9) (congrArg Prod.fst (HE.symm.trans hFT)) dX5_truth_48
      · -- 11
        replace HE : FT = g6_X5_truth_3 R7 (xso SC ad ws_8) x2_7.toInt := HE.trans (if_pos (o24_25 b_14 b_15 hn_13 e_17 c_18))
        refine lv_aload_n C0.1 C0.2.1 dX5_truth_14 rfl (lv_at hl 1 rfl) ?_
        refine va_ldcS C0.1 C0.2.1 C0.2.2.2.1 (sr_21 hZ) dX5_truth_15 ?_
        refine y_ci h (y_rV (As := [.ref (Z.2.1 21)]) (rest := []) C0 hZ h (c_X5_isWord l G Z ad _ h.2 21 (by decide)) k_X5_isWord q_724 q_5 q_722 kSC_77 rfl rfl rfl hl.1 rfl rfl (Nat.le_of_ble_eq_true rfl) dX5_truth_17 ⟨Nat.le_of_ble_eq_true rfl, Nat.le_of_ble_eq_true rfl⟩ ⟨Nat.le_of_ble_eq_true rfl, Nat.le_of_ble_eq_true rfl⟩) (fun r_22 H locs ws_19 h u_20 p_21 => ?_)
        obtain ⟨e_23, e_24, e_25, e_26⟩ := p_21
        replace HE : FT = g7c_X5_truth_3 R7 (xso SC ad ws_19) r_22.toInt x2_7.toInt := HE.trans (by rw [e_23, e_24]; rfl)
        replace HE : FT = g8b_X5_truth_3 R7 (xso SC ad ws_19) r_22.toInt x2_7.toInt := HE.trans rfl
        refine y_if_eq (tgt := 48) C0 dX5_truth_20 (by decide) (fun c_27 => ?_) (fun c_27 => ?_)
        · -- 20
          replace HE : FT = g9_X5_truth_3 (xso SC ad ws_19) := HE.trans (if_pos c_27)
          replace HE : FT = ((xso SC ad ws_19), 0) := HE.trans rfl
          rw [hQ]
          exact y_vret C0 h (Fr.tr (Fr.tr u_2 hF_9) (Fr.mono u_20 (by decide))) (congrArg Prod.fst (HE.symm.trans hFT)) dX5_truth_48
        · -- 20
          replace HE : FT = g10_X5_truth_3 R7 (xso SC ad ws_19) x2_7.toInt := HE.trans (if_neg c_27)
          refine lv_aload_n C0.1 C0.2.1 dX5_truth_23 rfl (lv_at hl 1 rfl) ?_
          refine y_cv h (y_rV (As := []) (rest := []) C0 hZ h (c_X5_advance l G Z ad _ h.2) k_X5_advance q_616 q_0 q_614 kSC_77 rfl rfl rfl hl.1 rfl rfl (Nat.le_of_ble_eq_true rfl) dX5_truth_24 ⟨Nat.le_of_ble_eq_true rfl, Nat.le_of_ble_eq_true rfl⟩ ⟨Nat.le_of_ble_eq_true rfl, Nat.le_of_ble_eq_true rfl⟩) (fun H locs ws_28 h u_29 p_30 => ?_)
          have e_31 := p_30
          replace HE : FT = g11c_X5_truth_3 R7 (xso SC ad ws_28) x2_7.toInt := HE.trans (by rw [e_31]; rfl)
          refine lv_aload_n C0.1 C0.2.1 dX5_truth_27 rfl (lv_at hl 1 rfl) ?_
          refine lv_iload_n C0.1 C0.2.1 dX5_truth_28 rfl (lv_at hl 2 rfl) ?_
          refine y_cv h (y_rV (As := [.int a1]) (rest := []) C0 hZ h (c_X5_both_3 l G Z ad _ h.2 a1 (o24_91 l1 u1) (o24_92 l1 u1)) k_X5_both q_847 q_20 q_845 kSC_77 rfl rfl rfl hl.1 rfl rfl (Nat.le_of_ble_eq_true rfl) dX5_truth_29 ⟨Nat.le_of_ble_eq_true rfl, Nat.le_of_ble_eq_true rfl⟩ ⟨Nat.le_of_ble_eq_true rfl, Nat.le_of_ble_eq_true rfl⟩) (fun H locs ws_32 h u_33 p_34 => ?_)
          have e_35 := p_34
          replace HE : FT = g12c_X5_truth_3 R7 (xso SC ad ws_32) x2_7.toInt := HE.trans (by rw [e_35, (o24_93 l1 u1)]; rfl)
          refine lv_aload_n C0.1 C0.2.1 dX5_truth_32 rfl (lv_at hl 1 rfl) ?_
          refine tg_X5_law C0 h kSC_77 q_380 dX5_truth_33 (fun i_36 hi_36 ei_36 => ?_)
          refine y_c3 (n := 2007) C0 (by decide) dX5_truth_36 (fun v_37 e_38 => ?_)
          refine y_cv h (y_rV (As := [.int v_37]) (rest := []) C0 hZ h (c_X4_add l G Z ad _ h.2 i_36 hi_36 v_37) k_X4_add q_827 q_828 q_826 hi_36 rfl rfl rfl hl.1 rfl rfl (Nat.le_of_ble_eq_true rfl) dX5_truth_39 ⟨Nat.le_of_ble_eq_true rfl, Nat.le_of_ble_eq_true rfl⟩ ⟨Nat.le_of_ble_eq_true rfl, Nat.le_of_ble_eq_true rfl⟩) (fun H locs ws_39 h u_40 p_41 => ?_)
          have e_42 := p_41
          replace HE : FT = g13c_X5_truth_3 R7 (xso SC ad ws_39) x2_7.toInt := HE.trans (by rw [e_42, e_38, ei_36]; rfl)
          refine y_inc (kp := 0) (n := 1) (fun v_43 => [(2, .int v_43), (0, .ref (ad 77)), (1, .int a1)]) C0 hl rfl (by decide) (by decide) (fun _ => rfl) (o24_29 b_14 b_15 hn_13 e_17 c_18 (le_min x2_7) (le_max x2_7) (le_min v_16) (le_max v_16)) (o24_30 b_14 b_15 hn_13 e_17 c_18 (le_min x2_7) (le_max x2_7) (le_min v_16) (le_max v_16)) dX5_truth_42 (fun v_43 ls e_44 hl => ?_)
          refine lv_goto (tgt := 7) C0.1 C0.2.1 dX5_truth_45 (by decide) ?_
          exact ih_11 v_43 _ _ _ _ (o24_31 b_14 b_15 hn_13 e_17 c_18 e_44) (o24_32 b_14 b_15 hn_13 e_17 c_18 e_44) (o24_33 b_14 b_15 hn_13 e_17 c_18 e_44) (((show FT = R7 (xso SC ad ws_39) v_43.toInt from HE.trans (by rw [e_44]; rfl)).trans (by rw [hR7]))) h (Fr.tr (Fr.tr (Fr.tr (Fr.tr hF_9 (Fr.mono u_20 (by decide))) (Fr.mono u_29 (by decide))) u_33) (Fr.mono u_40 (by decide))) (lv_sub hl [0, 1, 2] rfl)
  exact lp_10 ((900 - v_5.toInt + 1).toNat) v_5 _ _ _ _ (o24_34 e_6) (o24_35 e_6) (o24_36 e_6) ((show FT = L2_X5_truth_3 (Int.toNat (900 - v_5.toInt + 1)) (xso SC ad ws_1) v_5.toInt from HE.trans (by rw [e_6]; rfl))) h Fr.rf (lv_sub hl [0, 1, 2] rfl)
noncomputable def f_X5_tooDeep_2 (s : XS) (a1 : Int) : XR := (s, 0)
set_option maxHeartbeats 4000000 in
set_option maxRecDepth 100000 in
theorem c_X5_tooDeep_2 (l : Launch) (G : GG) (Z : RZ) (ad : Nat → Nat) (ws0 : va_W) (hT : Ty G SC ad ws0) (a1 : Int32) (l1 : 2 ≤ a1.toInt) (u1 : a1.toInt ≤ 2) : Mq l yX5_tooDeep cX5_tooDeep 2 (some .boolean) 1 G Z [.ref (ad 77), .int a1] ws0 (PI G SC ad [] ws0 (fun r u => (xso SC ad u = (f_X5_tooDeep_2 (xso SC ad ws0) a1.toInt).1) ∧ (r.toInt = (f_X5_tooDeep_2 (xso SC ad ws0) a1.toInt).2) ∧ (0 ≤ r.toInt) ∧ (r.toInt ≤ 0))) := by
  refine Mq.start (by decide) (Nat.le_of_ble_eq_true rfl) ?_
  intro p e s m below meth c A ls C0 hZ h hl
  have hl : lv_has ls 2 [(0, .ref (ad 77)), (1, .int a1)] := hl
  have h : Wt G SC ad A s s.heap [] ws0 := ⟨h, hT⟩
  obtain ⟨args, hargs⟩ : ∃ z, z = ([.ref (ad 77), .int a1] : List Value).toArray := ⟨_, rfl⟩
  rw [← hargs] at C0 ⊢
  have C0 : Cx p s m args meth c RX5 cX5_tooDeep 2 (some .boolean) := C0
  obtain ⟨Q, hQ⟩ : ∃ z, z = MQ below ((PI G SC ad [] ws0 (fun r u => (xso SC ad u = (f_X5_tooDeep_2 (xso SC ad ws0) a1.toInt).1) ∧ (r.toInt = (f_X5_tooDeep_2 (xso SC ad ws0) a1.toInt).2) ∧ (0 ≤ r.toInt) ∧ (r.toInt ≤ 0))) A) args s 0 0 A := ⟨_, rfl⟩
  rw [← hQ]
  obtain ⟨FT, hFT⟩ : ∃ z, z = f_X5_tooDeep_2 (xso SC ad ws0) a1.toInt := ⟨_, rfl⟩
  have HE : FT = f_X5_tooDeep_2 (xso SC ad ws0) a1.toInt := hFT
  refine lv_iload_n C0.1 C0.2.1 dX5_tooDeep_0 rfl (lv_at hl 1 rfl) ?_
  refine y_c2 (n := 6) C0 (by decide) dX5_tooDeep_1 (fun v_1 e_2 => ?_)
  refine y_icmp_lt (tgt := 13) C0 dX5_tooDeep_3 (by decide) (fun c_3 => ?_) (fun c_3 => ((o24_99 l1 u1 e_2 c_3)).elim)
  refine y_c1 (n := 0) C0 (by decide) dX5_tooDeep_13 (fun v_4 e_5 => ?_)
  replace HE : FT = ((xso SC ad ws0), v_4.toInt) := HE.trans (by rw [e_5]; rfl)
  rw [hQ]
  exact y_zret C0 h (o24_35 e_5) (o24_67 e_5) Fr.rf ⟨(congrArg Prod.fst (HE.symm.trans hFT)), (congrArg Prod.snd (HE.symm.trans hFT)), (o24_35 e_5), (o24_66 e_5)⟩ dX5_tooDeep_14
noncomputable def g31c_X5_atom_2 (s : XS) : XR := (s, 0)
noncomputable def g29_X5_atom_2 (s : XS) : XR := g31c_X5_atom_2 ((f_X5_fail s 2).1)
noncomputable def g33c_X5_atom_2 (s : XS) : XR := (s, 0)
noncomputable def g32c_X5_atom_2 (s : XS) : XR := g33c_X5_atom_2 ((f_X5_advance s).1)
noncomputable def g30_X5_atom_2 (s : XS) : XR := g32c_X5_atom_2 ((f_X4_add s (Int.toNat (s 3 77 10)) 1005).1)
noncomputable def g28b_X5_atom_2 (s : XS) (r_64 : Int) : XR := if r_64 = 0 then g29_X5_atom_2 s else g30_X5_atom_2 s
noncomputable def g27c_X5_atom_2 (s : XS) (r_64 : Int) : XR := g28b_X5_atom_2 s r_64
noncomputable def g25_X5_atom_2 (s : XS) : XR := g27c_X5_atom_2 ((f_X5_isWord s 17).1) (((f_X5_isWord s 17).2))
noncomputable def g35c_X5_atom_2 (s : XS) : XR := (s, 0)
noncomputable def g34c_X5_atom_2 (s : XS) : XR := g35c_X5_atom_2 ((f_X5_advance s).1)
noncomputable def g26_X5_atom_2 (s : XS) : XR := g34c_X5_atom_2 ((f_X4_add s (Int.toNat (s 3 77 10)) 1004).1)
noncomputable def g24b_X5_atom_2 (s : XS) (r_55 : Int) : XR := if r_55 = 0 then g25_X5_atom_2 s else g26_X5_atom_2 s
noncomputable def g23c_X5_atom_2 (s : XS) (r_55 : Int) : XR := g24b_X5_atom_2 s r_55
noncomputable def g21_X5_atom_2 (s : XS) : XR := g23c_X5_atom_2 ((f_X5_isWord s 16).1) (((f_X5_isWord s 16).2))
noncomputable def g37c_X5_atom_2 (s : XS) : XR := (s, 0)
noncomputable def g36c_X5_atom_2 (s : XS) : XR := g37c_X5_atom_2 ((f_X5_advance s).1)
noncomputable def g22_X5_atom_2 (s : XS) : XR := g36c_X5_atom_2 ((f_X4_add s (Int.toNat (s 3 77 10)) 1003).1)
noncomputable def g20b_X5_atom_2 (s : XS) (r_46 : Int) : XR := if r_46 = 0 then g21_X5_atom_2 s else g22_X5_atom_2 s
noncomputable def g19c_X5_atom_2 (s : XS) (r_46 : Int) : XR := g20b_X5_atom_2 s r_46
noncomputable def g17_X5_atom_2 (s : XS) : XR := g19c_X5_atom_2 ((f_X5_isWord s 15).1) (((f_X5_isWord s 15).2))
noncomputable def g39c_X5_atom_2 (s : XS) : XR := (s, 0)
noncomputable def g38c_X5_atom_2 (s : XS) : XR := g39c_X5_atom_2 ((f_X5_advance s).1)
noncomputable def g18_X5_atom_2 (s : XS) : XR := g38c_X5_atom_2 ((f_X4_add s (Int.toNat (s 3 77 10)) 1002).1)
noncomputable def g16b_X5_atom_2 (s : XS) (r_37 : Int) : XR := if r_37 = 0 then g17_X5_atom_2 s else g18_X5_atom_2 s
noncomputable def g15c_X5_atom_2 (s : XS) (r_37 : Int) : XR := g16b_X5_atom_2 s r_37
noncomputable def g13_X5_atom_2 (s : XS) : XR := g15c_X5_atom_2 ((f_X5_isWord s 14).1) (((f_X5_isWord s 14).2))
noncomputable def g41c_X5_atom_2 (s : XS) : XR := (s, 0)
noncomputable def g40c_X5_atom_2 (s : XS) : XR := g41c_X5_atom_2 ((f_X5_advance s).1)
noncomputable def g14_X5_atom_2 (s : XS) : XR := g40c_X5_atom_2 ((f_X4_add s (Int.toNat (s 3 77 10)) 1001).1)
noncomputable def g12b_X5_atom_2 (s : XS) (r_28 : Int) : XR := if r_28 = 0 then g13_X5_atom_2 s else g14_X5_atom_2 s
noncomputable def g11c_X5_atom_2 (s : XS) (r_28 : Int) : XR := g12b_X5_atom_2 s r_28
noncomputable def g9_X5_atom_2 (s : XS) : XR := g11c_X5_atom_2 ((f_X5_isWord s 13).1) (((f_X5_isWord s 13).2))
noncomputable def g43c_X5_atom_2 (s : XS) : XR := (s, 0)
noncomputable def g42c_X5_atom_2 (s : XS) : XR := g43c_X5_atom_2 ((f_X5_advance s).1)
noncomputable def g10_X5_atom_2 (s : XS) : XR := g42c_X5_atom_2 ((f_X4_add s (Int.toNat (s 3 77 10)) 1000).1)
noncomputable def g8b_X5_atom_2 (s : XS) (r_19 : Int) : XR := if r_19 = 0 then g9_X5_atom_2 s else g10_X5_atom_2 s
noncomputable def g7c_X5_atom_2 (s : XS) (r_19 : Int) : XR := g8b_X5_atom_2 s r_19
noncomputable def g5_X5_atom_2 (s : XS) : XR := g7c_X5_atom_2 ((f_X5_isWord s 12).1) (((f_X5_isWord s 12).2))
noncomputable def g47c_X5_atom_2 (s : XS) : XR := (s, 0)
noncomputable def g46c_X5_atom_2 (s : XS) : XR := g47c_X5_atom_2 ((f_X5_sign s 41).1)
noncomputable def g45c_X5_atom_2 (s : XS) : XR := g46c_X5_atom_2 ((f_X5_sum_3 s (2 + 1)).1)
noncomputable def g44c_X5_atom_2 (s : XS) : XR := g45c_X5_atom_2 ((f_X5_advance s).1)
noncomputable def g6_X5_atom_2 (s : XS) : XR := g44c_X5_atom_2 ((f_X5_tooDeep_2 s 2).1)
noncomputable def g4b_X5_atom_2 (s : XS) (v_8 : Int) : XR := if v_8 = 40 then g6_X5_atom_2 s else g5_X5_atom_2 s
noncomputable def g2_X5_atom_2 (s : XS) : XR := g4b_X5_atom_2 s ((s 0 77 4))
noncomputable def g49c_X5_atom_2 (s : XS) : XR := (s, 0)
noncomputable def g48c_X5_atom_2 (s : XS) : XR := g49c_X5_atom_2 ((f_X5_advance s).1)
noncomputable def g3_X5_atom_2 (s : XS) : XR := g48c_X5_atom_2 ((f_X4_add s (Int.toNat (s 3 77 10)) (s 0 77 7)).1)
noncomputable def g1b_X5_atom_2 (s : XS) (v_1 : Int) : XR := if v_1 = 2 then g3_X5_atom_2 s else g2_X5_atom_2 s
noncomputable def f_X5_atom_2 (s : XS) (a1 : Int) : XR := g1b_X5_atom_2 s ((s 0 77 4))
set_option maxHeartbeats 4000000 in
set_option maxRecDepth 100000 in
theorem c_X5_atom_2 (l : Launch) (G : GG) (Z : RZ) (ad : Nat → Nat) (ws0 : va_W) (hT : Ty G SC ad ws0) (a1 : Int32) (l1 : 2 ≤ a1.toInt) (u1 : a1.toInt ≤ 2) : Mq l yX5_atom cX5_atom 3 none 18 G Z [.ref (ad 77), .int a1] ws0 (PV G SC ad [2, 3, 16] ws0 (fun u => (xso SC ad u = (f_X5_atom_2 (xso SC ad ws0) a1.toInt).1))) := by
  refine Mq.start (by decide) (Nat.le_of_ble_eq_true rfl) ?_
  intro p e s m below meth c A ls C0 hZ h hl
  have hl : lv_has ls 3 [(0, .ref (ad 77)), (1, .int a1)] := hl
  have h : Wt G SC ad A s s.heap [] ws0 := ⟨h, hT⟩
  obtain ⟨args, hargs⟩ : ∃ z, z = ([.ref (ad 77), .int a1] : List Value).toArray := ⟨_, rfl⟩
  rw [← hargs] at C0 ⊢
  have C0 : Cx p s m args meth c RX5 cX5_atom 3 none := C0
  obtain ⟨Q, hQ⟩ : ∃ z, z = MQ below ((PV G SC ad [2, 3, 16] ws0 (fun u => (xso SC ad u = (f_X5_atom_2 (xso SC ad ws0) a1.toInt).1))) A) args s 0 0 A := ⟨_, rfl⟩
  rw [← hQ]
  obtain ⟨FT, hFT⟩ : ∃ z, z = f_X5_atom_2 (xso SC ad ws0) a1.toInt := ⟨_, rfl⟩
  have HE : FT = f_X5_atom_2 (xso SC ad ws0) a1.toInt := hFT
  refine lv_aload_n C0.1 C0.2.1 dX5_atom_0 rfl (lv_at hl 0 rfl) ?_
  refine tg_X5_kind C0 h kSC_77 q_374 dX5_atom_1 (fun v_1 e_2 e_3 e_4 => ?_)
  refine y_c1 (n := 2) C0 (by decide) dX5_atom_4 (fun v_5 e_6 => ?_)
  replace HE : FT = g1b_X5_atom_2 (xso SC ad ws0) v_1.toInt := HE.trans (by rw [(xg0 e_2 : v_1.toInt = (xso SC ad ws0) 0 77 4)]; rfl)
  refine y_icmp_ne (tgt := 26) C0 dX5_atom_5 (by decide) (fun c_7 => ?_) (fun c_7 => ?_)
  · -- 5
    replace HE : FT = g2_X5_atom_2 (xso SC ad ws0) := HE.trans (if_neg (o24_6 e_6 c_7))
    refine lv_aload_n C0.1 C0.2.1 dX5_atom_26 rfl (lv_at hl 0 rfl) ?_
    refine tg_X5_kind C0 h kSC_77 q_374 dX5_atom_27 (fun v_8 e_9 e_10 e_11 => ?_)
    have qh_12 : v_8.toInt = v_1.toInt := congrArg Int32.toInt (e_9.symm.trans (Eq.trans rfl e_2))
    refine y_c2 (n := 40) C0 (by decide) dX5_atom_30 (fun v_13 e_14 => ?_)
    replace HE : FT = g4b_X5_atom_2 (xso SC ad ws0) v_8.toInt := HE.trans (by rw [(xg0 e_9 : v_8.toInt = (xso SC ad ws0) 0 77 4)]; rfl)
    refine y_icmp_ne (tgt := 63) C0 dX5_atom_32 (by decide) (fun c_15 => ?_) (fun c_15 => ?_)
    · -- 32
      replace HE : FT = g5_X5_atom_2 (xso SC ad ws0) := HE.trans (if_neg (o24_9 e_6 c_7 qh_12 e_14 c_15))
      refine lv_aload_n C0.1 C0.2.1 dX5_atom_63 rfl (lv_at hl 0 rfl) ?_
      refine va_ldcS C0.1 C0.2.1 C0.2.2.2.1 (sr_12 hZ) dX5_atom_64 ?_
      refine y_ci h (y_rV (As := [.ref (Z.2.1 12)]) (rest := []) C0 hZ h (c_X5_isWord l G Z ad _ h.2 12 (by decide)) k_X5_isWord q_724 q_5 q_722 kSC_77 rfl rfl rfl hl.1 rfl rfl (Nat.le_of_ble_eq_true rfl) dX5_atom_66 ⟨Nat.le_of_ble_eq_true rfl, Nat.le_of_ble_eq_true rfl⟩ ⟨Nat.le_of_ble_eq_true rfl, Nat.le_of_ble_eq_true rfl⟩) (fun r_19 H locs ws_16 h u_17 p_18 => ?_)
      obtain ⟨e_20, e_21, e_22, e_23⟩ := p_18
      replace HE : FT = g7c_X5_atom_2 (xso SC ad ws_16) r_19.toInt := HE.trans (by rw [e_20, e_21]; rfl)
      replace HE : FT = g8b_X5_atom_2 (xso SC ad ws_16) r_19.toInt := HE.trans rfl
      refine y_if_eq (tgt := 78) C0 dX5_atom_69 (by decide) (fun c_24 => ?_) (fun c_24 => ?_)
      · -- 69
        replace HE : FT = g9_X5_atom_2 (xso SC ad ws_16) := HE.trans (if_pos c_24)
        refine lv_aload_n C0.1 C0.2.1 dX5_atom_78 rfl (lv_at hl 0 rfl) ?_
        refine va_ldcS C0.1 C0.2.1 C0.2.2.2.1 (sr_13 hZ) dX5_atom_79 ?_
        refine y_ci h (y_rV (As := [.ref (Z.2.1 13)]) (rest := []) C0 hZ h (c_X5_isWord l G Z ad _ h.2 13 (by decide)) k_X5_isWord q_724 q_5 q_722 kSC_77 rfl rfl rfl hl.1 rfl rfl (Nat.le_of_ble_eq_true rfl) dX5_atom_81 ⟨Nat.le_of_ble_eq_true rfl, Nat.le_of_ble_eq_true rfl⟩ ⟨Nat.le_of_ble_eq_true rfl, Nat.le_of_ble_eq_true rfl⟩) (fun r_28 H locs ws_25 h u_26 p_27 => ?_)
        obtain ⟨e_29, e_30, e_31, e_32⟩ := p_27
        replace HE : FT = g11c_X5_atom_2 (xso SC ad ws_25) r_28.toInt := HE.trans (by rw [e_29, e_30]; rfl)
        replace HE : FT = g12b_X5_atom_2 (xso SC ad ws_25) r_28.toInt := HE.trans rfl
        refine y_if_eq (tgt := 93) C0 dX5_atom_84 (by decide) (fun c_33 => ?_) (fun c_33 => ?_)
        · -- 84
          replace HE : FT = g13_X5_atom_2 (xso SC ad ws_25) := HE.trans (if_pos c_33)
          refine lv_aload_n C0.1 C0.2.1 dX5_atom_93 rfl (lv_at hl 0 rfl) ?_
          refine va_ldcS C0.1 C0.2.1 C0.2.2.2.1 (sr_14 hZ) dX5_atom_94 ?_
          refine y_ci h (y_rV (As := [.ref (Z.2.1 14)]) (rest := []) C0 hZ h (c_X5_isWord l G Z ad _ h.2 14 (by decide)) k_X5_isWord q_724 q_5 q_722 kSC_77 rfl rfl rfl hl.1 rfl rfl (Nat.le_of_ble_eq_true rfl) dX5_atom_96 ⟨Nat.le_of_ble_eq_true rfl, Nat.le_of_ble_eq_true rfl⟩ ⟨Nat.le_of_ble_eq_true rfl, Nat.le_of_ble_eq_true rfl⟩) (fun r_37 H locs ws_34 h u_35 p_36 => ?_)
          obtain ⟨e_38, e_39, e_40, e_41⟩ := p_36
          replace HE : FT = g15c_X5_atom_2 (xso SC ad ws_34) r_37.toInt := HE.trans (by rw [e_38, e_39]; rfl)
          replace HE : FT = g16b_X5_atom_2 (xso SC ad ws_34) r_37.toInt := HE.trans rfl
          refine y_if_eq (tgt := 108) C0 dX5_atom_99 (by decide) (fun c_42 => ?_) (fun c_42 => ?_)
          · -- 99
            replace HE : FT = g17_X5_atom_2 (xso SC ad ws_34) := HE.trans (if_pos c_42)
            refine lv_aload_n C0.1 C0.2.1 dX5_atom_108 rfl (lv_at hl 0 rfl) ?_
            refine va_ldcS C0.1 C0.2.1 C0.2.2.2.1 (sr_15 hZ) dX5_atom_109 ?_
            refine y_ci h (y_rV (As := [.ref (Z.2.1 15)]) (rest := []) C0 hZ h (c_X5_isWord l G Z ad _ h.2 15 (by decide)) k_X5_isWord q_724 q_5 q_722 kSC_77 rfl rfl rfl hl.1 rfl rfl (Nat.le_of_ble_eq_true rfl) dX5_atom_111 ⟨Nat.le_of_ble_eq_true rfl, Nat.le_of_ble_eq_true rfl⟩ ⟨Nat.le_of_ble_eq_true rfl, Nat.le_of_ble_eq_true rfl⟩) (fun r_46 H locs ws_43 h u_44 p_45 => ?_)
            obtain ⟨e_47, e_48, e_49, e_50⟩ := p_45
            replace HE : FT = g19c_X5_atom_2 (xso SC ad ws_43) r_46.toInt := HE.trans (by rw [e_47, e_48]; rfl)
            replace HE : FT = g20b_X5_atom_2 (xso SC ad ws_43) r_46.toInt := HE.trans rfl
            refine y_if_eq (tgt := 123) C0 dX5_atom_114 (by decide) (fun c_51 => ?_) (fun c_51 => ?_)
            · -- 114
              replace HE : FT = g21_X5_atom_2 (xso SC ad ws_43) := HE.trans (if_pos c_51)
              refine lv_aload_n C0.1 C0.2.1 dX5_atom_123 rfl (lv_at hl 0 rfl) ?_
              refine va_ldcS C0.1 C0.2.1 C0.2.2.2.1 (sr_16 hZ) dX5_atom_124 ?_
              refine y_ci h (y_rV (As := [.ref (Z.2.1 16)]) (rest := []) C0 hZ h (c_X5_isWord l G Z ad _ h.2 16 (by decide)) k_X5_isWord q_724 q_5 q_722 kSC_77 rfl rfl rfl hl.1 rfl rfl (Nat.le_of_ble_eq_true rfl) dX5_atom_126 ⟨Nat.le_of_ble_eq_true rfl, Nat.le_of_ble_eq_true rfl⟩ ⟨Nat.le_of_ble_eq_true rfl, Nat.le_of_ble_eq_true rfl⟩) (fun r_55 H locs ws_52 h u_53 p_54 => ?_)
              obtain ⟨e_56, e_57, e_58, e_59⟩ := p_54
              replace HE : FT = g23c_X5_atom_2 (xso SC ad ws_52) r_55.toInt := HE.trans (by rw [e_56, e_57]; rfl)
              replace HE : FT = g24b_X5_atom_2 (xso SC ad ws_52) r_55.toInt := HE.trans rfl
              refine y_if_eq (tgt := 138) C0 dX5_atom_129 (by decide) (fun c_60 => ?_) (fun c_60 => ?_)
              · -- 129
                replace HE : FT = g25_X5_atom_2 (xso SC ad ws_52) := HE.trans (if_pos c_60)
                refine lv_aload_n C0.1 C0.2.1 dX5_atom_138 rfl (lv_at hl 0 rfl) ?_
                refine va_ldcS C0.1 C0.2.1 C0.2.2.2.1 (sr_17 hZ) dX5_atom_139 ?_
                refine y_ci h (y_rV (As := [.ref (Z.2.1 17)]) (rest := []) C0 hZ h (c_X5_isWord l G Z ad _ h.2 17 (by decide)) k_X5_isWord q_724 q_5 q_722 kSC_77 rfl rfl rfl hl.1 rfl rfl (Nat.le_of_ble_eq_true rfl) dX5_atom_141 ⟨Nat.le_of_ble_eq_true rfl, Nat.le_of_ble_eq_true rfl⟩ ⟨Nat.le_of_ble_eq_true rfl, Nat.le_of_ble_eq_true rfl⟩) (fun r_64 H locs ws_61 h u_62 p_63 => ?_)
                obtain ⟨e_65, e_66, e_67, e_68⟩ := p_63
                replace HE : FT = g27c_X5_atom_2 (xso SC ad ws_61) r_64.toInt := HE.trans (by rw [e_65, e_66]; rfl)
                replace HE : FT = g28b_X5_atom_2 (xso SC ad ws_61) r_64.toInt := HE.trans rfl
                refine y_if_eq (tgt := 153) C0 dX5_atom_144 (by decide) (fun c_69 => ?_) (fun c_69 => ?_)
                · -- 144
                  replace HE : FT = g29_X5_atom_2 (xso SC ad ws_61) := HE.trans (if_pos c_69)
                  refine y_c1 (n := (-1)) C0 (by decide) dX5_atom_153 (fun v_70 e_71 => ?_)
                  refine lv_istore_n (lv' := [(2, .int v_70), (0, .ref (ad 77)), (1, .int a1)]) C0.1 C0.2.1 dX5_atom_154 rfl hl (by decide) rfl (fun ls hl => ?_)
                  refine lv_iload_n C0.1 C0.2.1 dX5_atom_155 rfl (lv_at hl 0 rfl) ?_
                  refine y_if_ge (tgt := 165) C0 dX5_atom_156 (by decide) (fun c_72 => ((o24_11 e_71 c_72)).elim) (fun c_72 => ?_)
                  refine lv_aload_n C0.1 C0.2.1 dX5_atom_159 rfl (lv_at hl 1 rfl) ?_
                  refine y_c1 (n := 2) C0 (by decide) dX5_atom_160 (fun v_73 e_74 => ?_)
                  refine y_cv h (y_rV (As := [.int v_73]) (rest := []) C0 hZ h (c_X5_fail l G Z ad _ h.2 v_73) k_X5_fail q_628 q_3 q_626 kSC_77 rfl rfl rfl hl.1 rfl rfl (Nat.le_of_ble_eq_true rfl) dX5_atom_161 ⟨Nat.le_of_ble_eq_true rfl, Nat.le_of_ble_eq_true rfl⟩ ⟨Nat.le_of_ble_eq_true rfl, Nat.le_of_ble_eq_true rfl⟩) (fun H locs ws_75 h u_76 p_77 => ?_)
                  have e_78 := p_77
                  replace HE : FT = g31c_X5_atom_2 (xso SC ad ws_75) := HE.trans (by rw [e_78, e_74]; rfl)
                  replace HE : FT = ((xso SC ad ws_75), 0) := HE.trans rfl
                  rw [hQ]
                  exact y_vret C0 h (Fr.tr (Fr.tr (Fr.tr (Fr.tr (Fr.tr (Fr.tr (Fr.mono u_17 (by decide)) (Fr.mono u_26 (by decide))) (Fr.mono u_35 (by decide))) (Fr.mono u_44 (by decide))) (Fr.mono u_53 (by decide))) (Fr.mono u_62 (by decide))) (Fr.mono u_76 (by decide))) (congrArg Prod.fst (HE.symm.trans hFT)) dX5_atom_164
                · -- 144
                  replace HE : FT = g30_X5_atom_2 (xso SC ad ws_61) := HE.trans (if_neg c_69)
                  refine y_c3 (n := 1005) C0 (by decide) dX5_atom_147 (fun v_79 e_80 => ?_)
                  refine lv_goto (tgt := 154) C0.1 C0.2.1 dX5_atom_150 (by decide) ?_
                  refine lv_istore_n (lv' := [(2, .int v_79), (0, .ref (ad 77)), (1, .int a1)]) C0.1 C0.2.1 dX5_atom_154 rfl hl (by decide) rfl (fun ls hl => ?_)
                  refine lv_iload_n C0.1 C0.2.1 dX5_atom_155 rfl (lv_at hl 0 rfl) ?_
                  refine y_if_ge (tgt := 165) C0 dX5_atom_156 (by decide) (fun c_81 => ?_) (fun c_81 => ((o24_12 e_80 c_81)).elim)
                  refine lv_aload_n C0.1 C0.2.1 dX5_atom_165 rfl (lv_at hl 1 rfl) ?_
                  refine tg_X5_law C0 h kSC_77 q_380 dX5_atom_166 (fun i_82 hi_82 ei_82 => ?_)
                  refine lv_iload_n C0.1 C0.2.1 dX5_atom_169 rfl (lv_at hl 0 rfl) ?_
                  refine y_cv h (y_rV (As := [.int v_79]) (rest := []) C0 hZ h (c_X4_add l G Z ad _ h.2 i_82 hi_82 v_79) k_X4_add q_827 q_828 q_826 hi_82 rfl rfl rfl hl.1 rfl rfl (Nat.le_of_ble_eq_true rfl) dX5_atom_170 ⟨Nat.le_of_ble_eq_true rfl, Nat.le_of_ble_eq_true rfl⟩ ⟨Nat.le_of_ble_eq_true rfl, Nat.le_of_ble_eq_true rfl⟩) (fun H locs ws_83 h u_84 p_85 => ?_)
                  have e_86 := p_85
                  replace HE : FT = g32c_X5_atom_2 (xso SC ad ws_83) := HE.trans (by rw [e_86, e_80, ei_82]; rfl)
                  refine lv_aload_n C0.1 C0.2.1 dX5_atom_173 rfl (lv_at hl 1 rfl) ?_
                  refine y_cv h (y_rV (As := []) (rest := []) C0 hZ h (c_X5_advance l G Z ad _ h.2) k_X5_advance q_616 q_0 q_614 kSC_77 rfl rfl rfl hl.1 rfl rfl (Nat.le_of_ble_eq_true rfl) dX5_atom_174 ⟨Nat.le_of_ble_eq_true rfl, Nat.le_of_ble_eq_true rfl⟩ ⟨Nat.le_of_ble_eq_true rfl, Nat.le_of_ble_eq_true rfl⟩) (fun H locs ws_87 h u_88 p_89 => ?_)
                  have e_90 := p_89
                  replace HE : FT = g33c_X5_atom_2 (xso SC ad ws_87) := HE.trans (by rw [e_90]; rfl)
                  replace HE : FT = ((xso SC ad ws_87), 0) := HE.trans rfl
                  rw [hQ]
                  exact y_vret C0 h (Fr.tr (Fr.tr (Fr.tr (Fr.tr (Fr.tr (Fr.tr (Fr.tr (Fr.mono u_17 (by decide)) (Fr.mono u_26 (by decide))) (Fr.mono u_35 (by decide))) (Fr.mono u_44 (by decide))) (Fr.mono u_53 (by decide))) (Fr.mono u_62 (by decide))) (Fr.mono u_84 (by decide))) (Fr.mono u_88 (by decide))) (congrArg Prod.fst (HE.symm.trans hFT)) dX5_atom_177
              · -- 129
                replace HE : FT = g26_X5_atom_2 (xso SC ad ws_52) := HE.trans (if_neg c_60)
                refine y_c3 (n := 1004) C0 (by decide) dX5_atom_132 (fun v_91 e_92 => ?_)
                refine lv_goto (tgt := 154) C0.1 C0.2.1 dX5_atom_135 (by decide) ?_
                refine lv_istore_n (lv' := [(2, .int v_91), (0, .ref (ad 77)), (1, .int a1)]) C0.1 C0.2.1 dX5_atom_154 rfl hl (by decide) rfl (fun ls hl => ?_)
                refine lv_iload_n C0.1 C0.2.1 dX5_atom_155 rfl (lv_at hl 0 rfl) ?_
                refine y_if_ge (tgt := 165) C0 dX5_atom_156 (by decide) (fun c_93 => ?_) (fun c_93 => ((o24_13 e_92 c_93)).elim)
                refine lv_aload_n C0.1 C0.2.1 dX5_atom_165 rfl (lv_at hl 1 rfl) ?_
                refine tg_X5_law C0 h kSC_77 q_380 dX5_atom_166 (fun i_94 hi_94 ei_94 => ?_)
                refine lv_iload_n C0.1 C0.2.1 dX5_atom_169 rfl (lv_at hl 0 rfl) ?_
                refine y_cv h (y_rV (As := [.int v_91]) (rest := []) C0 hZ h (c_X4_add l G Z ad _ h.2 i_94 hi_94 v_91) k_X4_add q_827 q_828 q_826 hi_94 rfl rfl rfl hl.1 rfl rfl (Nat.le_of_ble_eq_true rfl) dX5_atom_170 ⟨Nat.le_of_ble_eq_true rfl, Nat.le_of_ble_eq_true rfl⟩ ⟨Nat.le_of_ble_eq_true rfl, Nat.le_of_ble_eq_true rfl⟩) (fun H locs ws_95 h u_96 p_97 => ?_)
                have e_98 := p_97
                replace HE : FT = g34c_X5_atom_2 (xso SC ad ws_95) := HE.trans (by rw [e_98, e_92, ei_94]; rfl)
                refine lv_aload_n C0.1 C0.2.1 dX5_atom_173 rfl (lv_at hl 1 rfl) ?_
                refine y_cv h (y_rV (As := []) (rest := []) C0 hZ h (c_X5_advance l G Z ad _ h.2) k_X5_advance q_616 q_0 q_614 kSC_77 rfl rfl rfl hl.1 rfl rfl (Nat.le_of_ble_eq_true rfl) dX5_atom_174 ⟨Nat.le_of_ble_eq_true rfl, Nat.le_of_ble_eq_true rfl⟩ ⟨Nat.le_of_ble_eq_true rfl, Nat.le_of_ble_eq_true rfl⟩) (fun H locs ws_99 h u_100 p_101 => ?_)
                have e_102 := p_101
                replace HE : FT = g35c_X5_atom_2 (xso SC ad ws_99) := HE.trans (by rw [e_102]; rfl)
                replace HE : FT = ((xso SC ad ws_99), 0) := HE.trans rfl
                rw [hQ]
                exact y_vret C0 h (Fr.tr (Fr.tr (Fr.tr (Fr.tr (Fr.tr (Fr.tr (Fr.mono u_17 (by decide)) (Fr.mono u_26 (by decide))) (Fr.mono u_35 (by decide))) (Fr.mono u_44 (by decide))) (Fr.mono u_53 (by decide))) (Fr.mono u_96 (by decide))) (Fr.mono u_100 (by decide))) (congrArg Prod.fst (HE.symm.trans hFT)) dX5_atom_177
            · -- 114
              replace HE : FT = g22_X5_atom_2 (xso SC ad ws_43) := HE.trans (if_neg c_51)
              refine y_c3 (n := 1003) C0 (by decide) dX5_atom_117 (fun v_103 e_104 => ?_)
              refine lv_goto (tgt := 154) C0.1 C0.2.1 dX5_atom_120 (by decide) ?_
              refine lv_istore_n (lv' := [(2, .int v_103), (0, .ref (ad 77)), (1, .int a1)]) C0.1 C0.2.1 dX5_atom_154 rfl hl (by decide) rfl (fun ls hl => ?_)
              refine lv_iload_n C0.1 C0.2.1 dX5_atom_155 rfl (lv_at hl 0 rfl) ?_
              refine y_if_ge (tgt := 165) C0 dX5_atom_156 (by decide) (fun c_105 => ?_) (fun c_105 => ((o24_14 e_104 c_105)).elim)
              refine lv_aload_n C0.1 C0.2.1 dX5_atom_165 rfl (lv_at hl 1 rfl) ?_
              refine tg_X5_law C0 h kSC_77 q_380 dX5_atom_166 (fun i_106 hi_106 ei_106 => ?_)
              refine lv_iload_n C0.1 C0.2.1 dX5_atom_169 rfl (lv_at hl 0 rfl) ?_
              refine y_cv h (y_rV (As := [.int v_103]) (rest := []) C0 hZ h (c_X4_add l G Z ad _ h.2 i_106 hi_106 v_103) k_X4_add q_827 q_828 q_826 hi_106 rfl rfl rfl hl.1 rfl rfl (Nat.le_of_ble_eq_true rfl) dX5_atom_170 ⟨Nat.le_of_ble_eq_true rfl, Nat.le_of_ble_eq_true rfl⟩ ⟨Nat.le_of_ble_eq_true rfl, Nat.le_of_ble_eq_true rfl⟩) (fun H locs ws_107 h u_108 p_109 => ?_)
              have e_110 := p_109
              replace HE : FT = g36c_X5_atom_2 (xso SC ad ws_107) := HE.trans (by rw [e_110, e_104, ei_106]; rfl)
              refine lv_aload_n C0.1 C0.2.1 dX5_atom_173 rfl (lv_at hl 1 rfl) ?_
              refine y_cv h (y_rV (As := []) (rest := []) C0 hZ h (c_X5_advance l G Z ad _ h.2) k_X5_advance q_616 q_0 q_614 kSC_77 rfl rfl rfl hl.1 rfl rfl (Nat.le_of_ble_eq_true rfl) dX5_atom_174 ⟨Nat.le_of_ble_eq_true rfl, Nat.le_of_ble_eq_true rfl⟩ ⟨Nat.le_of_ble_eq_true rfl, Nat.le_of_ble_eq_true rfl⟩) (fun H locs ws_111 h u_112 p_113 => ?_)
              have e_114 := p_113
              replace HE : FT = g37c_X5_atom_2 (xso SC ad ws_111) := HE.trans (by rw [e_114]; rfl)
              replace HE : FT = ((xso SC ad ws_111), 0) := HE.trans rfl
              rw [hQ]
              exact y_vret C0 h (Fr.tr (Fr.tr (Fr.tr (Fr.tr (Fr.tr (Fr.mono u_17 (by decide)) (Fr.mono u_26 (by decide))) (Fr.mono u_35 (by decide))) (Fr.mono u_44 (by decide))) (Fr.mono u_108 (by decide))) (Fr.mono u_112 (by decide))) (congrArg Prod.fst (HE.symm.trans hFT)) dX5_atom_177
          · -- 99
            replace HE : FT = g18_X5_atom_2 (xso SC ad ws_34) := HE.trans (if_neg c_42)
            refine y_c3 (n := 1002) C0 (by decide) dX5_atom_102 (fun v_115 e_116 => ?_)
            refine lv_goto (tgt := 154) C0.1 C0.2.1 dX5_atom_105 (by decide) ?_
            refine lv_istore_n (lv' := [(2, .int v_115), (0, .ref (ad 77)), (1, .int a1)]) C0.1 C0.2.1 dX5_atom_154 rfl hl (by decide) rfl (fun ls hl => ?_)
            refine lv_iload_n C0.1 C0.2.1 dX5_atom_155 rfl (lv_at hl 0 rfl) ?_
            refine y_if_ge (tgt := 165) C0 dX5_atom_156 (by decide) (fun c_117 => ?_) (fun c_117 => ((o24_15 e_116 c_117)).elim)
            refine lv_aload_n C0.1 C0.2.1 dX5_atom_165 rfl (lv_at hl 1 rfl) ?_
            refine tg_X5_law C0 h kSC_77 q_380 dX5_atom_166 (fun i_118 hi_118 ei_118 => ?_)
            refine lv_iload_n C0.1 C0.2.1 dX5_atom_169 rfl (lv_at hl 0 rfl) ?_
            refine y_cv h (y_rV (As := [.int v_115]) (rest := []) C0 hZ h (c_X4_add l G Z ad _ h.2 i_118 hi_118 v_115) k_X4_add q_827 q_828 q_826 hi_118 rfl rfl rfl hl.1 rfl rfl (Nat.le_of_ble_eq_true rfl) dX5_atom_170 ⟨Nat.le_of_ble_eq_true rfl, Nat.le_of_ble_eq_true rfl⟩ ⟨Nat.le_of_ble_eq_true rfl, Nat.le_of_ble_eq_true rfl⟩) (fun H locs ws_119 h u_120 p_121 => ?_)
            have e_122 := p_121
            replace HE : FT = g38c_X5_atom_2 (xso SC ad ws_119) := HE.trans (by rw [e_122, e_116, ei_118]; rfl)
            refine lv_aload_n C0.1 C0.2.1 dX5_atom_173 rfl (lv_at hl 1 rfl) ?_
            refine y_cv h (y_rV (As := []) (rest := []) C0 hZ h (c_X5_advance l G Z ad _ h.2) k_X5_advance q_616 q_0 q_614 kSC_77 rfl rfl rfl hl.1 rfl rfl (Nat.le_of_ble_eq_true rfl) dX5_atom_174 ⟨Nat.le_of_ble_eq_true rfl, Nat.le_of_ble_eq_true rfl⟩ ⟨Nat.le_of_ble_eq_true rfl, Nat.le_of_ble_eq_true rfl⟩) (fun H locs ws_123 h u_124 p_125 => ?_)
            have e_126 := p_125
            replace HE : FT = g39c_X5_atom_2 (xso SC ad ws_123) := HE.trans (by rw [e_126]; rfl)
            replace HE : FT = ((xso SC ad ws_123), 0) := HE.trans rfl
            rw [hQ]
            exact y_vret C0 h (Fr.tr (Fr.tr (Fr.tr (Fr.tr (Fr.mono u_17 (by decide)) (Fr.mono u_26 (by decide))) (Fr.mono u_35 (by decide))) (Fr.mono u_120 (by decide))) (Fr.mono u_124 (by decide))) (congrArg Prod.fst (HE.symm.trans hFT)) dX5_atom_177
        · -- 84
          replace HE : FT = g14_X5_atom_2 (xso SC ad ws_25) := HE.trans (if_neg c_33)
          refine y_c3 (n := 1001) C0 (by decide) dX5_atom_87 (fun v_127 e_128 => ?_)
          refine lv_goto (tgt := 154) C0.1 C0.2.1 dX5_atom_90 (by decide) ?_
          refine lv_istore_n (lv' := [(2, .int v_127), (0, .ref (ad 77)), (1, .int a1)]) C0.1 C0.2.1 dX5_atom_154 rfl hl (by decide) rfl (fun ls hl => ?_)
          refine lv_iload_n C0.1 C0.2.1 dX5_atom_155 rfl (lv_at hl 0 rfl) ?_
          refine y_if_ge (tgt := 165) C0 dX5_atom_156 (by decide) (fun c_129 => ?_) (fun c_129 => ((o24_16 e_128 c_129)).elim)
          refine lv_aload_n C0.1 C0.2.1 dX5_atom_165 rfl (lv_at hl 1 rfl) ?_
          refine tg_X5_law C0 h kSC_77 q_380 dX5_atom_166 (fun i_130 hi_130 ei_130 => ?_)
          refine lv_iload_n C0.1 C0.2.1 dX5_atom_169 rfl (lv_at hl 0 rfl) ?_
          refine y_cv h (y_rV (As := [.int v_127]) (rest := []) C0 hZ h (c_X4_add l G Z ad _ h.2 i_130 hi_130 v_127) k_X4_add q_827 q_828 q_826 hi_130 rfl rfl rfl hl.1 rfl rfl (Nat.le_of_ble_eq_true rfl) dX5_atom_170 ⟨Nat.le_of_ble_eq_true rfl, Nat.le_of_ble_eq_true rfl⟩ ⟨Nat.le_of_ble_eq_true rfl, Nat.le_of_ble_eq_true rfl⟩) (fun H locs ws_131 h u_132 p_133 => ?_)
          have e_134 := p_133
          replace HE : FT = g40c_X5_atom_2 (xso SC ad ws_131) := HE.trans (by rw [e_134, e_128, ei_130]; rfl)
          refine lv_aload_n C0.1 C0.2.1 dX5_atom_173 rfl (lv_at hl 1 rfl) ?_
          refine y_cv h (y_rV (As := []) (rest := []) C0 hZ h (c_X5_advance l G Z ad _ h.2) k_X5_advance q_616 q_0 q_614 kSC_77 rfl rfl rfl hl.1 rfl rfl (Nat.le_of_ble_eq_true rfl) dX5_atom_174 ⟨Nat.le_of_ble_eq_true rfl, Nat.le_of_ble_eq_true rfl⟩ ⟨Nat.le_of_ble_eq_true rfl, Nat.le_of_ble_eq_true rfl⟩) (fun H locs ws_135 h u_136 p_137 => ?_)
          have e_138 := p_137
          replace HE : FT = g41c_X5_atom_2 (xso SC ad ws_135) := HE.trans (by rw [e_138]; rfl)
          replace HE : FT = ((xso SC ad ws_135), 0) := HE.trans rfl
          rw [hQ]
          exact y_vret C0 h (Fr.tr (Fr.tr (Fr.tr (Fr.mono u_17 (by decide)) (Fr.mono u_26 (by decide))) (Fr.mono u_132 (by decide))) (Fr.mono u_136 (by decide))) (congrArg Prod.fst (HE.symm.trans hFT)) dX5_atom_177
      · -- 69
        replace HE : FT = g10_X5_atom_2 (xso SC ad ws_16) := HE.trans (if_neg c_24)
        refine y_c3 (n := 1000) C0 (by decide) dX5_atom_72 (fun v_139 e_140 => ?_)
        refine lv_goto (tgt := 154) C0.1 C0.2.1 dX5_atom_75 (by decide) ?_
        refine lv_istore_n (lv' := [(2, .int v_139), (0, .ref (ad 77)), (1, .int a1)]) C0.1 C0.2.1 dX5_atom_154 rfl hl (by decide) rfl (fun ls hl => ?_)
        refine lv_iload_n C0.1 C0.2.1 dX5_atom_155 rfl (lv_at hl 0 rfl) ?_
        refine y_if_ge (tgt := 165) C0 dX5_atom_156 (by decide) (fun c_141 => ?_) (fun c_141 => ((o24_17 e_140 c_141)).elim)
        refine lv_aload_n C0.1 C0.2.1 dX5_atom_165 rfl (lv_at hl 1 rfl) ?_
        refine tg_X5_law C0 h kSC_77 q_380 dX5_atom_166 (fun i_142 hi_142 ei_142 => ?_)
        refine lv_iload_n C0.1 C0.2.1 dX5_atom_169 rfl (lv_at hl 0 rfl) ?_
        refine y_cv h (y_rV (As := [.int v_139]) (rest := []) C0 hZ h (c_X4_add l G Z ad _ h.2 i_142 hi_142 v_139) k_X4_add q_827 q_828 q_826 hi_142 rfl rfl rfl hl.1 rfl rfl (Nat.le_of_ble_eq_true rfl) dX5_atom_170 ⟨Nat.le_of_ble_eq_true rfl, Nat.le_of_ble_eq_true rfl⟩ ⟨Nat.le_of_ble_eq_true rfl, Nat.le_of_ble_eq_true rfl⟩) (fun H locs ws_143 h u_144 p_145 => ?_)
        have e_146 := p_145
        replace HE : FT = g42c_X5_atom_2 (xso SC ad ws_143) := HE.trans (by rw [e_146, e_140, ei_142]; rfl)
        refine lv_aload_n C0.1 C0.2.1 dX5_atom_173 rfl (lv_at hl 1 rfl) ?_
        refine y_cv h (y_rV (As := []) (rest := []) C0 hZ h (c_X5_advance l G Z ad _ h.2) k_X5_advance q_616 q_0 q_614 kSC_77 rfl rfl rfl hl.1 rfl rfl (Nat.le_of_ble_eq_true rfl) dX5_atom_174 ⟨Nat.le_of_ble_eq_true rfl, Nat.le_of_ble_eq_true rfl⟩ ⟨Nat.le_of_ble_eq_true rfl, Nat.le_of_ble_eq_true rfl⟩) (fun H locs ws_147 h u_148 p_149 => ?_)
        have e_150 := p_149
        replace HE : FT = g43c_X5_atom_2 (xso SC ad ws_147) := HE.trans (by rw [e_150]; rfl)
        replace HE : FT = ((xso SC ad ws_147), 0) := HE.trans rfl
        rw [hQ]
        exact y_vret C0 h (Fr.tr (Fr.tr (Fr.mono u_17 (by decide)) (Fr.mono u_144 (by decide))) (Fr.mono u_148 (by decide))) (congrArg Prod.fst (HE.symm.trans hFT)) dX5_atom_177
    · -- 32
      replace HE : FT = g6_X5_atom_2 (xso SC ad ws0) := HE.trans (if_pos (o24_10 e_6 c_7 qh_12 e_14 c_15))
      refine lv_aload_n C0.1 C0.2.1 dX5_atom_35 rfl (lv_at hl 0 rfl) ?_
      refine lv_iload_n C0.1 C0.2.1 dX5_atom_36 rfl (lv_at hl 1 rfl) ?_
      refine y_ci h (y_rV (As := [.int a1]) (rest := []) C0 hZ h (c_X5_tooDeep_2 l G Z ad _ h.2 a1 (o24_100 l1 u1) (o24_101 l1 u1)) k_X5_tooDeep q_832 q_18 q_830 kSC_77 rfl rfl rfl hl.1 rfl rfl (Nat.le_of_ble_eq_true rfl) dX5_atom_37 ⟨Nat.le_of_ble_eq_true rfl, Nat.le_of_ble_eq_true rfl⟩ ⟨Nat.le_of_ble_eq_true rfl, Nat.le_of_ble_eq_true rfl⟩) (fun r_154 H locs ws_151 h u_152 p_153 => ?_)
      obtain ⟨e_155, e_156, e_157, e_158⟩ := p_153
      replace HE : FT = g44c_X5_atom_2 (xso SC ad ws_151) := HE.trans (by rw [e_155, (o24_102 l1 u1)]; rfl)
      refine y_if_ne (tgt := 177) C0 dX5_atom_40 (by decide) (fun c_159 => ((o24_71 e_157 e_158 c_159)).elim) (fun c_159 => ?_)
      refine lv_aload_n C0.1 C0.2.1 dX5_atom_43 rfl (lv_at hl 0 rfl) ?_
      refine y_cv h (y_rV (As := []) (rest := []) C0 hZ h (c_X5_advance l G Z ad _ h.2) k_X5_advance q_616 q_0 q_614 kSC_77 rfl rfl rfl hl.1 rfl rfl (Nat.le_of_ble_eq_true rfl) dX5_atom_44 ⟨Nat.le_of_ble_eq_true rfl, Nat.le_of_ble_eq_true rfl⟩ ⟨Nat.le_of_ble_eq_true rfl, Nat.le_of_ble_eq_true rfl⟩) (fun H locs ws_160 h u_161 p_162 => ?_)
      have e_163 := p_162
      replace HE : FT = g45c_X5_atom_2 (xso SC ad ws_160) := HE.trans (by rw [e_163]; rfl)
      refine lv_aload_n C0.1 C0.2.1 dX5_atom_47 rfl (lv_at hl 0 rfl) ?_
      refine lv_iload_n C0.1 C0.2.1 dX5_atom_48 rfl (lv_at hl 1 rfl) ?_
      refine y_c1 (n := 1) C0 (by decide) dX5_atom_49 (fun v_164 e_165 => ?_)
      refine y_add C0 (o24_103 l1 u1 e_165 (le_min a1) (le_max a1) (le_min v_164) (le_max v_164)) (o24_104 l1 u1 e_165 (le_min a1) (le_max a1) (le_min v_164) (le_max v_164)) dX5_atom_50 (fun v_166 e_167 => ?_)
      refine y_cv h (y_rV (As := [.int v_166]) (rest := []) C0 hZ h (c_X5_sum_3 l G Z ad _ h.2 v_166 (o24_105 l1 u1 e_165 e_167) (o24_106 l1 u1 e_165 e_167)) k_X5_sum q_816 q_15 q_814 kSC_77 rfl rfl rfl hl.1 rfl rfl (Nat.le_of_ble_eq_true rfl) dX5_atom_51 ⟨Nat.le_of_ble_eq_true rfl, Nat.le_of_ble_eq_true rfl⟩ ⟨Nat.le_of_ble_eq_true rfl, Nat.le_of_ble_eq_true rfl⟩) (fun H locs ws_168 h u_169 p_170 => ?_)
      have e_171 := p_170
      replace HE : FT = g46c_X5_atom_2 (xso SC ad ws_168) := HE.trans (by rw [e_171, e_167, e_165, (o24_107 l1 u1 e_165 e_167)]; rfl)
      refine lv_aload_n C0.1 C0.2.1 dX5_atom_54 rfl (lv_at hl 0 rfl) ?_
      refine y_c2 (n := 41) C0 (by decide) dX5_atom_55 (fun v_172 e_173 => ?_)
      refine y_cv h (y_rV (As := [.int v_172]) (rest := []) C0 hZ h (c_X5_sign l G Z ad _ h.2 v_172 (o24_77 e_173) (o24_78 e_173)) k_X5_sign q_812 q_14 q_810 kSC_77 rfl rfl rfl hl.1 rfl rfl (Nat.le_of_ble_eq_true rfl) dX5_atom_57 ⟨Nat.le_of_ble_eq_true rfl, Nat.le_of_ble_eq_true rfl⟩ ⟨Nat.le_of_ble_eq_true rfl, Nat.le_of_ble_eq_true rfl⟩) (fun H locs ws_174 h u_175 p_176 => ?_)
      have e_177 := p_176
      replace HE : FT = g47c_X5_atom_2 (xso SC ad ws_174) := HE.trans (by rw [e_177, e_173]; rfl)
      refine lv_goto (tgt := 177) C0.1 C0.2.1 dX5_atom_60 (by decide) ?_
      replace HE : FT = ((xso SC ad ws_174), 0) := HE.trans rfl
      rw [hQ]
      exact y_vret C0 h (Fr.tr (Fr.tr (Fr.tr (Fr.mono u_152 (by decide)) (Fr.mono u_161 (by decide))) u_169) (Fr.mono u_175 (by decide))) (congrArg Prod.fst (HE.symm.trans hFT)) dX5_atom_177
  · -- 5
    replace HE : FT = g3_X5_atom_2 (xso SC ad ws0) := HE.trans (if_pos (o24_7 e_6 c_7))
    refine lv_aload_n C0.1 C0.2.1 dX5_atom_8 rfl (lv_at hl 0 rfl) ?_
    refine tg_X5_law C0 h kSC_77 q_380 dX5_atom_9 (fun i_178 hi_178 ei_178 => ?_)
    refine lv_aload_n C0.1 C0.2.1 dX5_atom_12 rfl (lv_at hl 0 rfl) ?_
    refine tg_X5_number C0 h kSC_77 q_377 dX5_atom_13 (fun v_179 e_180 e_181 e_182 => ?_)
    refine y_cv h (y_rV (As := [.int v_179]) (rest := []) C0 hZ h (c_X4_add l G Z ad _ h.2 i_178 hi_178 v_179) k_X4_add q_827 q_828 q_826 hi_178 rfl rfl rfl hl.1 rfl rfl (Nat.le_of_ble_eq_true rfl) dX5_atom_16 ⟨Nat.le_of_ble_eq_true rfl, Nat.le_of_ble_eq_true rfl⟩ ⟨Nat.le_of_ble_eq_true rfl, Nat.le_of_ble_eq_true rfl⟩) (fun H locs ws_183 h u_184 p_185 => ?_)
    have e_186 := p_185
    replace HE : FT = g48c_X5_atom_2 (xso SC ad ws_183) := HE.trans (by rw [e_186, (xg0 e_180 : v_179.toInt = (xso SC ad ws0) 0 77 7), ei_178]; rfl)
    refine lv_aload_n C0.1 C0.2.1 dX5_atom_19 rfl (lv_at hl 0 rfl) ?_
    refine y_cv h (y_rV (As := []) (rest := []) C0 hZ h (c_X5_advance l G Z ad _ h.2) k_X5_advance q_616 q_0 q_614 kSC_77 rfl rfl rfl hl.1 rfl rfl (Nat.le_of_ble_eq_true rfl) dX5_atom_20 ⟨Nat.le_of_ble_eq_true rfl, Nat.le_of_ble_eq_true rfl⟩ ⟨Nat.le_of_ble_eq_true rfl, Nat.le_of_ble_eq_true rfl⟩) (fun H locs ws_187 h u_188 p_189 => ?_)
    have e_190 := p_189
    replace HE : FT = g49c_X5_atom_2 (xso SC ad ws_187) := HE.trans (by rw [e_190]; rfl)
    refine lv_goto (tgt := 177) C0.1 C0.2.1 dX5_atom_23 (by decide) ?_
    replace HE : FT = ((xso SC ad ws_187), 0) := HE.trans rfl
    rw [hQ]
    exact y_vret C0 h (Fr.tr (Fr.mono u_184 (by decide)) (Fr.mono u_188 (by decide))) (congrArg Prod.fst (HE.symm.trans hFT)) dX5_atom_177
noncomputable def g5_X5_term_2 (s : XS) : XR := (s, 0)
noncomputable def g8_X5_term_2 (s : XS) : XR := (s, 0)
noncomputable def g12c_X5_term_2 (R7 : XS → Int → XR) (s : XS) (x2_7 : Int) : XR := R7 s ((x2_7 + 1))
noncomputable def g11c_X5_term_2 (R7 : XS → Int → XR) (s : XS) (x2_7 : Int) : XR := g12c_X5_term_2 R7 ((f_X4_add s (Int.toNat (s 3 77 10)) 2002).1) x2_7
noncomputable def g10c_X5_term_2 (R7 : XS → Int → XR) (s : XS) (x2_7 : Int) : XR := g11c_X5_term_2 R7 ((f_X5_atom_2 s 2).1) x2_7
noncomputable def g9_X5_term_2 (R7 : XS → Int → XR) (s : XS) (x2_7 : Int) : XR := g10c_X5_term_2 R7 ((f_X5_advance s).1) x2_7
noncomputable def g7b_X5_term_2 (R7 : XS → Int → XR) (s : XS) (v_19 : Int) (x2_7 : Int) : XR := if v_19 = 42 then g9_X5_term_2 R7 s x2_7 else g8_X5_term_2 s
noncomputable def g6_X5_term_2 (R7 : XS → Int → XR) (s : XS) (x2_7 : Int) : XR := g7b_X5_term_2 R7 s ((s 0 77 4)) x2_7
noncomputable def g4b_X5_term_2 (R7 : XS → Int → XR) (s : XS) (x2_7 : Int) : XR := if x2_7 < 900 then g6_X5_term_2 R7 s x2_7 else g5_X5_term_2 s
noncomputable def g3l_X5_term_2 (R7 : XS → Int → XR) (s : XS) (x2_7 : Int) : XR := g4b_X5_term_2 R7 s x2_7
noncomputable def L2_X5_term_2 (n : Nat) : XS → Int → XR := Nat.rec (motive := fun _ => XS → Int → XR) (fun s _ => (s, 0)) (fun _ R7 => g3l_X5_term_2 R7) n
noncomputable def g1c_X5_term_2 (s : XS) : XR := L2_X5_term_2 (Int.toNat (900 - 0 + 1)) s 0
noncomputable def f_X5_term_2 (s : XS) (a1 : Int) : XR := g1c_X5_term_2 ((f_X5_atom_2 s a1).1)
set_option maxHeartbeats 4000000 in
set_option maxRecDepth 100000 in
theorem c_X5_term_2 (l : Launch) (G : GG) (Z : RZ) (ad : Nat → Nat) (ws0 : va_W) (hT : Ty G SC ad ws0) (a1 : Int32) (l1 : 2 ≤ a1.toInt) (u1 : a1.toInt ≤ 2) : Mq l yX5_term cX5_term 3 none 19 G Z [.ref (ad 77), .int a1] ws0 (PV G SC ad [2, 3, 16] ws0 (fun u => (xso SC ad u = (f_X5_term_2 (xso SC ad ws0) a1.toInt).1))) := by
  refine Mq.start (by decide) (Nat.le_of_ble_eq_true rfl) ?_
  intro p e s m below meth c A ls C0 hZ h hl
  have hl : lv_has ls 3 [(0, .ref (ad 77)), (1, .int a1)] := hl
  have h : Wt G SC ad A s s.heap [] ws0 := ⟨h, hT⟩
  obtain ⟨args, hargs⟩ : ∃ z, z = ([.ref (ad 77), .int a1] : List Value).toArray := ⟨_, rfl⟩
  rw [← hargs] at C0 ⊢
  have C0 : Cx p s m args meth c RX5 cX5_term 3 none := C0
  obtain ⟨Q, hQ⟩ : ∃ z, z = MQ below ((PV G SC ad [2, 3, 16] ws0 (fun u => (xso SC ad u = (f_X5_term_2 (xso SC ad ws0) a1.toInt).1))) A) args s 0 0 A := ⟨_, rfl⟩
  rw [← hQ]
  obtain ⟨FT, hFT⟩ : ∃ z, z = f_X5_term_2 (xso SC ad ws0) a1.toInt := ⟨_, rfl⟩
  have HE : FT = f_X5_term_2 (xso SC ad ws0) a1.toInt := hFT
  refine lv_aload_n C0.1 C0.2.1 dX5_term_0 rfl (lv_at hl 0 rfl) ?_
  refine lv_iload_n C0.1 C0.2.1 dX5_term_1 rfl (lv_at hl 1 rfl) ?_
  refine y_cv h (y_rV (As := [.int a1]) (rest := []) C0 hZ h (c_X5_atom_2 l G Z ad _ h.2 a1 (o24_100 l1 u1) (o24_101 l1 u1)) k_X5_atom q_824 q_17 q_822 kSC_77 rfl rfl rfl hl.1 rfl rfl (Nat.le_of_ble_eq_true rfl) dX5_term_2 ⟨Nat.le_of_ble_eq_true rfl, Nat.le_of_ble_eq_true rfl⟩ ⟨Nat.le_of_ble_eq_true rfl, Nat.le_of_ble_eq_true rfl⟩) (fun H locs ws_1 h u_2 p_3 => ?_)
  have e_4 := p_3
  replace HE : FT = g1c_X5_term_2 (xso SC ad ws_1) := HE.trans (by rw [e_4]; rfl)
  refine y_c1 (n := 0) C0 (by decide) dX5_term_5 (fun v_5 e_6 => ?_)
  refine lv_istore_n (lv' := [(2, .int v_5), (0, .ref (ad 77)), (1, .int a1)]) C0.1 C0.2.1 dX5_term_6 rfl hl (by decide) rfl (fun ls hl => ?_)
  have lp_10 : ∀ (n_12 : Nat) (x2_7 : Int32) (H : Heap) (locs : List Loc) (ls : Array Slot) (ws_8 : va_W), 900 - x2_7.toInt < (n_12 : Int) → 0 ≤ x2_7.toInt → x2_7.toInt ≤ 900 → (FT = L2_X5_term_2 n_12 (xso SC ad ws_8) x2_7.toInt) → Wt G SC ad A s H locs ws_8 → Fr SC [2, 3, 16] ws_1 ws_8 → lv_has ls 3 [(2, .int x2_7), (0, .ref (ad 77)), (1, .int a1)] → W p l e (rmd 19 0 0) s m args below meth c H locs 0 0 Q (F0 m 7 ls []) := by
    intro n_12
    induction n_12 with
    | zero => intro x2_7 H locs ls ws_8 hn_13 b_14 b_15 HE h hF_9 hl; exact ((o24_22 b_14 b_15 hn_13)).elim
    | succ n_12 ih_11 =>
      intro x2_7 H locs ls ws_8 hn_13 b_14 b_15 HE h hF_9 hl
      obtain ⟨R7, hR7⟩ : ∃ z, z = L2_X5_term_2 n_12 := ⟨_, rfl⟩
      replace HE : FT = g3l_X5_term_2 R7 (xso SC ad ws_8) x2_7.toInt := HE.trans (by rw [hR7]; rfl)
      refine lv_iload_n C0.1 C0.2.1 dX5_term_7 rfl (lv_at hl 0 rfl) ?_
      refine y_c3 (n := 900) C0 (by decide) dX5_term_8 (fun v_16 e_17 => ?_)
      replace HE : FT = g4b_X5_term_2 R7 (xso SC ad ws_8) x2_7.toInt := HE.trans rfl
      refine y_icmp_ge (tgt := 48) C0 dX5_term_11 (by decide) (fun c_18 => ?_) (fun c_18 => ?_)
      · -- 11
        replace HE : FT = g5_X5_term_2 (xso SC ad ws_8) := HE.trans (if_neg (o24_24 b_14 b_15 hn_13 e_17 c_18))
        replace HE : FT = ((xso SC ad ws_8), 0) := HE.trans rfl
        rw [hQ]
        exact y_vret C0 h (Fr.tr u_2 hF_9) (congrArg Prod.fst (HE.symm.trans hFT)) dX5_term_48
      · -- 11
        replace HE : FT = g6_X5_term_2 R7 (xso SC ad ws_8) x2_7.toInt := HE.trans (if_pos (o24_25 b_14 b_15 hn_13 e_17 c_18))
        refine lv_aload_n C0.1 C0.2.1 dX5_term_14 rfl (lv_at hl 1 rfl) ?_
        refine tg_X5_kind C0 h kSC_77 q_374 dX5_term_15 (fun v_19 e_20 e_21 e_22 => ?_)
        refine y_c2 (n := 42) C0 (by decide) dX5_term_18 (fun v_23 e_24 => ?_)
        replace HE : FT = g7b_X5_term_2 R7 (xso SC ad ws_8) v_19.toInt x2_7.toInt := HE.trans (by rw [(xg0 e_20 : v_19.toInt = (xso SC ad ws_8) 0 77 4)]; rfl)
        refine y_icmp_ne (tgt := 48) C0 dX5_term_20 (by decide) (fun c_25 => ?_) (fun c_25 => ?_)
        · -- 20
          replace HE : FT = g8_X5_term_2 (xso SC ad ws_8) := HE.trans (if_neg (o24_27 e_24 c_25))
          replace HE : FT = ((xso SC ad ws_8), 0) := HE.trans rfl
          rw [hQ]
          exact y_vret C0 h (Fr.tr u_2 hF_9) (congrArg Prod.fst (HE.symm.trans hFT)) dX5_term_48
        · -- 20
          replace HE : FT = g9_X5_term_2 R7 (xso SC ad ws_8) x2_7.toInt := HE.trans (if_pos (o24_28 e_24 c_25))
          refine lv_aload_n C0.1 C0.2.1 dX5_term_23 rfl (lv_at hl 1 rfl) ?_
          refine y_cv h (y_rV (As := []) (rest := []) C0 hZ h (c_X5_advance l G Z ad _ h.2) k_X5_advance q_616 q_0 q_614 kSC_77 rfl rfl rfl hl.1 rfl rfl (Nat.le_of_ble_eq_true rfl) dX5_term_24 ⟨Nat.le_of_ble_eq_true rfl, Nat.le_of_ble_eq_true rfl⟩ ⟨Nat.le_of_ble_eq_true rfl, Nat.le_of_ble_eq_true rfl⟩) (fun H locs ws_26 h u_27 p_28 => ?_)
          have e_29 := p_28
          replace HE : FT = g10c_X5_term_2 R7 (xso SC ad ws_26) x2_7.toInt := HE.trans (by rw [e_29]; rfl)
          refine lv_aload_n C0.1 C0.2.1 dX5_term_27 rfl (lv_at hl 1 rfl) ?_
          refine lv_iload_n C0.1 C0.2.1 dX5_term_28 rfl (lv_at hl 2 rfl) ?_
          refine y_cv h (y_rV (As := [.int a1]) (rest := []) C0 hZ h (c_X5_atom_2 l G Z ad _ h.2 a1 (o24_100 l1 u1) (o24_101 l1 u1)) k_X5_atom q_824 q_17 q_822 kSC_77 rfl rfl rfl hl.1 rfl rfl (Nat.le_of_ble_eq_true rfl) dX5_term_29 ⟨Nat.le_of_ble_eq_true rfl, Nat.le_of_ble_eq_true rfl⟩ ⟨Nat.le_of_ble_eq_true rfl, Nat.le_of_ble_eq_true rfl⟩) (fun H locs ws_30 h u_31 p_32 => ?_)
          have e_33 := p_32
          replace HE : FT = g11c_X5_term_2 R7 (xso SC ad ws_30) x2_7.toInt := HE.trans (by rw [e_33, (o24_102 l1 u1)]; rfl)
          refine lv_aload_n C0.1 C0.2.1 dX5_term_32 rfl (lv_at hl 1 rfl) ?_
          refine tg_X5_law C0 h kSC_77 q_380 dX5_term_33 (fun i_34 hi_34 ei_34 => ?_)
          refine y_c3 (n := 2002) C0 (by decide) dX5_term_36 (fun v_35 e_36 => ?_)
          refine y_cv h (y_rV (As := [.int v_35]) (rest := []) C0 hZ h (c_X4_add l G Z ad _ h.2 i_34 hi_34 v_35) k_X4_add q_827 q_828 q_826 hi_34 rfl rfl rfl hl.1 rfl rfl (Nat.le_of_ble_eq_true rfl) dX5_term_39 ⟨Nat.le_of_ble_eq_true rfl, Nat.le_of_ble_eq_true rfl⟩ ⟨Nat.le_of_ble_eq_true rfl, Nat.le_of_ble_eq_true rfl⟩) (fun H locs ws_37 h u_38 p_39 => ?_)
          have e_40 := p_39
          replace HE : FT = g12c_X5_term_2 R7 (xso SC ad ws_37) x2_7.toInt := HE.trans (by rw [e_40, e_36, ei_34]; rfl)
          refine y_inc (kp := 0) (n := 1) (fun v_41 => [(2, .int v_41), (0, .ref (ad 77)), (1, .int a1)]) C0 hl rfl (by decide) (by decide) (fun _ => rfl) (o24_29 b_14 b_15 hn_13 e_17 c_18 (le_min x2_7) (le_max x2_7) (le_min v_16) (le_max v_16)) (o24_30 b_14 b_15 hn_13 e_17 c_18 (le_min x2_7) (le_max x2_7) (le_min v_16) (le_max v_16)) dX5_term_42 (fun v_41 ls e_42 hl => ?_)
          refine lv_goto (tgt := 7) C0.1 C0.2.1 dX5_term_45 (by decide) ?_
          exact ih_11 v_41 _ _ _ _ (o24_31 b_14 b_15 hn_13 e_17 c_18 e_42) (o24_32 b_14 b_15 hn_13 e_17 c_18 e_42) (o24_33 b_14 b_15 hn_13 e_17 c_18 e_42) (((show FT = R7 (xso SC ad ws_37) v_41.toInt from HE.trans (by rw [e_42]; rfl)).trans (by rw [hR7]))) h (Fr.tr (Fr.tr (Fr.tr hF_9 (Fr.mono u_27 (by decide))) u_31) (Fr.mono u_38 (by decide))) (lv_sub hl [0, 1, 2] rfl)
  exact lp_10 ((900 - v_5.toInt + 1).toNat) v_5 _ _ _ _ (o24_34 e_6) (o24_35 e_6) (o24_36 e_6) ((show FT = L2_X5_term_2 (Int.toNat (900 - v_5.toInt + 1)) (xso SC ad ws_1) v_5.toInt from HE.trans (by rw [e_6]; rfl))) h Fr.rf (lv_sub hl [0, 1, 2] rfl)
noncomputable def g5_X5_sum_2 (s : XS) : XR := (s, 0)
noncomputable def g12c_X5_sum_2 (R7 : XS → Int → XR) (s : XS) (x2_7 : Int) : XR := R7 s ((x2_7 + 1))
noncomputable def g11c_X5_sum_2 (R7 : XS → Int → XR) (s : XS) (x2_7 : Int) : XR := g12c_X5_sum_2 R7 ((f_X4_add s (Int.toNat (s 3 77 10)) 2000).1) x2_7
noncomputable def g10c_X5_sum_2 (R7 : XS → Int → XR) (s : XS) (x2_7 : Int) : XR := g11c_X5_sum_2 R7 ((f_X5_term_2 s 2).1) x2_7
noncomputable def g8_X5_sum_2 (R7 : XS → Int → XR) (s : XS) (x2_7 : Int) : XR := g10c_X5_sum_2 R7 ((f_X5_advance s).1) x2_7
noncomputable def g14_X5_sum_2 (s : XS) : XR := (s, 0)
noncomputable def g18c_X5_sum_2 (R7 : XS → Int → XR) (s : XS) (x2_7 : Int) : XR := R7 s ((x2_7 + 1))
noncomputable def g17c_X5_sum_2 (R7 : XS → Int → XR) (s : XS) (x2_7 : Int) : XR := g18c_X5_sum_2 R7 ((f_X4_add s (Int.toNat (s 3 77 10)) 2001).1) x2_7
noncomputable def g16c_X5_sum_2 (R7 : XS → Int → XR) (s : XS) (x2_7 : Int) : XR := g17c_X5_sum_2 R7 ((f_X5_term_2 s 2).1) x2_7
noncomputable def g15_X5_sum_2 (R7 : XS → Int → XR) (s : XS) (x2_7 : Int) : XR := g16c_X5_sum_2 R7 ((f_X5_advance s).1) x2_7
noncomputable def g13b_X5_sum_2 (R7 : XS → Int → XR) (s : XS) (v_51 : Int) (x2_7 : Int) : XR := if v_51 = 45 then g15_X5_sum_2 R7 s x2_7 else g14_X5_sum_2 s
noncomputable def g9_X5_sum_2 (R7 : XS → Int → XR) (s : XS) (x2_7 : Int) : XR := g13b_X5_sum_2 R7 s ((s 0 77 4)) x2_7
noncomputable def g7b_X5_sum_2 (R7 : XS → Int → XR) (s : XS) (v_19 : Int) (x2_7 : Int) : XR := if v_19 = 43 then g8_X5_sum_2 R7 s x2_7 else g9_X5_sum_2 R7 s x2_7
noncomputable def g6_X5_sum_2 (R7 : XS → Int → XR) (s : XS) (x2_7 : Int) : XR := g7b_X5_sum_2 R7 s ((s 0 77 4)) x2_7
noncomputable def g4b_X5_sum_2 (R7 : XS → Int → XR) (s : XS) (x2_7 : Int) : XR := if x2_7 < 900 then g6_X5_sum_2 R7 s x2_7 else g5_X5_sum_2 s
noncomputable def g3l_X5_sum_2 (R7 : XS → Int → XR) (s : XS) (x2_7 : Int) : XR := g4b_X5_sum_2 R7 s x2_7
noncomputable def L2_X5_sum_2 (n : Nat) : XS → Int → XR := Nat.rec (motive := fun _ => XS → Int → XR) (fun s _ => (s, 0)) (fun _ R7 => g3l_X5_sum_2 R7) n
noncomputable def g1c_X5_sum_2 (s : XS) : XR := L2_X5_sum_2 (Int.toNat (900 - 0 + 1)) s 0
noncomputable def f_X5_sum_2 (s : XS) (a1 : Int) : XR := g1c_X5_sum_2 ((f_X5_term_2 s a1).1)
set_option maxHeartbeats 4000000 in
set_option maxRecDepth 100000 in
theorem c_X5_sum_2 (l : Launch) (G : GG) (Z : RZ) (ad : Nat → Nat) (ws0 : va_W) (hT : Ty G SC ad ws0) (a1 : Int32) (l1 : 2 ≤ a1.toInt) (u1 : a1.toInt ≤ 2) : Mq l yX5_sum cX5_sum 4 none 20 G Z [.ref (ad 77), .int a1] ws0 (PV G SC ad [2, 3, 16] ws0 (fun u => (xso SC ad u = (f_X5_sum_2 (xso SC ad ws0) a1.toInt).1))) := by
  refine Mq.start (by decide) (Nat.le_of_ble_eq_true rfl) ?_
  intro p e s m below meth c A ls C0 hZ h hl
  have hl : lv_has ls 4 [(0, .ref (ad 77)), (1, .int a1)] := hl
  have h : Wt G SC ad A s s.heap [] ws0 := ⟨h, hT⟩
  obtain ⟨args, hargs⟩ : ∃ z, z = ([.ref (ad 77), .int a1] : List Value).toArray := ⟨_, rfl⟩
  rw [← hargs] at C0 ⊢
  have C0 : Cx p s m args meth c RX5 cX5_sum 4 none := C0
  obtain ⟨Q, hQ⟩ : ∃ z, z = MQ below ((PV G SC ad [2, 3, 16] ws0 (fun u => (xso SC ad u = (f_X5_sum_2 (xso SC ad ws0) a1.toInt).1))) A) args s 0 0 A := ⟨_, rfl⟩
  rw [← hQ]
  obtain ⟨FT, hFT⟩ : ∃ z, z = f_X5_sum_2 (xso SC ad ws0) a1.toInt := ⟨_, rfl⟩
  have HE : FT = f_X5_sum_2 (xso SC ad ws0) a1.toInt := hFT
  refine lv_aload_n C0.1 C0.2.1 dX5_sum_0 rfl (lv_at hl 0 rfl) ?_
  refine lv_iload_n C0.1 C0.2.1 dX5_sum_1 rfl (lv_at hl 1 rfl) ?_
  refine y_cv h (y_rV (As := [.int a1]) (rest := []) C0 hZ h (c_X5_term_2 l G Z ad _ h.2 a1 (o24_100 l1 u1) (o24_101 l1 u1)) k_X5_term q_820 q_16 q_818 kSC_77 rfl rfl rfl hl.1 rfl rfl (Nat.le_of_ble_eq_true rfl) dX5_sum_2 ⟨Nat.le_of_ble_eq_true rfl, Nat.le_of_ble_eq_true rfl⟩ ⟨Nat.le_of_ble_eq_true rfl, Nat.le_of_ble_eq_true rfl⟩) (fun H locs ws_1 h u_2 p_3 => ?_)
  have e_4 := p_3
  replace HE : FT = g1c_X5_sum_2 (xso SC ad ws_1) := HE.trans (by rw [e_4]; rfl)
  refine y_c1 (n := 0) C0 (by decide) dX5_sum_5 (fun v_5 e_6 => ?_)
  refine lv_istore_n (lv' := [(2, .int v_5), (0, .ref (ad 77)), (1, .int a1)]) C0.1 C0.2.1 dX5_sum_6 rfl hl (by decide) rfl (fun ls hl => ?_)
  have lp_10 : ∀ (n_12 : Nat) (x2_7 : Int32) (H : Heap) (locs : List Loc) (ls : Array Slot) (ws_8 : va_W), 900 - x2_7.toInt < (n_12 : Int) → 0 ≤ x2_7.toInt → x2_7.toInt ≤ 900 → (FT = L2_X5_sum_2 n_12 (xso SC ad ws_8) x2_7.toInt) → Wt G SC ad A s H locs ws_8 → Fr SC [2, 3, 16] ws_1 ws_8 → lv_has ls 4 [(2, .int x2_7), (0, .ref (ad 77)), (1, .int a1)] → W p l e (rmd 20 0 0) s m args below meth c H locs 0 0 Q (F0 m 7 ls []) := by
    intro n_12
    induction n_12 with
    | zero => intro x2_7 H locs ls ws_8 hn_13 b_14 b_15 HE h hF_9 hl; exact ((o24_22 b_14 b_15 hn_13)).elim
    | succ n_12 ih_11 =>
      intro x2_7 H locs ls ws_8 hn_13 b_14 b_15 HE h hF_9 hl
      obtain ⟨R7, hR7⟩ : ∃ z, z = L2_X5_sum_2 n_12 := ⟨_, rfl⟩
      replace HE : FT = g3l_X5_sum_2 R7 (xso SC ad ws_8) x2_7.toInt := HE.trans (by rw [hR7]; rfl)
      refine lv_iload_n C0.1 C0.2.1 dX5_sum_7 rfl (lv_at hl 0 rfl) ?_
      refine y_c3 (n := 900) C0 (by decide) dX5_sum_8 (fun v_16 e_17 => ?_)
      replace HE : FT = g4b_X5_sum_2 R7 (xso SC ad ws_8) x2_7.toInt := HE.trans rfl
      refine y_icmp_ge (tgt := 74) C0 dX5_sum_11 (by decide) (fun c_18 => ?_) (fun c_18 => ?_)
      · -- 11
        replace HE : FT = g5_X5_sum_2 (xso SC ad ws_8) := HE.trans (if_neg (o24_24 b_14 b_15 hn_13 e_17 c_18))
        replace HE : FT = ((xso SC ad ws_8), 0) := HE.trans rfl
        rw [hQ]
        exact y_vret C0 h (Fr.tr u_2 hF_9) (congrArg Prod.fst (HE.symm.trans hFT)) dX5_sum_74
      · -- 11
        replace HE : FT = g6_X5_sum_2 R7 (xso SC ad ws_8) x2_7.toInt := HE.trans (if_pos (o24_25 b_14 b_15 hn_13 e_17 c_18))
        refine lv_aload_n C0.1 C0.2.1 dX5_sum_14 rfl (lv_at hl 1 rfl) ?_
        refine tg_X5_kind C0 h kSC_77 q_374 dX5_sum_15 (fun v_19 e_20 e_21 e_22 => ?_)
        refine y_c2 (n := 43) C0 (by decide) dX5_sum_18 (fun v_23 e_24 => ?_)
        replace HE : FT = g7b_X5_sum_2 R7 (xso SC ad ws_8) v_19.toInt x2_7.toInt := HE.trans (by rw [(xg0 e_20 : v_19.toInt = (xso SC ad ws_8) 0 77 4)]; rfl)
        refine y_icmp_eq (tgt := 32) C0 dX5_sum_20 (by decide) (fun c_25 => ?_) (fun c_25 => ?_)
        · -- 20
          replace HE : FT = g8_X5_sum_2 R7 (xso SC ad ws_8) x2_7.toInt := HE.trans (if_pos (o24_38 e_24 c_25))
          refine lv_aload_n C0.1 C0.2.1 dX5_sum_32 rfl (lv_at hl 1 rfl) ?_
          refine tg_X5_kind C0 h kSC_77 q_374 dX5_sum_33 (fun v_26 e_27 e_28 e_29 => ?_)
          have qh_30 : v_26.toInt = v_19.toInt := congrArg Int32.toInt (e_27.symm.trans (Eq.trans rfl e_20))
          refine y_c2 (n := 43) C0 (by decide) dX5_sum_36 (fun v_31 e_32 => ?_)
          refine y_icmp_ne (tgt := 47) C0 dX5_sum_38 (by decide) (fun c_33 => ((o24_40 e_24 c_25 qh_30 e_32 c_33)).elim) (fun c_33 => ?_)
          refine y_c3 (n := 2000) C0 (by decide) dX5_sum_41 (fun v_34 e_35 => ?_)
          refine lv_goto (tgt := 50) C0.1 C0.2.1 dX5_sum_44 (by decide) ?_
          refine lv_istore_n (lv' := [(3, .int v_34), (2, .int x2_7), (0, .ref (ad 77)), (1, .int a1)]) C0.1 C0.2.1 dX5_sum_50 rfl hl (by decide) rfl (fun ls hl => ?_)
          refine lv_aload_n C0.1 C0.2.1 dX5_sum_51 rfl (lv_at hl 2 rfl) ?_
          refine y_cv h (y_rV (As := []) (rest := []) C0 hZ h (c_X5_advance l G Z ad _ h.2) k_X5_advance q_616 q_0 q_614 kSC_77 rfl rfl rfl hl.1 rfl rfl (Nat.le_of_ble_eq_true rfl) dX5_sum_52 ⟨Nat.le_of_ble_eq_true rfl, Nat.le_of_ble_eq_true rfl⟩ ⟨Nat.le_of_ble_eq_true rfl, Nat.le_of_ble_eq_true rfl⟩) (fun H locs ws_36 h u_37 p_38 => ?_)
          have e_39 := p_38
          replace HE : FT = g10c_X5_sum_2 R7 (xso SC ad ws_36) x2_7.toInt := HE.trans (by rw [e_39]; rfl)
          refine lv_aload_n C0.1 C0.2.1 dX5_sum_55 rfl (lv_at hl 2 rfl) ?_
          refine lv_iload_n C0.1 C0.2.1 dX5_sum_56 rfl (lv_at hl 3 rfl) ?_
          refine y_cv h (y_rV (As := [.int a1]) (rest := []) C0 hZ h (c_X5_term_2 l G Z ad _ h.2 a1 (o24_100 l1 u1) (o24_101 l1 u1)) k_X5_term q_820 q_16 q_818 kSC_77 rfl rfl rfl hl.1 rfl rfl (Nat.le_of_ble_eq_true rfl) dX5_sum_57 ⟨Nat.le_of_ble_eq_true rfl, Nat.le_of_ble_eq_true rfl⟩ ⟨Nat.le_of_ble_eq_true rfl, Nat.le_of_ble_eq_true rfl⟩) (fun H locs ws_40 h u_41 p_42 => ?_)
          have e_43 := p_42
          replace HE : FT = g11c_X5_sum_2 R7 (xso SC ad ws_40) x2_7.toInt := HE.trans (by rw [e_43, (o24_102 l1 u1)]; rfl)
          refine lv_aload_n C0.1 C0.2.1 dX5_sum_60 rfl (lv_at hl 2 rfl) ?_
          refine tg_X5_law C0 h kSC_77 q_380 dX5_sum_61 (fun i_44 hi_44 ei_44 => ?_)
          refine lv_iload_n C0.1 C0.2.1 dX5_sum_64 rfl (lv_at hl 0 rfl) ?_
          refine y_cv h (y_rV (As := [.int v_34]) (rest := []) C0 hZ h (c_X4_add l G Z ad _ h.2 i_44 hi_44 v_34) k_X4_add q_827 q_828 q_826 hi_44 rfl rfl rfl hl.1 rfl rfl (Nat.le_of_ble_eq_true rfl) dX5_sum_65 ⟨Nat.le_of_ble_eq_true rfl, Nat.le_of_ble_eq_true rfl⟩ ⟨Nat.le_of_ble_eq_true rfl, Nat.le_of_ble_eq_true rfl⟩) (fun H locs ws_45 h u_46 p_47 => ?_)
          have e_48 := p_47
          replace HE : FT = g12c_X5_sum_2 R7 (xso SC ad ws_45) x2_7.toInt := HE.trans (by rw [e_48, (o24_41 e_35), ei_44]; rfl)
          refine y_inc (kp := 1) (n := 1) (fun v_49 => [(2, .int v_49), (3, .int v_34), (0, .ref (ad 77)), (1, .int a1)]) C0 hl rfl (by decide) (by decide) (fun _ => rfl) (o24_29 b_14 b_15 hn_13 e_17 c_18 (le_min x2_7) (le_max x2_7) (le_min v_16) (le_max v_16)) (o24_30 b_14 b_15 hn_13 e_17 c_18 (le_min x2_7) (le_max x2_7) (le_min v_16) (le_max v_16)) dX5_sum_68 (fun v_49 ls e_50 hl => ?_)
          refine lv_goto (tgt := 7) C0.1 C0.2.1 dX5_sum_71 (by decide) ?_
          exact ih_11 v_49 _ _ _ _ (o24_31 b_14 b_15 hn_13 e_17 c_18 e_50) (o24_32 b_14 b_15 hn_13 e_17 c_18 e_50) (o24_33 b_14 b_15 hn_13 e_17 c_18 e_50) (((show FT = R7 (xso SC ad ws_45) v_49.toInt from HE.trans (by rw [e_50]; rfl)).trans (by rw [hR7]))) h (Fr.tr (Fr.tr (Fr.tr hF_9 (Fr.mono u_37 (by decide))) u_41) (Fr.mono u_46 (by decide))) (lv_sub hl [0, 2, 3] rfl)
        · -- 20
          replace HE : FT = g9_X5_sum_2 R7 (xso SC ad ws_8) x2_7.toInt := HE.trans (if_neg (o24_39 e_24 c_25))
          refine lv_aload_n C0.1 C0.2.1 dX5_sum_23 rfl (lv_at hl 1 rfl) ?_
          refine tg_X5_kind C0 h kSC_77 q_374 dX5_sum_24 (fun v_51 e_52 e_53 e_54 => ?_)
          have qh_55 : v_51.toInt = v_19.toInt := congrArg Int32.toInt (e_52.symm.trans (Eq.trans rfl e_20))
          refine y_c2 (n := 45) C0 (by decide) dX5_sum_27 (fun v_56 e_57 => ?_)
          replace HE : FT = g13b_X5_sum_2 R7 (xso SC ad ws_8) v_51.toInt x2_7.toInt := HE.trans (by rw [(xg0 e_52 : v_51.toInt = (xso SC ad ws_8) 0 77 4)]; rfl)
          refine y_icmp_ne (tgt := 74) C0 dX5_sum_29 (by decide) (fun c_58 => ?_) (fun c_58 => ?_)
          · -- 29
            replace HE : FT = g14_X5_sum_2 (xso SC ad ws_8) := HE.trans (if_neg (o24_43 e_24 c_25 qh_55 e_57 c_58))
            replace HE : FT = ((xso SC ad ws_8), 0) := HE.trans rfl
            rw [hQ]
            exact y_vret C0 h (Fr.tr u_2 hF_9) (congrArg Prod.fst (HE.symm.trans hFT)) dX5_sum_74
          · -- 29
            replace HE : FT = g15_X5_sum_2 R7 (xso SC ad ws_8) x2_7.toInt := HE.trans (if_pos (o24_44 e_24 c_25 qh_55 e_57 c_58))
            refine lv_aload_n C0.1 C0.2.1 dX5_sum_32 rfl (lv_at hl 1 rfl) ?_
            refine tg_X5_kind C0 h kSC_77 q_374 dX5_sum_33 (fun v_59 e_60 e_61 e_62 => ?_)
            have qh_63 : v_59.toInt = v_19.toInt := congrArg Int32.toInt (e_60.symm.trans (Eq.trans rfl e_20))
            refine y_c2 (n := 43) C0 (by decide) dX5_sum_36 (fun v_64 e_65 => ?_)
            refine y_icmp_ne (tgt := 47) C0 dX5_sum_38 (by decide) (fun c_66 => ?_) (fun c_66 => ((o24_45 e_24 c_25 qh_55 e_57 c_58 qh_63 e_65 c_66)).elim)
            refine y_c3 (n := 2001) C0 (by decide) dX5_sum_47 (fun v_67 e_68 => ?_)
            refine lv_istore_n (lv' := [(3, .int v_67), (2, .int x2_7), (0, .ref (ad 77)), (1, .int a1)]) C0.1 C0.2.1 dX5_sum_50 rfl hl (by decide) rfl (fun ls hl => ?_)
            refine lv_aload_n C0.1 C0.2.1 dX5_sum_51 rfl (lv_at hl 2 rfl) ?_
            refine y_cv h (y_rV (As := []) (rest := []) C0 hZ h (c_X5_advance l G Z ad _ h.2) k_X5_advance q_616 q_0 q_614 kSC_77 rfl rfl rfl hl.1 rfl rfl (Nat.le_of_ble_eq_true rfl) dX5_sum_52 ⟨Nat.le_of_ble_eq_true rfl, Nat.le_of_ble_eq_true rfl⟩ ⟨Nat.le_of_ble_eq_true rfl, Nat.le_of_ble_eq_true rfl⟩) (fun H locs ws_69 h u_70 p_71 => ?_)
            have e_72 := p_71
            replace HE : FT = g16c_X5_sum_2 R7 (xso SC ad ws_69) x2_7.toInt := HE.trans (by rw [e_72]; rfl)
            refine lv_aload_n C0.1 C0.2.1 dX5_sum_55 rfl (lv_at hl 2 rfl) ?_
            refine lv_iload_n C0.1 C0.2.1 dX5_sum_56 rfl (lv_at hl 3 rfl) ?_
            refine y_cv h (y_rV (As := [.int a1]) (rest := []) C0 hZ h (c_X5_term_2 l G Z ad _ h.2 a1 (o24_100 l1 u1) (o24_101 l1 u1)) k_X5_term q_820 q_16 q_818 kSC_77 rfl rfl rfl hl.1 rfl rfl (Nat.le_of_ble_eq_true rfl) dX5_sum_57 ⟨Nat.le_of_ble_eq_true rfl, Nat.le_of_ble_eq_true rfl⟩ ⟨Nat.le_of_ble_eq_true rfl, Nat.le_of_ble_eq_true rfl⟩) (fun H locs ws_73 h u_74 p_75 => ?_)
            have e_76 := p_75
            replace HE : FT = g17c_X5_sum_2 R7 (xso SC ad ws_73) x2_7.toInt := HE.trans (by rw [e_76, (o24_102 l1 u1)]; rfl)
            refine lv_aload_n C0.1 C0.2.1 dX5_sum_60 rfl (lv_at hl 2 rfl) ?_
            refine tg_X5_law C0 h kSC_77 q_380 dX5_sum_61 (fun i_77 hi_77 ei_77 => ?_)
            refine lv_iload_n C0.1 C0.2.1 dX5_sum_64 rfl (lv_at hl 0 rfl) ?_
            refine y_cv h (y_rV (As := [.int v_67]) (rest := []) C0 hZ h (c_X4_add l G Z ad _ h.2 i_77 hi_77 v_67) k_X4_add q_827 q_828 q_826 hi_77 rfl rfl rfl hl.1 rfl rfl (Nat.le_of_ble_eq_true rfl) dX5_sum_65 ⟨Nat.le_of_ble_eq_true rfl, Nat.le_of_ble_eq_true rfl⟩ ⟨Nat.le_of_ble_eq_true rfl, Nat.le_of_ble_eq_true rfl⟩) (fun H locs ws_78 h u_79 p_80 => ?_)
            have e_81 := p_80
            replace HE : FT = g18c_X5_sum_2 R7 (xso SC ad ws_78) x2_7.toInt := HE.trans (by rw [e_81, (o24_46 e_68), ei_77]; rfl)
            refine y_inc (kp := 1) (n := 1) (fun v_82 => [(2, .int v_82), (3, .int v_67), (0, .ref (ad 77)), (1, .int a1)]) C0 hl rfl (by decide) (by decide) (fun _ => rfl) (o24_29 b_14 b_15 hn_13 e_17 c_18 (le_min x2_7) (le_max x2_7) (le_min v_16) (le_max v_16)) (o24_30 b_14 b_15 hn_13 e_17 c_18 (le_min x2_7) (le_max x2_7) (le_min v_16) (le_max v_16)) dX5_sum_68 (fun v_82 ls e_83 hl => ?_)
            refine lv_goto (tgt := 7) C0.1 C0.2.1 dX5_sum_71 (by decide) ?_
            exact ih_11 v_82 _ _ _ _ (o24_31 b_14 b_15 hn_13 e_17 c_18 e_83) (o24_32 b_14 b_15 hn_13 e_17 c_18 e_83) (o24_33 b_14 b_15 hn_13 e_17 c_18 e_83) (((show FT = R7 (xso SC ad ws_78) v_82.toInt from HE.trans (by rw [e_83]; rfl)).trans (by rw [hR7]))) h (Fr.tr (Fr.tr (Fr.tr hF_9 (Fr.mono u_70 (by decide))) u_74) (Fr.mono u_79 (by decide))) (lv_sub hl [0, 2, 3] rfl)
  exact lp_10 ((900 - v_5.toInt + 1).toNat) v_5 _ _ _ _ (o24_34 e_6) (o24_35 e_6) (o24_36 e_6) ((show FT = L2_X5_sum_2 (Int.toNat (900 - v_5.toInt + 1)) (xso SC ad ws_1) v_5.toInt from HE.trans (by rw [e_6]; rfl))) h Fr.rf (lv_sub hl [0, 1, 2] rfl)
noncomputable def g18c_X5_unit_2 (s : XS) : XR := (s, 0)
noncomputable def g16_X5_unit_2 (s : XS) : XR := g18c_X5_unit_2 ((f_X5_fail s 2).1)
noncomputable def g21c_X5_unit_2 (s : XS) : XR := (s, 0)
noncomputable def g20c_X5_unit_2 (s : XS) : XR := g21c_X5_unit_2 ((f_X4_add s (Int.toNat (s 3 77 10)) 2005).1)
noncomputable def g19c_X5_unit_2 (s : XS) : XR := g20c_X5_unit_2 ((f_X5_sum_2 s 2).1)
noncomputable def g17_X5_unit_2 (s : XS) : XR := g19c_X5_unit_2 ((f_X5_advance s).1)
noncomputable def g15b_X5_unit_2 (s : XS) (v_36 : Int) : XR := if v_36 = 62 then g17_X5_unit_2 s else g16_X5_unit_2 s
noncomputable def g13_X5_unit_2 (s : XS) : XR := g15b_X5_unit_2 s ((s 0 77 4))
noncomputable def g24c_X5_unit_2 (s : XS) : XR := (s, 0)
noncomputable def g23c_X5_unit_2 (s : XS) : XR := g24c_X5_unit_2 ((f_X4_add s (Int.toNat (s 3 77 10)) 2004).1)
noncomputable def g22c_X5_unit_2 (s : XS) : XR := g23c_X5_unit_2 ((f_X5_sum_2 s 2).1)
noncomputable def g14_X5_unit_2 (s : XS) : XR := g22c_X5_unit_2 ((f_X5_advance s).1)
noncomputable def g12b_X5_unit_2 (s : XS) (v_28 : Int) : XR := if v_28 = 60 then g14_X5_unit_2 s else g13_X5_unit_2 s
noncomputable def g10_X5_unit_2 (s : XS) : XR := g12b_X5_unit_2 s ((s 0 77 4))
noncomputable def g27c_X5_unit_2 (s : XS) : XR := (s, 0)
noncomputable def g26c_X5_unit_2 (s : XS) : XR := g27c_X5_unit_2 ((f_X4_add s (Int.toNat (s 3 77 10)) 2003).1)
noncomputable def g25c_X5_unit_2 (s : XS) : XR := g26c_X5_unit_2 ((f_X5_sum_2 s 2).1)
noncomputable def g11_X5_unit_2 (s : XS) : XR := g25c_X5_unit_2 ((f_X5_advance s).1)
noncomputable def g9b_X5_unit_2 (s : XS) (v_21 : Int) : XR := if v_21 = 61 then g11_X5_unit_2 s else g10_X5_unit_2 s
noncomputable def g8c_X5_unit_2 (s : XS) : XR := g9b_X5_unit_2 s ((s 0 77 4))
noncomputable def g6_X5_unit_2 (s : XS) : XR := g8c_X5_unit_2 ((f_X5_sum_2 s 2).1)
noncomputable def g31c_X5_unit_2 (s : XS) : XR := (s, 0)
noncomputable def g30c_X5_unit_2 (s : XS) : XR := g31c_X5_unit_2 ((f_X5_sign s 93).1)
noncomputable def g29c_X5_unit_2 (s : XS) : XR := g30c_X5_unit_2 ((f_X5_truth_3 s (2 + 1)).1)
noncomputable def g28c_X5_unit_2 (s : XS) : XR := g29c_X5_unit_2 ((f_X5_advance s).1)
noncomputable def g7_X5_unit_2 (s : XS) : XR := g28c_X5_unit_2 ((f_X5_tooDeep_2 s 2).1)
noncomputable def g5b_X5_unit_2 (s : XS) (v_10 : Int) : XR := if v_10 = 91 then g7_X5_unit_2 s else g6_X5_unit_2 s
noncomputable def g3_X5_unit_2 (s : XS) : XR := g5b_X5_unit_2 s ((s 0 77 4))
noncomputable def g36c_X5_unit_2 (s : XS) : XR := (s, 0)
noncomputable def g35c_X5_unit_2 (s : XS) : XR := g36c_X5_unit_2 ((f_X4_add s (Int.toNat (s 3 77 10)) 2003).1)
noncomputable def g34c_X5_unit_2 (s : XS) : XR := g35c_X5_unit_2 ((f_X4_add s (Int.toNat (s 3 77 10)) 0).1)
noncomputable def g33c_X5_unit_2 (s : XS) : XR := g34c_X5_unit_2 ((f_X5_unit_3 s (2 + 1)).1)
noncomputable def g32c_X5_unit_2 (s : XS) : XR := g33c_X5_unit_2 ((f_X5_advance s).1)
noncomputable def g4_X5_unit_2 (s : XS) : XR := g32c_X5_unit_2 ((f_X5_tooDeep_2 s 2).1)
noncomputable def g2b_X5_unit_2 (s : XS) (r_4 : Int) : XR := if r_4 = 0 then g3_X5_unit_2 s else g4_X5_unit_2 s
noncomputable def g1c_X5_unit_2 (s : XS) (r_4 : Int) : XR := g2b_X5_unit_2 s r_4
noncomputable def f_X5_unit_2 (s : XS) (a1 : Int) : XR := g1c_X5_unit_2 ((f_X5_isWord s 19).1) (((f_X5_isWord s 19).2))
set_option maxHeartbeats 4000000 in
set_option maxRecDepth 100000 in
theorem c_X5_unit_2 (l : Launch) (G : GG) (Z : RZ) (ad : Nat → Nat) (ws0 : va_W) (hT : Ty G SC ad ws0) (a1 : Int32) (l1 : 2 ≤ a1.toInt) (u1 : a1.toInt ≤ 2) : Mq l yX5_unit cX5_unit 3 none 21 G Z [.ref (ad 77), .int a1] ws0 (PV G SC ad [2, 3, 16] ws0 (fun u => (xso SC ad u = (f_X5_unit_2 (xso SC ad ws0) a1.toInt).1))) := by
  refine Mq.start (by decide) (Nat.le_of_ble_eq_true rfl) ?_
  intro p e s m below meth c A ls C0 hZ h hl
  have hl : lv_has ls 3 [(0, .ref (ad 77)), (1, .int a1)] := hl
  have h : Wt G SC ad A s s.heap [] ws0 := ⟨h, hT⟩
  obtain ⟨args, hargs⟩ : ∃ z, z = ([.ref (ad 77), .int a1] : List Value).toArray := ⟨_, rfl⟩
  rw [← hargs] at C0 ⊢
  have C0 : Cx p s m args meth c RX5 cX5_unit 3 none := C0
  obtain ⟨Q, hQ⟩ : ∃ z, z = MQ below ((PV G SC ad [2, 3, 16] ws0 (fun u => (xso SC ad u = (f_X5_unit_2 (xso SC ad ws0) a1.toInt).1))) A) args s 0 0 A := ⟨_, rfl⟩
  rw [← hQ]
  obtain ⟨FT, hFT⟩ : ∃ z, z = f_X5_unit_2 (xso SC ad ws0) a1.toInt := ⟨_, rfl⟩
  have HE : FT = f_X5_unit_2 (xso SC ad ws0) a1.toInt := hFT
  refine lv_aload_n C0.1 C0.2.1 dX5_unit_0 rfl (lv_at hl 0 rfl) ?_
  refine va_ldcS C0.1 C0.2.1 C0.2.2.2.1 (sr_19 hZ) dX5_unit_1 ?_
  refine y_ci h (y_rV (As := [.ref (Z.2.1 19)]) (rest := []) C0 hZ h (c_X5_isWord l G Z ad _ h.2 19 (by decide)) k_X5_isWord q_724 q_5 q_722 kSC_77 rfl rfl rfl hl.1 rfl rfl (Nat.le_of_ble_eq_true rfl) dX5_unit_3 ⟨Nat.le_of_ble_eq_true rfl, Nat.le_of_ble_eq_true rfl⟩ ⟨Nat.le_of_ble_eq_true rfl, Nat.le_of_ble_eq_true rfl⟩) (fun r_4 H locs ws_1 h u_2 p_3 => ?_)
  obtain ⟨e_5, e_6, e_7, e_8⟩ := p_3
  replace HE : FT = g1c_X5_unit_2 (xso SC ad ws_1) r_4.toInt := HE.trans (by rw [e_5, e_6]; rfl)
  replace HE : FT = g2b_X5_unit_2 (xso SC ad ws_1) r_4.toInt := HE.trans rfl
  refine y_if_eq (tgt := 49) C0 dX5_unit_6 (by decide) (fun c_9 => ?_) (fun c_9 => ?_)
  · -- 6
    replace HE : FT = g3_X5_unit_2 (xso SC ad ws_1) := HE.trans (if_pos c_9)
    refine lv_aload_n C0.1 C0.2.1 dX5_unit_49 rfl (lv_at hl 0 rfl) ?_
    refine tg_X5_kind C0 h kSC_77 q_374 dX5_unit_50 (fun v_10 e_11 e_12 e_13 => ?_)
    refine y_c2 (n := 91) C0 (by decide) dX5_unit_53 (fun v_14 e_15 => ?_)
    replace HE : FT = g5b_X5_unit_2 (xso SC ad ws_1) v_10.toInt := HE.trans (by rw [(xg0 e_11 : v_10.toInt = (xso SC ad ws_1) 0 77 4)]; rfl)
    refine y_icmp_ne (tgt := 86) C0 dX5_unit_55 (by decide) (fun c_16 => ?_) (fun c_16 => ?_)
    · -- 55
      replace HE : FT = g6_X5_unit_2 (xso SC ad ws_1) := HE.trans (if_neg (o24_48 e_15 c_16))
      refine lv_aload_n C0.1 C0.2.1 dX5_unit_86 rfl (lv_at hl 0 rfl) ?_
      refine lv_iload_n C0.1 C0.2.1 dX5_unit_87 rfl (lv_at hl 1 rfl) ?_
      refine y_cv h (y_rV (As := [.int a1]) (rest := []) C0 hZ h (c_X5_sum_2 l G Z ad _ h.2 a1 (o24_100 l1 u1) (o24_101 l1 u1)) k_X5_sum q_816 q_15 q_814 kSC_77 rfl rfl rfl hl.1 rfl rfl (Nat.le_of_ble_eq_true rfl) dX5_unit_88 ⟨Nat.le_of_ble_eq_true rfl, Nat.le_of_ble_eq_true rfl⟩ ⟨Nat.le_of_ble_eq_true rfl, Nat.le_of_ble_eq_true rfl⟩) (fun H locs ws_17 h u_18 p_19 => ?_)
      have e_20 := p_19
      replace HE : FT = g8c_X5_unit_2 (xso SC ad ws_17) := HE.trans (by rw [e_20, (o24_102 l1 u1)]; rfl)
      refine lv_aload_n C0.1 C0.2.1 dX5_unit_91 rfl (lv_at hl 0 rfl) ?_
      refine tg_X5_kind C0 h kSC_77 q_374 dX5_unit_92 (fun v_21 e_22 e_23 e_24 => ?_)
      refine y_c2 (n := 61) C0 (by decide) dX5_unit_95 (fun v_25 e_26 => ?_)
      replace HE : FT = g9b_X5_unit_2 (xso SC ad ws_17) v_21.toInt := HE.trans (by rw [(xg0 e_22 : v_21.toInt = (xso SC ad ws_17) 0 77 4)]; rfl)
      refine y_icmp_ne (tgt := 106) C0 dX5_unit_97 (by decide) (fun c_27 => ?_) (fun c_27 => ?_)
      · -- 97
        replace HE : FT = g10_X5_unit_2 (xso SC ad ws_17) := HE.trans (if_neg (o24_51 e_26 c_27))
        refine lv_aload_n C0.1 C0.2.1 dX5_unit_106 rfl (lv_at hl 0 rfl) ?_
        refine tg_X5_kind C0 h kSC_77 q_374 dX5_unit_107 (fun v_28 e_29 e_30 e_31 => ?_)
        have qh_32 : v_28.toInt = v_21.toInt := congrArg Int32.toInt (e_29.symm.trans (Eq.trans rfl e_22))
        refine y_c2 (n := 60) C0 (by decide) dX5_unit_110 (fun v_33 e_34 => ?_)
        replace HE : FT = g12b_X5_unit_2 (xso SC ad ws_17) v_28.toInt := HE.trans (by rw [(xg0 e_29 : v_28.toInt = (xso SC ad ws_17) 0 77 4)]; rfl)
        refine y_icmp_ne (tgt := 121) C0 dX5_unit_112 (by decide) (fun c_35 => ?_) (fun c_35 => ?_)
        · -- 112
          replace HE : FT = g13_X5_unit_2 (xso SC ad ws_17) := HE.trans (if_neg (o24_54 e_26 c_27 qh_32 e_34 c_35))
          refine lv_aload_n C0.1 C0.2.1 dX5_unit_121 rfl (lv_at hl 0 rfl) ?_
          refine tg_X5_kind C0 h kSC_77 q_374 dX5_unit_122 (fun v_36 e_37 e_38 e_39 => ?_)
          have qh_40 : v_36.toInt = v_21.toInt := congrArg Int32.toInt (e_37.symm.trans (Eq.trans rfl e_22))
          refine y_c2 (n := 62) C0 (by decide) dX5_unit_125 (fun v_41 e_42 => ?_)
          replace HE : FT = g15b_X5_unit_2 (xso SC ad ws_17) v_36.toInt := HE.trans (by rw [(xg0 e_37 : v_36.toInt = (xso SC ad ws_17) 0 77 4)]; rfl)
          refine y_icmp_ne (tgt := 136) C0 dX5_unit_127 (by decide) (fun c_43 => ?_) (fun c_43 => ?_)
          · -- 127
            replace HE : FT = g16_X5_unit_2 (xso SC ad ws_17) := HE.trans (if_neg (o24_57 e_26 c_27 qh_32 e_34 c_35 qh_40 e_42 c_43))
            refine y_c1 (n := (-1)) C0 (by decide) dX5_unit_136 (fun v_44 e_45 => ?_)
            refine lv_istore_n (lv' := [(2, .int v_44), (0, .ref (ad 77)), (1, .int a1)]) C0.1 C0.2.1 dX5_unit_137 rfl hl (by decide) rfl (fun ls hl => ?_)
            refine lv_iload_n C0.1 C0.2.1 dX5_unit_138 rfl (lv_at hl 0 rfl) ?_
            refine y_if_ge (tgt := 148) C0 dX5_unit_139 (by decide) (fun c_46 => ((o24_11 e_45 c_46)).elim) (fun c_46 => ?_)
            refine lv_aload_n C0.1 C0.2.1 dX5_unit_142 rfl (lv_at hl 1 rfl) ?_
            refine y_c1 (n := 2) C0 (by decide) dX5_unit_143 (fun v_47 e_48 => ?_)
            refine y_cv h (y_rV (As := [.int v_47]) (rest := []) C0 hZ h (c_X5_fail l G Z ad _ h.2 v_47) k_X5_fail q_628 q_3 q_626 kSC_77 rfl rfl rfl hl.1 rfl rfl (Nat.le_of_ble_eq_true rfl) dX5_unit_144 ⟨Nat.le_of_ble_eq_true rfl, Nat.le_of_ble_eq_true rfl⟩ ⟨Nat.le_of_ble_eq_true rfl, Nat.le_of_ble_eq_true rfl⟩) (fun H locs ws_49 h u_50 p_51 => ?_)
            have e_52 := p_51
            replace HE : FT = g18c_X5_unit_2 (xso SC ad ws_49) := HE.trans (by rw [e_52, e_48]; rfl)
            replace HE : FT = ((xso SC ad ws_49), 0) := HE.trans rfl
            rw [hQ]
            exact y_vret C0 h (Fr.tr (Fr.tr (Fr.mono u_2 (by decide)) u_18) (Fr.mono u_50 (by decide))) (congrArg Prod.fst (HE.symm.trans hFT)) dX5_unit_147
          · -- 127
            replace HE : FT = g17_X5_unit_2 (xso SC ad ws_17) := HE.trans (if_pos (o24_58 e_26 c_27 qh_32 e_34 c_35 qh_40 e_42 c_43))
            refine y_c3 (n := 2005) C0 (by decide) dX5_unit_130 (fun v_53 e_54 => ?_)
            refine lv_goto (tgt := 137) C0.1 C0.2.1 dX5_unit_133 (by decide) ?_
            refine lv_istore_n (lv' := [(2, .int v_53), (0, .ref (ad 77)), (1, .int a1)]) C0.1 C0.2.1 dX5_unit_137 rfl hl (by decide) rfl (fun ls hl => ?_)
            refine lv_iload_n C0.1 C0.2.1 dX5_unit_138 rfl (lv_at hl 0 rfl) ?_
            refine y_if_ge (tgt := 148) C0 dX5_unit_139 (by decide) (fun c_55 => ?_) (fun c_55 => ((o24_59 e_54 c_55)).elim)
            refine lv_aload_n C0.1 C0.2.1 dX5_unit_148 rfl (lv_at hl 1 rfl) ?_
            refine y_cv h (y_rV (As := []) (rest := []) C0 hZ h (c_X5_advance l G Z ad _ h.2) k_X5_advance q_616 q_0 q_614 kSC_77 rfl rfl rfl hl.1 rfl rfl (Nat.le_of_ble_eq_true rfl) dX5_unit_149 ⟨Nat.le_of_ble_eq_true rfl, Nat.le_of_ble_eq_true rfl⟩ ⟨Nat.le_of_ble_eq_true rfl, Nat.le_of_ble_eq_true rfl⟩) (fun H locs ws_56 h u_57 p_58 => ?_)
            have e_59 := p_58
            replace HE : FT = g19c_X5_unit_2 (xso SC ad ws_56) := HE.trans (by rw [e_59]; rfl)
            refine lv_aload_n C0.1 C0.2.1 dX5_unit_152 rfl (lv_at hl 1 rfl) ?_
            refine lv_iload_n C0.1 C0.2.1 dX5_unit_153 rfl (lv_at hl 2 rfl) ?_
            refine y_cv h (y_rV (As := [.int a1]) (rest := []) C0 hZ h (c_X5_sum_2 l G Z ad _ h.2 a1 (o24_100 l1 u1) (o24_101 l1 u1)) k_X5_sum q_816 q_15 q_814 kSC_77 rfl rfl rfl hl.1 rfl rfl (Nat.le_of_ble_eq_true rfl) dX5_unit_154 ⟨Nat.le_of_ble_eq_true rfl, Nat.le_of_ble_eq_true rfl⟩ ⟨Nat.le_of_ble_eq_true rfl, Nat.le_of_ble_eq_true rfl⟩) (fun H locs ws_60 h u_61 p_62 => ?_)
            have e_63 := p_62
            replace HE : FT = g20c_X5_unit_2 (xso SC ad ws_60) := HE.trans (by rw [e_63, (o24_102 l1 u1)]; rfl)
            refine lv_aload_n C0.1 C0.2.1 dX5_unit_157 rfl (lv_at hl 1 rfl) ?_
            refine tg_X5_law C0 h kSC_77 q_380 dX5_unit_158 (fun i_64 hi_64 ei_64 => ?_)
            refine lv_iload_n C0.1 C0.2.1 dX5_unit_161 rfl (lv_at hl 0 rfl) ?_
            refine y_cv h (y_rV (As := [.int v_53]) (rest := []) C0 hZ h (c_X4_add l G Z ad _ h.2 i_64 hi_64 v_53) k_X4_add q_827 q_828 q_826 hi_64 rfl rfl rfl hl.1 rfl rfl (Nat.le_of_ble_eq_true rfl) dX5_unit_162 ⟨Nat.le_of_ble_eq_true rfl, Nat.le_of_ble_eq_true rfl⟩ ⟨Nat.le_of_ble_eq_true rfl, Nat.le_of_ble_eq_true rfl⟩) (fun H locs ws_65 h u_66 p_67 => ?_)
            have e_68 := p_67
            replace HE : FT = g21c_X5_unit_2 (xso SC ad ws_65) := HE.trans (by rw [e_68, (o24_60 e_54 c_55), ei_64]; rfl)
            replace HE : FT = ((xso SC ad ws_65), 0) := HE.trans rfl
            rw [hQ]
            exact y_vret C0 h (Fr.tr (Fr.tr (Fr.tr (Fr.tr (Fr.mono u_2 (by decide)) u_18) (Fr.mono u_57 (by decide))) u_61) (Fr.mono u_66 (by decide))) (congrArg Prod.fst (HE.symm.trans hFT)) dX5_unit_165
        · -- 112
          replace HE : FT = g14_X5_unit_2 (xso SC ad ws_17) := HE.trans (if_pos (o24_55 e_26 c_27 qh_32 e_34 c_35))
          refine y_c3 (n := 2004) C0 (by decide) dX5_unit_115 (fun v_69 e_70 => ?_)
          refine lv_goto (tgt := 137) C0.1 C0.2.1 dX5_unit_118 (by decide) ?_
          refine lv_istore_n (lv' := [(2, .int v_69), (0, .ref (ad 77)), (1, .int a1)]) C0.1 C0.2.1 dX5_unit_137 rfl hl (by decide) rfl (fun ls hl => ?_)
          refine lv_iload_n C0.1 C0.2.1 dX5_unit_138 rfl (lv_at hl 0 rfl) ?_
          refine y_if_ge (tgt := 148) C0 dX5_unit_139 (by decide) (fun c_71 => ?_) (fun c_71 => ((o24_61 e_70 c_71)).elim)
          refine lv_aload_n C0.1 C0.2.1 dX5_unit_148 rfl (lv_at hl 1 rfl) ?_
          refine y_cv h (y_rV (As := []) (rest := []) C0 hZ h (c_X5_advance l G Z ad _ h.2) k_X5_advance q_616 q_0 q_614 kSC_77 rfl rfl rfl hl.1 rfl rfl (Nat.le_of_ble_eq_true rfl) dX5_unit_149 ⟨Nat.le_of_ble_eq_true rfl, Nat.le_of_ble_eq_true rfl⟩ ⟨Nat.le_of_ble_eq_true rfl, Nat.le_of_ble_eq_true rfl⟩) (fun H locs ws_72 h u_73 p_74 => ?_)
          have e_75 := p_74
          replace HE : FT = g22c_X5_unit_2 (xso SC ad ws_72) := HE.trans (by rw [e_75]; rfl)
          refine lv_aload_n C0.1 C0.2.1 dX5_unit_152 rfl (lv_at hl 1 rfl) ?_
          refine lv_iload_n C0.1 C0.2.1 dX5_unit_153 rfl (lv_at hl 2 rfl) ?_
          refine y_cv h (y_rV (As := [.int a1]) (rest := []) C0 hZ h (c_X5_sum_2 l G Z ad _ h.2 a1 (o24_100 l1 u1) (o24_101 l1 u1)) k_X5_sum q_816 q_15 q_814 kSC_77 rfl rfl rfl hl.1 rfl rfl (Nat.le_of_ble_eq_true rfl) dX5_unit_154 ⟨Nat.le_of_ble_eq_true rfl, Nat.le_of_ble_eq_true rfl⟩ ⟨Nat.le_of_ble_eq_true rfl, Nat.le_of_ble_eq_true rfl⟩) (fun H locs ws_76 h u_77 p_78 => ?_)
          have e_79 := p_78
          replace HE : FT = g23c_X5_unit_2 (xso SC ad ws_76) := HE.trans (by rw [e_79, (o24_102 l1 u1)]; rfl)
          refine lv_aload_n C0.1 C0.2.1 dX5_unit_157 rfl (lv_at hl 1 rfl) ?_
          refine tg_X5_law C0 h kSC_77 q_380 dX5_unit_158 (fun i_80 hi_80 ei_80 => ?_)
          refine lv_iload_n C0.1 C0.2.1 dX5_unit_161 rfl (lv_at hl 0 rfl) ?_
          refine y_cv h (y_rV (As := [.int v_69]) (rest := []) C0 hZ h (c_X4_add l G Z ad _ h.2 i_80 hi_80 v_69) k_X4_add q_827 q_828 q_826 hi_80 rfl rfl rfl hl.1 rfl rfl (Nat.le_of_ble_eq_true rfl) dX5_unit_162 ⟨Nat.le_of_ble_eq_true rfl, Nat.le_of_ble_eq_true rfl⟩ ⟨Nat.le_of_ble_eq_true rfl, Nat.le_of_ble_eq_true rfl⟩) (fun H locs ws_81 h u_82 p_83 => ?_)
          have e_84 := p_83
          replace HE : FT = g24c_X5_unit_2 (xso SC ad ws_81) := HE.trans (by rw [e_84, (o24_62 e_70 c_71), ei_80]; rfl)
          replace HE : FT = ((xso SC ad ws_81), 0) := HE.trans rfl
          rw [hQ]
          exact y_vret C0 h (Fr.tr (Fr.tr (Fr.tr (Fr.tr (Fr.mono u_2 (by decide)) u_18) (Fr.mono u_73 (by decide))) u_77) (Fr.mono u_82 (by decide))) (congrArg Prod.fst (HE.symm.trans hFT)) dX5_unit_165
      · -- 97
        replace HE : FT = g11_X5_unit_2 (xso SC ad ws_17) := HE.trans (if_pos (o24_52 e_26 c_27))
        refine y_c3 (n := 2003) C0 (by decide) dX5_unit_100 (fun v_85 e_86 => ?_)
        refine lv_goto (tgt := 137) C0.1 C0.2.1 dX5_unit_103 (by decide) ?_
        refine lv_istore_n (lv' := [(2, .int v_85), (0, .ref (ad 77)), (1, .int a1)]) C0.1 C0.2.1 dX5_unit_137 rfl hl (by decide) rfl (fun ls hl => ?_)
        refine lv_iload_n C0.1 C0.2.1 dX5_unit_138 rfl (lv_at hl 0 rfl) ?_
        refine y_if_ge (tgt := 148) C0 dX5_unit_139 (by decide) (fun c_87 => ?_) (fun c_87 => ((o24_63 e_86 c_87)).elim)
        refine lv_aload_n C0.1 C0.2.1 dX5_unit_148 rfl (lv_at hl 1 rfl) ?_
        refine y_cv h (y_rV (As := []) (rest := []) C0 hZ h (c_X5_advance l G Z ad _ h.2) k_X5_advance q_616 q_0 q_614 kSC_77 rfl rfl rfl hl.1 rfl rfl (Nat.le_of_ble_eq_true rfl) dX5_unit_149 ⟨Nat.le_of_ble_eq_true rfl, Nat.le_of_ble_eq_true rfl⟩ ⟨Nat.le_of_ble_eq_true rfl, Nat.le_of_ble_eq_true rfl⟩) (fun H locs ws_88 h u_89 p_90 => ?_)
        have e_91 := p_90
        replace HE : FT = g25c_X5_unit_2 (xso SC ad ws_88) := HE.trans (by rw [e_91]; rfl)
        refine lv_aload_n C0.1 C0.2.1 dX5_unit_152 rfl (lv_at hl 1 rfl) ?_
        refine lv_iload_n C0.1 C0.2.1 dX5_unit_153 rfl (lv_at hl 2 rfl) ?_
        refine y_cv h (y_rV (As := [.int a1]) (rest := []) C0 hZ h (c_X5_sum_2 l G Z ad _ h.2 a1 (o24_100 l1 u1) (o24_101 l1 u1)) k_X5_sum q_816 q_15 q_814 kSC_77 rfl rfl rfl hl.1 rfl rfl (Nat.le_of_ble_eq_true rfl) dX5_unit_154 ⟨Nat.le_of_ble_eq_true rfl, Nat.le_of_ble_eq_true rfl⟩ ⟨Nat.le_of_ble_eq_true rfl, Nat.le_of_ble_eq_true rfl⟩) (fun H locs ws_92 h u_93 p_94 => ?_)
        have e_95 := p_94
        replace HE : FT = g26c_X5_unit_2 (xso SC ad ws_92) := HE.trans (by rw [e_95, (o24_102 l1 u1)]; rfl)
        refine lv_aload_n C0.1 C0.2.1 dX5_unit_157 rfl (lv_at hl 1 rfl) ?_
        refine tg_X5_law C0 h kSC_77 q_380 dX5_unit_158 (fun i_96 hi_96 ei_96 => ?_)
        refine lv_iload_n C0.1 C0.2.1 dX5_unit_161 rfl (lv_at hl 0 rfl) ?_
        refine y_cv h (y_rV (As := [.int v_85]) (rest := []) C0 hZ h (c_X4_add l G Z ad _ h.2 i_96 hi_96 v_85) k_X4_add q_827 q_828 q_826 hi_96 rfl rfl rfl hl.1 rfl rfl (Nat.le_of_ble_eq_true rfl) dX5_unit_162 ⟨Nat.le_of_ble_eq_true rfl, Nat.le_of_ble_eq_true rfl⟩ ⟨Nat.le_of_ble_eq_true rfl, Nat.le_of_ble_eq_true rfl⟩) (fun H locs ws_97 h u_98 p_99 => ?_)
        have e_100 := p_99
        replace HE : FT = g27c_X5_unit_2 (xso SC ad ws_97) := HE.trans (by rw [e_100, (o24_64 e_86 c_87), ei_96]; rfl)
        replace HE : FT = ((xso SC ad ws_97), 0) := HE.trans rfl
        rw [hQ]
        exact y_vret C0 h (Fr.tr (Fr.tr (Fr.tr (Fr.tr (Fr.mono u_2 (by decide)) u_18) (Fr.mono u_89 (by decide))) u_93) (Fr.mono u_98 (by decide))) (congrArg Prod.fst (HE.symm.trans hFT)) dX5_unit_165
    · -- 55
      replace HE : FT = g7_X5_unit_2 (xso SC ad ws_1) := HE.trans (if_pos (o24_49 e_15 c_16))
      refine lv_aload_n C0.1 C0.2.1 dX5_unit_58 rfl (lv_at hl 0 rfl) ?_
      refine lv_iload_n C0.1 C0.2.1 dX5_unit_59 rfl (lv_at hl 1 rfl) ?_
      refine y_ci h (y_rV (As := [.int a1]) (rest := []) C0 hZ h (c_X5_tooDeep_2 l G Z ad _ h.2 a1 (o24_100 l1 u1) (o24_101 l1 u1)) k_X5_tooDeep q_832 q_18 q_830 kSC_77 rfl rfl rfl hl.1 rfl rfl (Nat.le_of_ble_eq_true rfl) dX5_unit_60 ⟨Nat.le_of_ble_eq_true rfl, Nat.le_of_ble_eq_true rfl⟩ ⟨Nat.le_of_ble_eq_true rfl, Nat.le_of_ble_eq_true rfl⟩) (fun r_104 H locs ws_101 h u_102 p_103 => ?_)
      obtain ⟨e_105, e_106, e_107, e_108⟩ := p_103
      replace HE : FT = g28c_X5_unit_2 (xso SC ad ws_101) := HE.trans (by rw [e_105, (o24_102 l1 u1)]; rfl)
      refine y_if_ne (tgt := 165) C0 dX5_unit_63 (by decide) (fun c_109 => ((o24_71 e_107 e_108 c_109)).elim) (fun c_109 => ?_)
      refine lv_aload_n C0.1 C0.2.1 dX5_unit_66 rfl (lv_at hl 0 rfl) ?_
      refine y_cv h (y_rV (As := []) (rest := []) C0 hZ h (c_X5_advance l G Z ad _ h.2) k_X5_advance q_616 q_0 q_614 kSC_77 rfl rfl rfl hl.1 rfl rfl (Nat.le_of_ble_eq_true rfl) dX5_unit_67 ⟨Nat.le_of_ble_eq_true rfl, Nat.le_of_ble_eq_true rfl⟩ ⟨Nat.le_of_ble_eq_true rfl, Nat.le_of_ble_eq_true rfl⟩) (fun H locs ws_110 h u_111 p_112 => ?_)
      have e_113 := p_112
      replace HE : FT = g29c_X5_unit_2 (xso SC ad ws_110) := HE.trans (by rw [e_113]; rfl)
      refine lv_aload_n C0.1 C0.2.1 dX5_unit_70 rfl (lv_at hl 0 rfl) ?_
      refine lv_iload_n C0.1 C0.2.1 dX5_unit_71 rfl (lv_at hl 1 rfl) ?_
      refine y_c1 (n := 1) C0 (by decide) dX5_unit_72 (fun v_114 e_115 => ?_)
      refine y_add C0 (o24_103 l1 u1 e_115 (le_min a1) (le_max a1) (le_min v_114) (le_max v_114)) (o24_104 l1 u1 e_115 (le_min a1) (le_max a1) (le_min v_114) (le_max v_114)) dX5_unit_73 (fun v_116 e_117 => ?_)
      refine y_cv h (y_rV (As := [.int v_116]) (rest := []) C0 hZ h (c_X5_truth_3 l G Z ad _ h.2 v_116 (o24_105 l1 u1 e_115 e_117) (o24_106 l1 u1 e_115 e_117)) k_X5_truth q_843 q_19 q_841 kSC_77 rfl rfl rfl hl.1 rfl rfl (Nat.le_of_ble_eq_true rfl) dX5_unit_74 ⟨Nat.le_of_ble_eq_true rfl, Nat.le_of_ble_eq_true rfl⟩ ⟨Nat.le_of_ble_eq_true rfl, Nat.le_of_ble_eq_true rfl⟩) (fun H locs ws_118 h u_119 p_120 => ?_)
      have e_121 := p_120
      replace HE : FT = g30c_X5_unit_2 (xso SC ad ws_118) := HE.trans (by rw [e_121, e_117, e_115, (o24_107 l1 u1 e_115 e_117)]; rfl)
      refine lv_aload_n C0.1 C0.2.1 dX5_unit_77 rfl (lv_at hl 0 rfl) ?_
      refine y_c2 (n := 93) C0 (by decide) dX5_unit_78 (fun v_122 e_123 => ?_)
      refine y_cv h (y_rV (As := [.int v_122]) (rest := []) C0 hZ h (c_X5_sign l G Z ad _ h.2 v_122 (o24_79 e_123) (o24_80 e_123)) k_X5_sign q_812 q_14 q_810 kSC_77 rfl rfl rfl hl.1 rfl rfl (Nat.le_of_ble_eq_true rfl) dX5_unit_80 ⟨Nat.le_of_ble_eq_true rfl, Nat.le_of_ble_eq_true rfl⟩ ⟨Nat.le_of_ble_eq_true rfl, Nat.le_of_ble_eq_true rfl⟩) (fun H locs ws_124 h u_125 p_126 => ?_)
      have e_127 := p_126
      replace HE : FT = g31c_X5_unit_2 (xso SC ad ws_124) := HE.trans (by rw [e_127, e_123]; rfl)
      refine lv_goto (tgt := 165) C0.1 C0.2.1 dX5_unit_83 (by decide) ?_
      replace HE : FT = ((xso SC ad ws_124), 0) := HE.trans rfl
      rw [hQ]
      exact y_vret C0 h (Fr.tr (Fr.tr (Fr.tr (Fr.tr (Fr.mono u_2 (by decide)) (Fr.mono u_102 (by decide))) (Fr.mono u_111 (by decide))) u_119) (Fr.mono u_125 (by decide))) (congrArg Prod.fst (HE.symm.trans hFT)) dX5_unit_165
  · -- 6
    replace HE : FT = g4_X5_unit_2 (xso SC ad ws_1) := HE.trans (if_neg c_9)
    refine lv_aload_n C0.1 C0.2.1 dX5_unit_9 rfl (lv_at hl 0 rfl) ?_
    refine lv_iload_n C0.1 C0.2.1 dX5_unit_10 rfl (lv_at hl 1 rfl) ?_
    refine y_ci h (y_rV (As := [.int a1]) (rest := []) C0 hZ h (c_X5_tooDeep_2 l G Z ad _ h.2 a1 (o24_100 l1 u1) (o24_101 l1 u1)) k_X5_tooDeep q_832 q_18 q_830 kSC_77 rfl rfl rfl hl.1 rfl rfl (Nat.le_of_ble_eq_true rfl) dX5_unit_11 ⟨Nat.le_of_ble_eq_true rfl, Nat.le_of_ble_eq_true rfl⟩ ⟨Nat.le_of_ble_eq_true rfl, Nat.le_of_ble_eq_true rfl⟩) (fun r_131 H locs ws_128 h u_129 p_130 => ?_)
    obtain ⟨e_132, e_133, e_134, e_135⟩ := p_130
    replace HE : FT = g32c_X5_unit_2 (xso SC ad ws_128) := HE.trans (by rw [e_132, (o24_102 l1 u1)]; rfl)
    refine y_if_ne (tgt := 165) C0 dX5_unit_14 (by decide) (fun c_136 => ((o24_71 e_134 e_135 c_136)).elim) (fun c_136 => ?_)
    refine lv_aload_n C0.1 C0.2.1 dX5_unit_17 rfl (lv_at hl 0 rfl) ?_
    refine y_cv h (y_rV (As := []) (rest := []) C0 hZ h (c_X5_advance l G Z ad _ h.2) k_X5_advance q_616 q_0 q_614 kSC_77 rfl rfl rfl hl.1 rfl rfl (Nat.le_of_ble_eq_true rfl) dX5_unit_18 ⟨Nat.le_of_ble_eq_true rfl, Nat.le_of_ble_eq_true rfl⟩ ⟨Nat.le_of_ble_eq_true rfl, Nat.le_of_ble_eq_true rfl⟩) (fun H locs ws_137 h u_138 p_139 => ?_)
    have e_140 := p_139
    replace HE : FT = g33c_X5_unit_2 (xso SC ad ws_137) := HE.trans (by rw [e_140]; rfl)
    refine lv_aload_n C0.1 C0.2.1 dX5_unit_21 rfl (lv_at hl 0 rfl) ?_
    refine lv_iload_n C0.1 C0.2.1 dX5_unit_22 rfl (lv_at hl 1 rfl) ?_
    refine y_c1 (n := 1) C0 (by decide) dX5_unit_23 (fun v_141 e_142 => ?_)
    refine y_add C0 (o24_103 l1 u1 e_142 (le_min a1) (le_max a1) (le_min v_141) (le_max v_141)) (o24_104 l1 u1 e_142 (le_min a1) (le_max a1) (le_min v_141) (le_max v_141)) dX5_unit_24 (fun v_143 e_144 => ?_)
    refine y_cv h (y_rV (As := [.int v_143]) (rest := []) C0 hZ h (c_X5_unit_3 l G Z ad _ h.2 v_143 (o24_105 l1 u1 e_142 e_144) (o24_106 l1 u1 e_142 e_144)) k_X5_unit q_851 q_21 q_849 kSC_77 rfl rfl rfl hl.1 rfl rfl (Nat.le_of_ble_eq_true rfl) dX5_unit_25 ⟨Nat.le_of_ble_eq_true rfl, Nat.le_of_ble_eq_true rfl⟩ ⟨Nat.le_of_ble_eq_true rfl, Nat.le_of_ble_eq_true rfl⟩) (fun H locs ws_145 h u_146 p_147 => ?_)
    have e_148 := p_147
    replace HE : FT = g34c_X5_unit_2 (xso SC ad ws_145) := HE.trans (by rw [e_148, e_144, e_142, (o24_107 l1 u1 e_142 e_144)]; rfl)
    refine lv_aload_n C0.1 C0.2.1 dX5_unit_28 rfl (lv_at hl 0 rfl) ?_
    refine tg_X5_law C0 h kSC_77 q_380 dX5_unit_29 (fun i_149 hi_149 ei_149 => ?_)
    refine y_c1 (n := 0) C0 (by decide) dX5_unit_32 (fun v_150 e_151 => ?_)
    refine y_cv h (y_rV (As := [.int v_150]) (rest := []) C0 hZ h (c_X4_add l G Z ad _ h.2 i_149 hi_149 v_150) k_X4_add q_827 q_828 q_826 hi_149 rfl rfl rfl hl.1 rfl rfl (Nat.le_of_ble_eq_true rfl) dX5_unit_33 ⟨Nat.le_of_ble_eq_true rfl, Nat.le_of_ble_eq_true rfl⟩ ⟨Nat.le_of_ble_eq_true rfl, Nat.le_of_ble_eq_true rfl⟩) (fun H locs ws_152 h u_153 p_154 => ?_)
    have e_155 := p_154
    replace HE : FT = g35c_X5_unit_2 (xso SC ad ws_152) := HE.trans (by rw [e_155, e_151, ei_149]; rfl)
    refine lv_aload_n C0.1 C0.2.1 dX5_unit_36 rfl (lv_at hl 0 rfl) ?_
    refine tg_X5_law C0 h kSC_77 q_380 dX5_unit_37 (fun i_156 hi_156 ei_156 => ?_)
    refine y_c3 (n := 2003) C0 (by decide) dX5_unit_40 (fun v_157 e_158 => ?_)
    refine y_cv h (y_rV (As := [.int v_157]) (rest := []) C0 hZ h (c_X4_add l G Z ad _ h.2 i_156 hi_156 v_157) k_X4_add q_827 q_828 q_826 hi_156 rfl rfl rfl hl.1 rfl rfl (Nat.le_of_ble_eq_true rfl) dX5_unit_43 ⟨Nat.le_of_ble_eq_true rfl, Nat.le_of_ble_eq_true rfl⟩ ⟨Nat.le_of_ble_eq_true rfl, Nat.le_of_ble_eq_true rfl⟩) (fun H locs ws_159 h u_160 p_161 => ?_)
    have e_162 := p_161
    replace HE : FT = g36c_X5_unit_2 (xso SC ad ws_159) := HE.trans (by rw [e_162, e_158, ei_156]; rfl)
    refine lv_goto (tgt := 165) C0.1 C0.2.1 dX5_unit_46 (by decide) ?_
    replace HE : FT = ((xso SC ad ws_159), 0) := HE.trans rfl
    rw [hQ]
    exact y_vret C0 h (Fr.tr (Fr.tr (Fr.tr (Fr.tr (Fr.tr (Fr.mono u_2 (by decide)) (Fr.mono u_129 (by decide))) (Fr.mono u_138 (by decide))) u_146) (Fr.mono u_153 (by decide))) (Fr.mono u_160 (by decide))) (congrArg Prod.fst (HE.symm.trans hFT)) dX5_unit_165
noncomputable def g5_X5_both_2 (s : XS) : XR := (s, 0)
noncomputable def g9_X5_both_2 (s : XS) : XR := (s, 0)
noncomputable def g13c_X5_both_2 (R7 : XS → Int → XR) (s : XS) (x2_7 : Int) : XR := R7 s ((x2_7 + 1))
noncomputable def g12c_X5_both_2 (R7 : XS → Int → XR) (s : XS) (x2_7 : Int) : XR := g13c_X5_both_2 R7 ((f_X4_add s (Int.toNat (s 3 77 10)) 2006).1) x2_7
noncomputable def g11c_X5_both_2 (R7 : XS → Int → XR) (s : XS) (x2_7 : Int) : XR := g12c_X5_both_2 R7 ((f_X5_unit_2 s 2).1) x2_7
noncomputable def g10_X5_both_2 (R7 : XS → Int → XR) (s : XS) (x2_7 : Int) : XR := g11c_X5_both_2 R7 ((f_X5_advance s).1) x2_7
noncomputable def g8b_X5_both_2 (R7 : XS → Int → XR) (s : XS) (r_22 : Int) (x2_7 : Int) : XR := if r_22 = 0 then g9_X5_both_2 s else g10_X5_both_2 R7 s x2_7
noncomputable def g7c_X5_both_2 (R7 : XS → Int → XR) (s : XS) (r_22 : Int) (x2_7 : Int) : XR := g8b_X5_both_2 R7 s r_22 x2_7
noncomputable def g6_X5_both_2 (R7 : XS → Int → XR) (s : XS) (x2_7 : Int) : XR := g7c_X5_both_2 R7 ((f_X5_isWord s 20).1) (((f_X5_isWord s 20).2)) x2_7
noncomputable def g4b_X5_both_2 (R7 : XS → Int → XR) (s : XS) (x2_7 : Int) : XR := if x2_7 < 900 then g6_X5_both_2 R7 s x2_7 else g5_X5_both_2 s
noncomputable def g3l_X5_both_2 (R7 : XS → Int → XR) (s : XS) (x2_7 : Int) : XR := g4b_X5_both_2 R7 s x2_7
noncomputable def L2_X5_both_2 (n : Nat) : XS → Int → XR := Nat.rec (motive := fun _ => XS → Int → XR) (fun s _ => (s, 0)) (fun _ R7 => g3l_X5_both_2 R7) n
noncomputable def g1c_X5_both_2 (s : XS) : XR := L2_X5_both_2 (Int.toNat (900 - 0 + 1)) s 0
noncomputable def f_X5_both_2 (s : XS) (a1 : Int) : XR := g1c_X5_both_2 ((f_X5_unit_2 s a1).1)
set_option maxHeartbeats 4000000 in
set_option maxRecDepth 100000 in
theorem c_X5_both_2 (l : Launch) (G : GG) (Z : RZ) (ad : Nat → Nat) (ws0 : va_W) (hT : Ty G SC ad ws0) (a1 : Int32) (l1 : 2 ≤ a1.toInt) (u1 : a1.toInt ≤ 2) : Mq l yX5_both cX5_both 3 none 22 G Z [.ref (ad 77), .int a1] ws0 (PV G SC ad [2, 3, 16] ws0 (fun u => (xso SC ad u = (f_X5_both_2 (xso SC ad ws0) a1.toInt).1))) := by
  refine Mq.start (by decide) (Nat.le_of_ble_eq_true rfl) ?_
  intro p e s m below meth c A ls C0 hZ h hl
  have hl : lv_has ls 3 [(0, .ref (ad 77)), (1, .int a1)] := hl
  have h : Wt G SC ad A s s.heap [] ws0 := ⟨h, hT⟩
  obtain ⟨args, hargs⟩ : ∃ z, z = ([.ref (ad 77), .int a1] : List Value).toArray := ⟨_, rfl⟩
  rw [← hargs] at C0 ⊢
  have C0 : Cx p s m args meth c RX5 cX5_both 3 none := C0
  obtain ⟨Q, hQ⟩ : ∃ z, z = MQ below ((PV G SC ad [2, 3, 16] ws0 (fun u => (xso SC ad u = (f_X5_both_2 (xso SC ad ws0) a1.toInt).1))) A) args s 0 0 A := ⟨_, rfl⟩
  rw [← hQ]
  obtain ⟨FT, hFT⟩ : ∃ z, z = f_X5_both_2 (xso SC ad ws0) a1.toInt := ⟨_, rfl⟩
  have HE : FT = f_X5_both_2 (xso SC ad ws0) a1.toInt := hFT
  refine lv_aload_n C0.1 C0.2.1 dX5_both_0 rfl (lv_at hl 0 rfl) ?_
  refine lv_iload_n C0.1 C0.2.1 dX5_both_1 rfl (lv_at hl 1 rfl) ?_
  refine y_cv h (y_rV (As := [.int a1]) (rest := []) C0 hZ h (c_X5_unit_2 l G Z ad _ h.2 a1 (o24_100 l1 u1) (o24_101 l1 u1)) k_X5_unit q_851 q_21 q_849 kSC_77 rfl rfl rfl hl.1 rfl rfl (Nat.le_of_ble_eq_true rfl) dX5_both_2 ⟨Nat.le_of_ble_eq_true rfl, Nat.le_of_ble_eq_true rfl⟩ ⟨Nat.le_of_ble_eq_true rfl, Nat.le_of_ble_eq_true rfl⟩) (fun H locs ws_1 h u_2 p_3 => ?_)
  have e_4 := p_3
  replace HE : FT = g1c_X5_both_2 (xso SC ad ws_1) := HE.trans (by rw [e_4]; rfl)
  refine y_c1 (n := 0) C0 (by decide) dX5_both_5 (fun v_5 e_6 => ?_)
  refine lv_istore_n (lv' := [(2, .int v_5), (0, .ref (ad 77)), (1, .int a1)]) C0.1 C0.2.1 dX5_both_6 rfl hl (by decide) rfl (fun ls hl => ?_)
  have lp_10 : ∀ (n_12 : Nat) (x2_7 : Int32) (H : Heap) (locs : List Loc) (ls : Array Slot) (ws_8 : va_W), 900 - x2_7.toInt < (n_12 : Int) → 0 ≤ x2_7.toInt → x2_7.toInt ≤ 900 → (FT = L2_X5_both_2 n_12 (xso SC ad ws_8) x2_7.toInt) → Wt G SC ad A s H locs ws_8 → Fr SC [2, 3, 16] ws_1 ws_8 → lv_has ls 3 [(2, .int x2_7), (0, .ref (ad 77)), (1, .int a1)] → W p l e (rmd 22 0 0) s m args below meth c H locs 0 0 Q (F0 m 7 ls []) := by
    intro n_12
    induction n_12 with
    | zero => intro x2_7 H locs ls ws_8 hn_13 b_14 b_15 HE h hF_9 hl; exact ((o24_22 b_14 b_15 hn_13)).elim
    | succ n_12 ih_11 =>
      intro x2_7 H locs ls ws_8 hn_13 b_14 b_15 HE h hF_9 hl
      obtain ⟨R7, hR7⟩ : ∃ z, z = L2_X5_both_2 n_12 := ⟨_, rfl⟩
      replace HE : FT = g3l_X5_both_2 R7 (xso SC ad ws_8) x2_7.toInt := HE.trans (by rw [hR7]; rfl)
      refine lv_iload_n C0.1 C0.2.1 dX5_both_7 rfl (lv_at hl 0 rfl) ?_
      refine y_c3 (n := 900) C0 (by decide) dX5_both_8 (fun v_16 e_17 => ?_)
      replace HE : FT = g4b_X5_both_2 R7 (xso SC ad ws_8) x2_7.toInt := HE.trans rfl
      refine y_icmp_ge (tgt := 48) C0 dX5_both_11 (by decide) (fun c_18 => ?_) (fun c_18 => ?_)
      · -- 11
        replace HE : FT = g5_X5_both_2 (xso SC ad ws_8) := HE.trans (if_neg (o24_24 b_14 b_15 hn_13 e_17 c_18))
        replace HE : FT = ((xso SC ad ws_8), 0) := HE.trans rfl
        rw [hQ]
        exact y_vret C0 h (Fr.tr u_2 hF_9) (congrArg Prod.fst (HE.symm.trans hFT)) dX5_both_48
      · -- 11
        replace HE : FT = g6_X5_both_2 R7 (xso SC ad ws_8) x2_7.toInt := HE.trans (if_pos (o24_25 b_14 b_15 hn_13 e_17 c_18))
        refine lv_aload_n C0.1 C0.2.1 dX5_both_14 rfl (lv_at hl 1 rfl) ?_
        refine va_ldcS C0.1 C0.2.1 C0.2.2.2.1 (sr_20 hZ) dX5_both_15 ?_
        refine y_ci h (y_rV (As := [.ref (Z.2.1 20)]) (rest := []) C0 hZ h (c_X5_isWord l G Z ad _ h.2 20 (by decide)) k_X5_isWord q_724 q_5 q_722 kSC_77 rfl rfl rfl hl.1 rfl rfl (Nat.le_of_ble_eq_true rfl) dX5_both_17 ⟨Nat.le_of_ble_eq_true rfl, Nat.le_of_ble_eq_true rfl⟩ ⟨Nat.le_of_ble_eq_true rfl, Nat.le_of_ble_eq_true rfl⟩) (fun r_22 H locs ws_19 h u_20 p_21 => ?_)
        obtain ⟨e_23, e_24, e_25, e_26⟩ := p_21
        replace HE : FT = g7c_X5_both_2 R7 (xso SC ad ws_19) r_22.toInt x2_7.toInt := HE.trans (by rw [e_23, e_24]; rfl)
        replace HE : FT = g8b_X5_both_2 R7 (xso SC ad ws_19) r_22.toInt x2_7.toInt := HE.trans rfl
        refine y_if_eq (tgt := 48) C0 dX5_both_20 (by decide) (fun c_27 => ?_) (fun c_27 => ?_)
        · -- 20
          replace HE : FT = g9_X5_both_2 (xso SC ad ws_19) := HE.trans (if_pos c_27)
          replace HE : FT = ((xso SC ad ws_19), 0) := HE.trans rfl
          rw [hQ]
          exact y_vret C0 h (Fr.tr (Fr.tr u_2 hF_9) (Fr.mono u_20 (by decide))) (congrArg Prod.fst (HE.symm.trans hFT)) dX5_both_48
        · -- 20
          replace HE : FT = g10_X5_both_2 R7 (xso SC ad ws_19) x2_7.toInt := HE.trans (if_neg c_27)
          refine lv_aload_n C0.1 C0.2.1 dX5_both_23 rfl (lv_at hl 1 rfl) ?_
          refine y_cv h (y_rV (As := []) (rest := []) C0 hZ h (c_X5_advance l G Z ad _ h.2) k_X5_advance q_616 q_0 q_614 kSC_77 rfl rfl rfl hl.1 rfl rfl (Nat.le_of_ble_eq_true rfl) dX5_both_24 ⟨Nat.le_of_ble_eq_true rfl, Nat.le_of_ble_eq_true rfl⟩ ⟨Nat.le_of_ble_eq_true rfl, Nat.le_of_ble_eq_true rfl⟩) (fun H locs ws_28 h u_29 p_30 => ?_)
          have e_31 := p_30
          replace HE : FT = g11c_X5_both_2 R7 (xso SC ad ws_28) x2_7.toInt := HE.trans (by rw [e_31]; rfl)
          refine lv_aload_n C0.1 C0.2.1 dX5_both_27 rfl (lv_at hl 1 rfl) ?_
          refine lv_iload_n C0.1 C0.2.1 dX5_both_28 rfl (lv_at hl 2 rfl) ?_
          refine y_cv h (y_rV (As := [.int a1]) (rest := []) C0 hZ h (c_X5_unit_2 l G Z ad _ h.2 a1 (o24_100 l1 u1) (o24_101 l1 u1)) k_X5_unit q_851 q_21 q_849 kSC_77 rfl rfl rfl hl.1 rfl rfl (Nat.le_of_ble_eq_true rfl) dX5_both_29 ⟨Nat.le_of_ble_eq_true rfl, Nat.le_of_ble_eq_true rfl⟩ ⟨Nat.le_of_ble_eq_true rfl, Nat.le_of_ble_eq_true rfl⟩) (fun H locs ws_32 h u_33 p_34 => ?_)
          have e_35 := p_34
          replace HE : FT = g12c_X5_both_2 R7 (xso SC ad ws_32) x2_7.toInt := HE.trans (by rw [e_35, (o24_102 l1 u1)]; rfl)
          refine lv_aload_n C0.1 C0.2.1 dX5_both_32 rfl (lv_at hl 1 rfl) ?_
          refine tg_X5_law C0 h kSC_77 q_380 dX5_both_33 (fun i_36 hi_36 ei_36 => ?_)
          refine y_c3 (n := 2006) C0 (by decide) dX5_both_36 (fun v_37 e_38 => ?_)
          refine y_cv h (y_rV (As := [.int v_37]) (rest := []) C0 hZ h (c_X4_add l G Z ad _ h.2 i_36 hi_36 v_37) k_X4_add q_827 q_828 q_826 hi_36 rfl rfl rfl hl.1 rfl rfl (Nat.le_of_ble_eq_true rfl) dX5_both_39 ⟨Nat.le_of_ble_eq_true rfl, Nat.le_of_ble_eq_true rfl⟩ ⟨Nat.le_of_ble_eq_true rfl, Nat.le_of_ble_eq_true rfl⟩) (fun H locs ws_39 h u_40 p_41 => ?_)
          have e_42 := p_41
          replace HE : FT = g13c_X5_both_2 R7 (xso SC ad ws_39) x2_7.toInt := HE.trans (by rw [e_42, e_38, ei_36]; rfl)
          refine y_inc (kp := 0) (n := 1) (fun v_43 => [(2, .int v_43), (0, .ref (ad 77)), (1, .int a1)]) C0 hl rfl (by decide) (by decide) (fun _ => rfl) (o24_29 b_14 b_15 hn_13 e_17 c_18 (le_min x2_7) (le_max x2_7) (le_min v_16) (le_max v_16)) (o24_30 b_14 b_15 hn_13 e_17 c_18 (le_min x2_7) (le_max x2_7) (le_min v_16) (le_max v_16)) dX5_both_42 (fun v_43 ls e_44 hl => ?_)
          refine lv_goto (tgt := 7) C0.1 C0.2.1 dX5_both_45 (by decide) ?_
          exact ih_11 v_43 _ _ _ _ (o24_31 b_14 b_15 hn_13 e_17 c_18 e_44) (o24_32 b_14 b_15 hn_13 e_17 c_18 e_44) (o24_33 b_14 b_15 hn_13 e_17 c_18 e_44) (((show FT = R7 (xso SC ad ws_39) v_43.toInt from HE.trans (by rw [e_44]; rfl)).trans (by rw [hR7]))) h (Fr.tr (Fr.tr (Fr.tr (Fr.tr hF_9 (Fr.mono u_20 (by decide))) (Fr.mono u_29 (by decide))) u_33) (Fr.mono u_40 (by decide))) (lv_sub hl [0, 1, 2] rfl)
  exact lp_10 ((900 - v_5.toInt + 1).toNat) v_5 _ _ _ _ (o24_34 e_6) (o24_35 e_6) (o24_36 e_6) ((show FT = L2_X5_both_2 (Int.toNat (900 - v_5.toInt + 1)) (xso SC ad ws_1) v_5.toInt from HE.trans (by rw [e_6]; rfl))) h Fr.rf (lv_sub hl [0, 1, 2] rfl)
noncomputable def g5_X5_truth_2 (s : XS) : XR := (s, 0)
noncomputable def g9_X5_truth_2 (s : XS) : XR := (s, 0)
noncomputable def g13c_X5_truth_2 (R7 : XS → Int → XR) (s : XS) (x2_7 : Int) : XR := R7 s ((x2_7 + 1))
noncomputable def g12c_X5_truth_2 (R7 : XS → Int → XR) (s : XS) (x2_7 : Int) : XR := g13c_X5_truth_2 R7 ((f_X4_add s (Int.toNat (s 3 77 10)) 2007).1) x2_7
noncomputable def g11c_X5_truth_2 (R7 : XS → Int → XR) (s : XS) (x2_7 : Int) : XR := g12c_X5_truth_2 R7 ((f_X5_both_2 s 2).1) x2_7
noncomputable def g10_X5_truth_2 (R7 : XS → Int → XR) (s : XS) (x2_7 : Int) : XR := g11c_X5_truth_2 R7 ((f_X5_advance s).1) x2_7
noncomputable def g8b_X5_truth_2 (R7 : XS → Int → XR) (s : XS) (r_22 : Int) (x2_7 : Int) : XR := if r_22 = 0 then g9_X5_truth_2 s else g10_X5_truth_2 R7 s x2_7
noncomputable def g7c_X5_truth_2 (R7 : XS → Int → XR) (s : XS) (r_22 : Int) (x2_7 : Int) : XR := g8b_X5_truth_2 R7 s r_22 x2_7
noncomputable def g6_X5_truth_2 (R7 : XS → Int → XR) (s : XS) (x2_7 : Int) : XR := g7c_X5_truth_2 R7 ((f_X5_isWord s 21).1) (((f_X5_isWord s 21).2)) x2_7
noncomputable def g4b_X5_truth_2 (R7 : XS → Int → XR) (s : XS) (x2_7 : Int) : XR := if x2_7 < 900 then g6_X5_truth_2 R7 s x2_7 else g5_X5_truth_2 s
noncomputable def g3l_X5_truth_2 (R7 : XS → Int → XR) (s : XS) (x2_7 : Int) : XR := g4b_X5_truth_2 R7 s x2_7
noncomputable def L2_X5_truth_2 (n : Nat) : XS → Int → XR := Nat.rec (motive := fun _ => XS → Int → XR) (fun s _ => (s, 0)) (fun _ R7 => g3l_X5_truth_2 R7) n
noncomputable def g1c_X5_truth_2 (s : XS) : XR := L2_X5_truth_2 (Int.toNat (900 - 0 + 1)) s 0
noncomputable def f_X5_truth_2 (s : XS) (a1 : Int) : XR := g1c_X5_truth_2 ((f_X5_both_2 s a1).1)
set_option maxHeartbeats 4000000 in
set_option maxRecDepth 100000 in
theorem c_X5_truth_2 (l : Launch) (G : GG) (Z : RZ) (ad : Nat → Nat) (ws0 : va_W) (hT : Ty G SC ad ws0) (a1 : Int32) (l1 : 2 ≤ a1.toInt) (u1 : a1.toInt ≤ 2) : Mq l yX5_truth cX5_truth 3 none 23 G Z [.ref (ad 77), .int a1] ws0 (PV G SC ad [2, 3, 16] ws0 (fun u => (xso SC ad u = (f_X5_truth_2 (xso SC ad ws0) a1.toInt).1))) := by
  refine Mq.start (by decide) (Nat.le_of_ble_eq_true rfl) ?_
  intro p e s m below meth c A ls C0 hZ h hl
  have hl : lv_has ls 3 [(0, .ref (ad 77)), (1, .int a1)] := hl
  have h : Wt G SC ad A s s.heap [] ws0 := ⟨h, hT⟩
  obtain ⟨args, hargs⟩ : ∃ z, z = ([.ref (ad 77), .int a1] : List Value).toArray := ⟨_, rfl⟩
  rw [← hargs] at C0 ⊢
  have C0 : Cx p s m args meth c RX5 cX5_truth 3 none := C0
  obtain ⟨Q, hQ⟩ : ∃ z, z = MQ below ((PV G SC ad [2, 3, 16] ws0 (fun u => (xso SC ad u = (f_X5_truth_2 (xso SC ad ws0) a1.toInt).1))) A) args s 0 0 A := ⟨_, rfl⟩
  rw [← hQ]
  obtain ⟨FT, hFT⟩ : ∃ z, z = f_X5_truth_2 (xso SC ad ws0) a1.toInt := ⟨_, rfl⟩
  have HE : FT = f_X5_truth_2 (xso SC ad ws0) a1.toInt := hFT
  refine lv_aload_n C0.1 C0.2.1 dX5_truth_0 rfl (lv_at hl 0 rfl) ?_
  refine lv_iload_n C0.1 C0.2.1 dX5_truth_1 rfl (lv_at hl 1 rfl) ?_
  refine y_cv h (y_rV (As := [.int a1]) (rest := []) C0 hZ h (c_X5_both_2 l G Z ad _ h.2 a1 (o24_100 l1 u1) (o24_101 l1 u1)) k_X5_both q_847 q_20 q_845 kSC_77 rfl rfl rfl hl.1 rfl rfl (Nat.le_of_ble_eq_true rfl) dX5_truth_2 ⟨Nat.le_of_ble_eq_true rfl, Nat.le_of_ble_eq_true rfl⟩ ⟨Nat.le_of_ble_eq_true rfl, Nat.le_of_ble_eq_true rfl⟩) (fun H locs ws_1 h u_2 p_3 => ?_)
  have e_4 := p_3
  replace HE : FT = g1c_X5_truth_2 (xso SC ad ws_1) := HE.trans (by rw [e_4]; rfl)
  refine y_c1 (n := 0) C0 (by decide) dX5_truth_5 (fun v_5 e_6 => ?_)
  refine lv_istore_n (lv' := [(2, .int v_5), (0, .ref (ad 77)), (1, .int a1)]) C0.1 C0.2.1 dX5_truth_6 rfl hl (by decide) rfl (fun ls hl => ?_)
  have lp_10 : ∀ (n_12 : Nat) (x2_7 : Int32) (H : Heap) (locs : List Loc) (ls : Array Slot) (ws_8 : va_W), 900 - x2_7.toInt < (n_12 : Int) → 0 ≤ x2_7.toInt → x2_7.toInt ≤ 900 → (FT = L2_X5_truth_2 n_12 (xso SC ad ws_8) x2_7.toInt) → Wt G SC ad A s H locs ws_8 → Fr SC [2, 3, 16] ws_1 ws_8 → lv_has ls 3 [(2, .int x2_7), (0, .ref (ad 77)), (1, .int a1)] → W p l e (rmd 23 0 0) s m args below meth c H locs 0 0 Q (F0 m 7 ls []) := by
    intro n_12
    induction n_12 with
    | zero => intro x2_7 H locs ls ws_8 hn_13 b_14 b_15 HE h hF_9 hl; exact ((o24_22 b_14 b_15 hn_13)).elim
    | succ n_12 ih_11 =>
      intro x2_7 H locs ls ws_8 hn_13 b_14 b_15 HE h hF_9 hl
      obtain ⟨R7, hR7⟩ : ∃ z, z = L2_X5_truth_2 n_12 := ⟨_, rfl⟩
      replace HE : FT = g3l_X5_truth_2 R7 (xso SC ad ws_8) x2_7.toInt := HE.trans (by rw [hR7]; rfl)
      refine lv_iload_n C0.1 C0.2.1 dX5_truth_7 rfl (lv_at hl 0 rfl) ?_
      refine y_c3 (n := 900) C0 (by decide) dX5_truth_8 (fun v_16 e_17 => ?_)
      replace HE : FT = g4b_X5_truth_2 R7 (xso SC ad ws_8) x2_7.toInt := HE.trans rfl
      refine y_icmp_ge (tgt := 48) C0 dX5_truth_11 (by decide) (fun c_18 => ?_) (fun c_18 => ?_)
      · -- 11
        replace HE : FT = g5_X5_truth_2 (xso SC ad ws_8) := HE.trans (if_neg (o24_24 b_14 b_15 hn_13 e_17 c_18))
        replace HE : FT = ((xso SC ad ws_8), 0) := HE.trans rfl
        rw [hQ]
        exact y_vret C0 h (Fr.tr u_2 hF_9) (congrArg Prod.fst (HE.symm.trans hFT)) dX5_truth_48
      · -- 11
        replace HE : FT = g6_X5_truth_2 R7 (xso SC ad ws_8) x2_7.toInt := HE.trans (if_pos (o24_25 b_14 b_15 hn_13 e_17 c_18))
        refine lv_aload_n C0.1 C0.2.1 dX5_truth_14 rfl (lv_at hl 1 rfl) ?_
        refine va_ldcS C0.1 C0.2.1 C0.2.2.2.1 (sr_21 hZ) dX5_truth_15 ?_
        refine y_ci h (y_rV (As := [.ref (Z.2.1 21)]) (rest := []) C0 hZ h (c_X5_isWord l G Z ad _ h.2 21 (by decide)) k_X5_isWord q_724 q_5 q_722 kSC_77 rfl rfl rfl hl.1 rfl rfl (Nat.le_of_ble_eq_true rfl) dX5_truth_17 ⟨Nat.le_of_ble_eq_true rfl, Nat.le_of_ble_eq_true rfl⟩ ⟨Nat.le_of_ble_eq_true rfl, Nat.le_of_ble_eq_true rfl⟩) (fun r_22 H locs ws_19 h u_20 p_21 => ?_)
        obtain ⟨e_23, e_24, e_25, e_26⟩ := p_21
        replace HE : FT = g7c_X5_truth_2 R7 (xso SC ad ws_19) r_22.toInt x2_7.toInt := HE.trans (by rw [e_23, e_24]; rfl)
        replace HE : FT = g8b_X5_truth_2 R7 (xso SC ad ws_19) r_22.toInt x2_7.toInt := HE.trans rfl
        refine y_if_eq (tgt := 48) C0 dX5_truth_20 (by decide) (fun c_27 => ?_) (fun c_27 => ?_)
        · -- 20
          replace HE : FT = g9_X5_truth_2 (xso SC ad ws_19) := HE.trans (if_pos c_27)
          replace HE : FT = ((xso SC ad ws_19), 0) := HE.trans rfl
          rw [hQ]
          exact y_vret C0 h (Fr.tr (Fr.tr u_2 hF_9) (Fr.mono u_20 (by decide))) (congrArg Prod.fst (HE.symm.trans hFT)) dX5_truth_48
        · -- 20
          replace HE : FT = g10_X5_truth_2 R7 (xso SC ad ws_19) x2_7.toInt := HE.trans (if_neg c_27)
          refine lv_aload_n C0.1 C0.2.1 dX5_truth_23 rfl (lv_at hl 1 rfl) ?_
          refine y_cv h (y_rV (As := []) (rest := []) C0 hZ h (c_X5_advance l G Z ad _ h.2) k_X5_advance q_616 q_0 q_614 kSC_77 rfl rfl rfl hl.1 rfl rfl (Nat.le_of_ble_eq_true rfl) dX5_truth_24 ⟨Nat.le_of_ble_eq_true rfl, Nat.le_of_ble_eq_true rfl⟩ ⟨Nat.le_of_ble_eq_true rfl, Nat.le_of_ble_eq_true rfl⟩) (fun H locs ws_28 h u_29 p_30 => ?_)
          have e_31 := p_30
          replace HE : FT = g11c_X5_truth_2 R7 (xso SC ad ws_28) x2_7.toInt := HE.trans (by rw [e_31]; rfl)
          refine lv_aload_n C0.1 C0.2.1 dX5_truth_27 rfl (lv_at hl 1 rfl) ?_
          refine lv_iload_n C0.1 C0.2.1 dX5_truth_28 rfl (lv_at hl 2 rfl) ?_
          refine y_cv h (y_rV (As := [.int a1]) (rest := []) C0 hZ h (c_X5_both_2 l G Z ad _ h.2 a1 (o24_100 l1 u1) (o24_101 l1 u1)) k_X5_both q_847 q_20 q_845 kSC_77 rfl rfl rfl hl.1 rfl rfl (Nat.le_of_ble_eq_true rfl) dX5_truth_29 ⟨Nat.le_of_ble_eq_true rfl, Nat.le_of_ble_eq_true rfl⟩ ⟨Nat.le_of_ble_eq_true rfl, Nat.le_of_ble_eq_true rfl⟩) (fun H locs ws_32 h u_33 p_34 => ?_)
          have e_35 := p_34
          replace HE : FT = g12c_X5_truth_2 R7 (xso SC ad ws_32) x2_7.toInt := HE.trans (by rw [e_35, (o24_102 l1 u1)]; rfl)
          refine lv_aload_n C0.1 C0.2.1 dX5_truth_32 rfl (lv_at hl 1 rfl) ?_
          refine tg_X5_law C0 h kSC_77 q_380 dX5_truth_33 (fun i_36 hi_36 ei_36 => ?_)
          refine y_c3 (n := 2007) C0 (by decide) dX5_truth_36 (fun v_37 e_38 => ?_)
          refine y_cv h (y_rV (As := [.int v_37]) (rest := []) C0 hZ h (c_X4_add l G Z ad _ h.2 i_36 hi_36 v_37) k_X4_add q_827 q_828 q_826 hi_36 rfl rfl rfl hl.1 rfl rfl (Nat.le_of_ble_eq_true rfl) dX5_truth_39 ⟨Nat.le_of_ble_eq_true rfl, Nat.le_of_ble_eq_true rfl⟩ ⟨Nat.le_of_ble_eq_true rfl, Nat.le_of_ble_eq_true rfl⟩) (fun H locs ws_39 h u_40 p_41 => ?_)
          have e_42 := p_41
          replace HE : FT = g13c_X5_truth_2 R7 (xso SC ad ws_39) x2_7.toInt := HE.trans (by rw [e_42, e_38, ei_36]; rfl)
          refine y_inc (kp := 0) (n := 1) (fun v_43 => [(2, .int v_43), (0, .ref (ad 77)), (1, .int a1)]) C0 hl rfl (by decide) (by decide) (fun _ => rfl) (o24_29 b_14 b_15 hn_13 e_17 c_18 (le_min x2_7) (le_max x2_7) (le_min v_16) (le_max v_16)) (o24_30 b_14 b_15 hn_13 e_17 c_18 (le_min x2_7) (le_max x2_7) (le_min v_16) (le_max v_16)) dX5_truth_42 (fun v_43 ls e_44 hl => ?_)
          refine lv_goto (tgt := 7) C0.1 C0.2.1 dX5_truth_45 (by decide) ?_
          exact ih_11 v_43 _ _ _ _ (o24_31 b_14 b_15 hn_13 e_17 c_18 e_44) (o24_32 b_14 b_15 hn_13 e_17 c_18 e_44) (o24_33 b_14 b_15 hn_13 e_17 c_18 e_44) (((show FT = R7 (xso SC ad ws_39) v_43.toInt from HE.trans (by rw [e_44]; rfl)).trans (by rw [hR7]))) h (Fr.tr (Fr.tr (Fr.tr (Fr.tr hF_9 (Fr.mono u_20 (by decide))) (Fr.mono u_29 (by decide))) u_33) (Fr.mono u_40 (by decide))) (lv_sub hl [0, 1, 2] rfl)
  exact lp_10 ((900 - v_5.toInt + 1).toNat) v_5 _ _ _ _ (o24_34 e_6) (o24_35 e_6) (o24_36 e_6) ((show FT = L2_X5_truth_2 (Int.toNat (900 - v_5.toInt + 1)) (xso SC ad ws_1) v_5.toInt from HE.trans (by rw [e_6]; rfl))) h Fr.rf (lv_sub hl [0, 1, 2] rfl)
noncomputable def f_X5_tooDeep_1 (s : XS) (a1 : Int) : XR := (s, 0)
set_option maxHeartbeats 4000000 in
set_option maxRecDepth 100000 in
theorem c_X5_tooDeep_1 (l : Launch) (G : GG) (Z : RZ) (ad : Nat → Nat) (ws0 : va_W) (hT : Ty G SC ad ws0) (a1 : Int32) (l1 : 1 ≤ a1.toInt) (u1 : a1.toInt ≤ 1) : Mq l yX5_tooDeep cX5_tooDeep 2 (some .boolean) 1 G Z [.ref (ad 77), .int a1] ws0 (PI G SC ad [] ws0 (fun r u => (xso SC ad u = (f_X5_tooDeep_1 (xso SC ad ws0) a1.toInt).1) ∧ (r.toInt = (f_X5_tooDeep_1 (xso SC ad ws0) a1.toInt).2) ∧ (0 ≤ r.toInt) ∧ (r.toInt ≤ 0))) := by
  refine Mq.start (by decide) (Nat.le_of_ble_eq_true rfl) ?_
  intro p e s m below meth c A ls C0 hZ h hl
  have hl : lv_has ls 2 [(0, .ref (ad 77)), (1, .int a1)] := hl
  have h : Wt G SC ad A s s.heap [] ws0 := ⟨h, hT⟩
  obtain ⟨args, hargs⟩ : ∃ z, z = ([.ref (ad 77), .int a1] : List Value).toArray := ⟨_, rfl⟩
  rw [← hargs] at C0 ⊢
  have C0 : Cx p s m args meth c RX5 cX5_tooDeep 2 (some .boolean) := C0
  obtain ⟨Q, hQ⟩ : ∃ z, z = MQ below ((PI G SC ad [] ws0 (fun r u => (xso SC ad u = (f_X5_tooDeep_1 (xso SC ad ws0) a1.toInt).1) ∧ (r.toInt = (f_X5_tooDeep_1 (xso SC ad ws0) a1.toInt).2) ∧ (0 ≤ r.toInt) ∧ (r.toInt ≤ 0))) A) args s 0 0 A := ⟨_, rfl⟩
  rw [← hQ]
  obtain ⟨FT, hFT⟩ : ∃ z, z = f_X5_tooDeep_1 (xso SC ad ws0) a1.toInt := ⟨_, rfl⟩
  have HE : FT = f_X5_tooDeep_1 (xso SC ad ws0) a1.toInt := hFT
  refine lv_iload_n C0.1 C0.2.1 dX5_tooDeep_0 rfl (lv_at hl 1 rfl) ?_
  refine y_c2 (n := 6) C0 (by decide) dX5_tooDeep_1 (fun v_1 e_2 => ?_)
  refine y_icmp_lt (tgt := 13) C0 dX5_tooDeep_3 (by decide) (fun c_3 => ?_) (fun c_3 => ((o24_108 l1 u1 e_2 c_3)).elim)
  refine y_c1 (n := 0) C0 (by decide) dX5_tooDeep_13 (fun v_4 e_5 => ?_)
  replace HE : FT = ((xso SC ad ws0), v_4.toInt) := HE.trans (by rw [e_5]; rfl)
  rw [hQ]
  exact y_zret C0 h (o24_35 e_5) (o24_67 e_5) Fr.rf ⟨(congrArg Prod.fst (HE.symm.trans hFT)), (congrArg Prod.snd (HE.symm.trans hFT)), (o24_35 e_5), (o24_66 e_5)⟩ dX5_tooDeep_14
noncomputable def g31c_X5_atom_1 (s : XS) : XR := (s, 0)
noncomputable def g29_X5_atom_1 (s : XS) : XR := g31c_X5_atom_1 ((f_X5_fail s 2).1)
noncomputable def g33c_X5_atom_1 (s : XS) : XR := (s, 0)
noncomputable def g32c_X5_atom_1 (s : XS) : XR := g33c_X5_atom_1 ((f_X5_advance s).1)
noncomputable def g30_X5_atom_1 (s : XS) : XR := g32c_X5_atom_1 ((f_X4_add s (Int.toNat (s 3 77 10)) 1005).1)
noncomputable def g28b_X5_atom_1 (s : XS) (r_64 : Int) : XR := if r_64 = 0 then g29_X5_atom_1 s else g30_X5_atom_1 s
noncomputable def g27c_X5_atom_1 (s : XS) (r_64 : Int) : XR := g28b_X5_atom_1 s r_64
noncomputable def g25_X5_atom_1 (s : XS) : XR := g27c_X5_atom_1 ((f_X5_isWord s 17).1) (((f_X5_isWord s 17).2))
noncomputable def g35c_X5_atom_1 (s : XS) : XR := (s, 0)
noncomputable def g34c_X5_atom_1 (s : XS) : XR := g35c_X5_atom_1 ((f_X5_advance s).1)
noncomputable def g26_X5_atom_1 (s : XS) : XR := g34c_X5_atom_1 ((f_X4_add s (Int.toNat (s 3 77 10)) 1004).1)
noncomputable def g24b_X5_atom_1 (s : XS) (r_55 : Int) : XR := if r_55 = 0 then g25_X5_atom_1 s else g26_X5_atom_1 s
noncomputable def g23c_X5_atom_1 (s : XS) (r_55 : Int) : XR := g24b_X5_atom_1 s r_55
noncomputable def g21_X5_atom_1 (s : XS) : XR := g23c_X5_atom_1 ((f_X5_isWord s 16).1) (((f_X5_isWord s 16).2))
noncomputable def g37c_X5_atom_1 (s : XS) : XR := (s, 0)
noncomputable def g36c_X5_atom_1 (s : XS) : XR := g37c_X5_atom_1 ((f_X5_advance s).1)
noncomputable def g22_X5_atom_1 (s : XS) : XR := g36c_X5_atom_1 ((f_X4_add s (Int.toNat (s 3 77 10)) 1003).1)
noncomputable def g20b_X5_atom_1 (s : XS) (r_46 : Int) : XR := if r_46 = 0 then g21_X5_atom_1 s else g22_X5_atom_1 s
noncomputable def g19c_X5_atom_1 (s : XS) (r_46 : Int) : XR := g20b_X5_atom_1 s r_46
noncomputable def g17_X5_atom_1 (s : XS) : XR := g19c_X5_atom_1 ((f_X5_isWord s 15).1) (((f_X5_isWord s 15).2))
noncomputable def g39c_X5_atom_1 (s : XS) : XR := (s, 0)
noncomputable def g38c_X5_atom_1 (s : XS) : XR := g39c_X5_atom_1 ((f_X5_advance s).1)
noncomputable def g18_X5_atom_1 (s : XS) : XR := g38c_X5_atom_1 ((f_X4_add s (Int.toNat (s 3 77 10)) 1002).1)
noncomputable def g16b_X5_atom_1 (s : XS) (r_37 : Int) : XR := if r_37 = 0 then g17_X5_atom_1 s else g18_X5_atom_1 s
noncomputable def g15c_X5_atom_1 (s : XS) (r_37 : Int) : XR := g16b_X5_atom_1 s r_37
noncomputable def g13_X5_atom_1 (s : XS) : XR := g15c_X5_atom_1 ((f_X5_isWord s 14).1) (((f_X5_isWord s 14).2))
noncomputable def g41c_X5_atom_1 (s : XS) : XR := (s, 0)
noncomputable def g40c_X5_atom_1 (s : XS) : XR := g41c_X5_atom_1 ((f_X5_advance s).1)
noncomputable def g14_X5_atom_1 (s : XS) : XR := g40c_X5_atom_1 ((f_X4_add s (Int.toNat (s 3 77 10)) 1001).1)
noncomputable def g12b_X5_atom_1 (s : XS) (r_28 : Int) : XR := if r_28 = 0 then g13_X5_atom_1 s else g14_X5_atom_1 s
noncomputable def g11c_X5_atom_1 (s : XS) (r_28 : Int) : XR := g12b_X5_atom_1 s r_28
noncomputable def g9_X5_atom_1 (s : XS) : XR := g11c_X5_atom_1 ((f_X5_isWord s 13).1) (((f_X5_isWord s 13).2))
noncomputable def g43c_X5_atom_1 (s : XS) : XR := (s, 0)
noncomputable def g42c_X5_atom_1 (s : XS) : XR := g43c_X5_atom_1 ((f_X5_advance s).1)
noncomputable def g10_X5_atom_1 (s : XS) : XR := g42c_X5_atom_1 ((f_X4_add s (Int.toNat (s 3 77 10)) 1000).1)
noncomputable def g8b_X5_atom_1 (s : XS) (r_19 : Int) : XR := if r_19 = 0 then g9_X5_atom_1 s else g10_X5_atom_1 s
noncomputable def g7c_X5_atom_1 (s : XS) (r_19 : Int) : XR := g8b_X5_atom_1 s r_19
noncomputable def g5_X5_atom_1 (s : XS) : XR := g7c_X5_atom_1 ((f_X5_isWord s 12).1) (((f_X5_isWord s 12).2))
noncomputable def g47c_X5_atom_1 (s : XS) : XR := (s, 0)
noncomputable def g46c_X5_atom_1 (s : XS) : XR := g47c_X5_atom_1 ((f_X5_sign s 41).1)
noncomputable def g45c_X5_atom_1 (s : XS) : XR := g46c_X5_atom_1 ((f_X5_sum_2 s (1 + 1)).1)
noncomputable def g44c_X5_atom_1 (s : XS) : XR := g45c_X5_atom_1 ((f_X5_advance s).1)
noncomputable def g6_X5_atom_1 (s : XS) : XR := g44c_X5_atom_1 ((f_X5_tooDeep_1 s 1).1)
noncomputable def g4b_X5_atom_1 (s : XS) (v_8 : Int) : XR := if v_8 = 40 then g6_X5_atom_1 s else g5_X5_atom_1 s
noncomputable def g2_X5_atom_1 (s : XS) : XR := g4b_X5_atom_1 s ((s 0 77 4))
noncomputable def g49c_X5_atom_1 (s : XS) : XR := (s, 0)
noncomputable def g48c_X5_atom_1 (s : XS) : XR := g49c_X5_atom_1 ((f_X5_advance s).1)
noncomputable def g3_X5_atom_1 (s : XS) : XR := g48c_X5_atom_1 ((f_X4_add s (Int.toNat (s 3 77 10)) (s 0 77 7)).1)
noncomputable def g1b_X5_atom_1 (s : XS) (v_1 : Int) : XR := if v_1 = 2 then g3_X5_atom_1 s else g2_X5_atom_1 s
noncomputable def f_X5_atom_1 (s : XS) (a1 : Int) : XR := g1b_X5_atom_1 s ((s 0 77 4))
set_option maxHeartbeats 4000000 in
set_option maxRecDepth 100000 in
theorem c_X5_atom_1 (l : Launch) (G : GG) (Z : RZ) (ad : Nat → Nat) (ws0 : va_W) (hT : Ty G SC ad ws0) (a1 : Int32) (l1 : 1 ≤ a1.toInt) (u1 : a1.toInt ≤ 1) : Mq l yX5_atom cX5_atom 3 none 21 G Z [.ref (ad 77), .int a1] ws0 (PV G SC ad [2, 3, 16] ws0 (fun u => (xso SC ad u = (f_X5_atom_1 (xso SC ad ws0) a1.toInt).1))) := by
  refine Mq.start (by decide) (Nat.le_of_ble_eq_true rfl) ?_
  intro p e s m below meth c A ls C0 hZ h hl
  have hl : lv_has ls 3 [(0, .ref (ad 77)), (1, .int a1)] := hl
  have h : Wt G SC ad A s s.heap [] ws0 := ⟨h, hT⟩
  obtain ⟨args, hargs⟩ : ∃ z, z = ([.ref (ad 77), .int a1] : List Value).toArray := ⟨_, rfl⟩
  rw [← hargs] at C0 ⊢
  have C0 : Cx p s m args meth c RX5 cX5_atom 3 none := C0
  obtain ⟨Q, hQ⟩ : ∃ z, z = MQ below ((PV G SC ad [2, 3, 16] ws0 (fun u => (xso SC ad u = (f_X5_atom_1 (xso SC ad ws0) a1.toInt).1))) A) args s 0 0 A := ⟨_, rfl⟩
  rw [← hQ]
  obtain ⟨FT, hFT⟩ : ∃ z, z = f_X5_atom_1 (xso SC ad ws0) a1.toInt := ⟨_, rfl⟩
  have HE : FT = f_X5_atom_1 (xso SC ad ws0) a1.toInt := hFT
  refine lv_aload_n C0.1 C0.2.1 dX5_atom_0 rfl (lv_at hl 0 rfl) ?_
  refine tg_X5_kind C0 h kSC_77 q_374 dX5_atom_1 (fun v_1 e_2 e_3 e_4 => ?_)
  refine y_c1 (n := 2) C0 (by decide) dX5_atom_4 (fun v_5 e_6 => ?_)
  replace HE : FT = g1b_X5_atom_1 (xso SC ad ws0) v_1.toInt := HE.trans (by rw [(xg0 e_2 : v_1.toInt = (xso SC ad ws0) 0 77 4)]; rfl)
  refine y_icmp_ne (tgt := 26) C0 dX5_atom_5 (by decide) (fun c_7 => ?_) (fun c_7 => ?_)
  · -- 5
    replace HE : FT = g2_X5_atom_1 (xso SC ad ws0) := HE.trans (if_neg (o24_6 e_6 c_7))
    refine lv_aload_n C0.1 C0.2.1 dX5_atom_26 rfl (lv_at hl 0 rfl) ?_
    refine tg_X5_kind C0 h kSC_77 q_374 dX5_atom_27 (fun v_8 e_9 e_10 e_11 => ?_)
    have qh_12 : v_8.toInt = v_1.toInt := congrArg Int32.toInt (e_9.symm.trans (Eq.trans rfl e_2))
    refine y_c2 (n := 40) C0 (by decide) dX5_atom_30 (fun v_13 e_14 => ?_)
    replace HE : FT = g4b_X5_atom_1 (xso SC ad ws0) v_8.toInt := HE.trans (by rw [(xg0 e_9 : v_8.toInt = (xso SC ad ws0) 0 77 4)]; rfl)
    refine y_icmp_ne (tgt := 63) C0 dX5_atom_32 (by decide) (fun c_15 => ?_) (fun c_15 => ?_)
    · -- 32
      replace HE : FT = g5_X5_atom_1 (xso SC ad ws0) := HE.trans (if_neg (o24_9 e_6 c_7 qh_12 e_14 c_15))
      refine lv_aload_n C0.1 C0.2.1 dX5_atom_63 rfl (lv_at hl 0 rfl) ?_
      refine va_ldcS C0.1 C0.2.1 C0.2.2.2.1 (sr_12 hZ) dX5_atom_64 ?_
      refine y_ci h (y_rV (As := [.ref (Z.2.1 12)]) (rest := []) C0 hZ h (c_X5_isWord l G Z ad _ h.2 12 (by decide)) k_X5_isWord q_724 q_5 q_722 kSC_77 rfl rfl rfl hl.1 rfl rfl (Nat.le_of_ble_eq_true rfl) dX5_atom_66 ⟨Nat.le_of_ble_eq_true rfl, Nat.le_of_ble_eq_true rfl⟩ ⟨Nat.le_of_ble_eq_true rfl, Nat.le_of_ble_eq_true rfl⟩) (fun r_19 H locs ws_16 h u_17 p_18 => ?_)
      obtain ⟨e_20, e_21, e_22, e_23⟩ := p_18
      replace HE : FT = g7c_X5_atom_1 (xso SC ad ws_16) r_19.toInt := HE.trans (by rw [e_20, e_21]; rfl)
      replace HE : FT = g8b_X5_atom_1 (xso SC ad ws_16) r_19.toInt := HE.trans rfl
      refine y_if_eq (tgt := 78) C0 dX5_atom_69 (by decide) (fun c_24 => ?_) (fun c_24 => ?_)
      · -- 69
        replace HE : FT = g9_X5_atom_1 (xso SC ad ws_16) := HE.trans (if_pos c_24)
        refine lv_aload_n C0.1 C0.2.1 dX5_atom_78 rfl (lv_at hl 0 rfl) ?_
        refine va_ldcS C0.1 C0.2.1 C0.2.2.2.1 (sr_13 hZ) dX5_atom_79 ?_
        refine y_ci h (y_rV (As := [.ref (Z.2.1 13)]) (rest := []) C0 hZ h (c_X5_isWord l G Z ad _ h.2 13 (by decide)) k_X5_isWord q_724 q_5 q_722 kSC_77 rfl rfl rfl hl.1 rfl rfl (Nat.le_of_ble_eq_true rfl) dX5_atom_81 ⟨Nat.le_of_ble_eq_true rfl, Nat.le_of_ble_eq_true rfl⟩ ⟨Nat.le_of_ble_eq_true rfl, Nat.le_of_ble_eq_true rfl⟩) (fun r_28 H locs ws_25 h u_26 p_27 => ?_)
        obtain ⟨e_29, e_30, e_31, e_32⟩ := p_27
        replace HE : FT = g11c_X5_atom_1 (xso SC ad ws_25) r_28.toInt := HE.trans (by rw [e_29, e_30]; rfl)
        replace HE : FT = g12b_X5_atom_1 (xso SC ad ws_25) r_28.toInt := HE.trans rfl
        refine y_if_eq (tgt := 93) C0 dX5_atom_84 (by decide) (fun c_33 => ?_) (fun c_33 => ?_)
        · -- 84
          replace HE : FT = g13_X5_atom_1 (xso SC ad ws_25) := HE.trans (if_pos c_33)
          refine lv_aload_n C0.1 C0.2.1 dX5_atom_93 rfl (lv_at hl 0 rfl) ?_
          refine va_ldcS C0.1 C0.2.1 C0.2.2.2.1 (sr_14 hZ) dX5_atom_94 ?_
          refine y_ci h (y_rV (As := [.ref (Z.2.1 14)]) (rest := []) C0 hZ h (c_X5_isWord l G Z ad _ h.2 14 (by decide)) k_X5_isWord q_724 q_5 q_722 kSC_77 rfl rfl rfl hl.1 rfl rfl (Nat.le_of_ble_eq_true rfl) dX5_atom_96 ⟨Nat.le_of_ble_eq_true rfl, Nat.le_of_ble_eq_true rfl⟩ ⟨Nat.le_of_ble_eq_true rfl, Nat.le_of_ble_eq_true rfl⟩) (fun r_37 H locs ws_34 h u_35 p_36 => ?_)
          obtain ⟨e_38, e_39, e_40, e_41⟩ := p_36
          replace HE : FT = g15c_X5_atom_1 (xso SC ad ws_34) r_37.toInt := HE.trans (by rw [e_38, e_39]; rfl)
          replace HE : FT = g16b_X5_atom_1 (xso SC ad ws_34) r_37.toInt := HE.trans rfl
          refine y_if_eq (tgt := 108) C0 dX5_atom_99 (by decide) (fun c_42 => ?_) (fun c_42 => ?_)
          · -- 99
            replace HE : FT = g17_X5_atom_1 (xso SC ad ws_34) := HE.trans (if_pos c_42)
            refine lv_aload_n C0.1 C0.2.1 dX5_atom_108 rfl (lv_at hl 0 rfl) ?_
            refine va_ldcS C0.1 C0.2.1 C0.2.2.2.1 (sr_15 hZ) dX5_atom_109 ?_
            refine y_ci h (y_rV (As := [.ref (Z.2.1 15)]) (rest := []) C0 hZ h (c_X5_isWord l G Z ad _ h.2 15 (by decide)) k_X5_isWord q_724 q_5 q_722 kSC_77 rfl rfl rfl hl.1 rfl rfl (Nat.le_of_ble_eq_true rfl) dX5_atom_111 ⟨Nat.le_of_ble_eq_true rfl, Nat.le_of_ble_eq_true rfl⟩ ⟨Nat.le_of_ble_eq_true rfl, Nat.le_of_ble_eq_true rfl⟩) (fun r_46 H locs ws_43 h u_44 p_45 => ?_)
            obtain ⟨e_47, e_48, e_49, e_50⟩ := p_45
            replace HE : FT = g19c_X5_atom_1 (xso SC ad ws_43) r_46.toInt := HE.trans (by rw [e_47, e_48]; rfl)
            replace HE : FT = g20b_X5_atom_1 (xso SC ad ws_43) r_46.toInt := HE.trans rfl
            refine y_if_eq (tgt := 123) C0 dX5_atom_114 (by decide) (fun c_51 => ?_) (fun c_51 => ?_)
            · -- 114
              replace HE : FT = g21_X5_atom_1 (xso SC ad ws_43) := HE.trans (if_pos c_51)
              refine lv_aload_n C0.1 C0.2.1 dX5_atom_123 rfl (lv_at hl 0 rfl) ?_
              refine va_ldcS C0.1 C0.2.1 C0.2.2.2.1 (sr_16 hZ) dX5_atom_124 ?_
              refine y_ci h (y_rV (As := [.ref (Z.2.1 16)]) (rest := []) C0 hZ h (c_X5_isWord l G Z ad _ h.2 16 (by decide)) k_X5_isWord q_724 q_5 q_722 kSC_77 rfl rfl rfl hl.1 rfl rfl (Nat.le_of_ble_eq_true rfl) dX5_atom_126 ⟨Nat.le_of_ble_eq_true rfl, Nat.le_of_ble_eq_true rfl⟩ ⟨Nat.le_of_ble_eq_true rfl, Nat.le_of_ble_eq_true rfl⟩) (fun r_55 H locs ws_52 h u_53 p_54 => ?_)
              obtain ⟨e_56, e_57, e_58, e_59⟩ := p_54
              replace HE : FT = g23c_X5_atom_1 (xso SC ad ws_52) r_55.toInt := HE.trans (by rw [e_56, e_57]; rfl)
              replace HE : FT = g24b_X5_atom_1 (xso SC ad ws_52) r_55.toInt := HE.trans rfl
              refine y_if_eq (tgt := 138) C0 dX5_atom_129 (by decide) (fun c_60 => ?_) (fun c_60 => ?_)
              · -- 129
                replace HE : FT = g25_X5_atom_1 (xso SC ad ws_52) := HE.trans (if_pos c_60)
                refine lv_aload_n C0.1 C0.2.1 dX5_atom_138 rfl (lv_at hl 0 rfl) ?_
                refine va_ldcS C0.1 C0.2.1 C0.2.2.2.1 (sr_17 hZ) dX5_atom_139 ?_
                refine y_ci h (y_rV (As := [.ref (Z.2.1 17)]) (rest := []) C0 hZ h (c_X5_isWord l G Z ad _ h.2 17 (by decide)) k_X5_isWord q_724 q_5 q_722 kSC_77 rfl rfl rfl hl.1 rfl rfl (Nat.le_of_ble_eq_true rfl) dX5_atom_141 ⟨Nat.le_of_ble_eq_true rfl, Nat.le_of_ble_eq_true rfl⟩ ⟨Nat.le_of_ble_eq_true rfl, Nat.le_of_ble_eq_true rfl⟩) (fun r_64 H locs ws_61 h u_62 p_63 => ?_)
                obtain ⟨e_65, e_66, e_67, e_68⟩ := p_63
                replace HE : FT = g27c_X5_atom_1 (xso SC ad ws_61) r_64.toInt := HE.trans (by rw [e_65, e_66]; rfl)
                replace HE : FT = g28b_X5_atom_1 (xso SC ad ws_61) r_64.toInt := HE.trans rfl
                refine y_if_eq (tgt := 153) C0 dX5_atom_144 (by decide) (fun c_69 => ?_) (fun c_69 => ?_)
                · -- 144
                  replace HE : FT = g29_X5_atom_1 (xso SC ad ws_61) := HE.trans (if_pos c_69)
                  refine y_c1 (n := (-1)) C0 (by decide) dX5_atom_153 (fun v_70 e_71 => ?_)
                  refine lv_istore_n (lv' := [(2, .int v_70), (0, .ref (ad 77)), (1, .int a1)]) C0.1 C0.2.1 dX5_atom_154 rfl hl (by decide) rfl (fun ls hl => ?_)
                  refine lv_iload_n C0.1 C0.2.1 dX5_atom_155 rfl (lv_at hl 0 rfl) ?_
                  refine y_if_ge (tgt := 165) C0 dX5_atom_156 (by decide) (fun c_72 => ((o24_11 e_71 c_72)).elim) (fun c_72 => ?_)
                  refine lv_aload_n C0.1 C0.2.1 dX5_atom_159 rfl (lv_at hl 1 rfl) ?_
                  refine y_c1 (n := 2) C0 (by decide) dX5_atom_160 (fun v_73 e_74 => ?_)
                  refine y_cv h (y_rV (As := [.int v_73]) (rest := []) C0 hZ h (c_X5_fail l G Z ad _ h.2 v_73) k_X5_fail q_628 q_3 q_626 kSC_77 rfl rfl rfl hl.1 rfl rfl (Nat.le_of_ble_eq_true rfl) dX5_atom_161 ⟨Nat.le_of_ble_eq_true rfl, Nat.le_of_ble_eq_true rfl⟩ ⟨Nat.le_of_ble_eq_true rfl, Nat.le_of_ble_eq_true rfl⟩) (fun H locs ws_75 h u_76 p_77 => ?_)
                  have e_78 := p_77
                  replace HE : FT = g31c_X5_atom_1 (xso SC ad ws_75) := HE.trans (by rw [e_78, e_74]; rfl)
                  replace HE : FT = ((xso SC ad ws_75), 0) := HE.trans rfl
                  rw [hQ]
                  exact y_vret C0 h (Fr.tr (Fr.tr (Fr.tr (Fr.tr (Fr.tr (Fr.tr (Fr.mono u_17 (by decide)) (Fr.mono u_26 (by decide))) (Fr.mono u_35 (by decide))) (Fr.mono u_44 (by decide))) (Fr.mono u_53 (by decide))) (Fr.mono u_62 (by decide))) (Fr.mono u_76 (by decide))) (congrArg Prod.fst (HE.symm.trans hFT)) dX5_atom_164
                · -- 144
                  replace HE : FT = g30_X5_atom_1 (xso SC ad ws_61) := HE.trans (if_neg c_69)
                  refine y_c3 (n := 1005) C0 (by decide) dX5_atom_147 (fun v_79 e_80 => ?_)
                  refine lv_goto (tgt := 154) C0.1 C0.2.1 dX5_atom_150 (by decide) ?_
                  refine lv_istore_n (lv' := [(2, .int v_79), (0, .ref (ad 77)), (1, .int a1)]) C0.1 C0.2.1 dX5_atom_154 rfl hl (by decide) rfl (fun ls hl => ?_)
                  refine lv_iload_n C0.1 C0.2.1 dX5_atom_155 rfl (lv_at hl 0 rfl) ?_
                  refine y_if_ge (tgt := 165) C0 dX5_atom_156 (by decide) (fun c_81 => ?_) (fun c_81 => ((o24_12 e_80 c_81)).elim)
                  refine lv_aload_n C0.1 C0.2.1 dX5_atom_165 rfl (lv_at hl 1 rfl) ?_
                  refine tg_X5_law C0 h kSC_77 q_380 dX5_atom_166 (fun i_82 hi_82 ei_82 => ?_)
                  refine lv_iload_n C0.1 C0.2.1 dX5_atom_169 rfl (lv_at hl 0 rfl) ?_
                  refine y_cv h (y_rV (As := [.int v_79]) (rest := []) C0 hZ h (c_X4_add l G Z ad _ h.2 i_82 hi_82 v_79) k_X4_add q_827 q_828 q_826 hi_82 rfl rfl rfl hl.1 rfl rfl (Nat.le_of_ble_eq_true rfl) dX5_atom_170 ⟨Nat.le_of_ble_eq_true rfl, Nat.le_of_ble_eq_true rfl⟩ ⟨Nat.le_of_ble_eq_true rfl, Nat.le_of_ble_eq_true rfl⟩) (fun H locs ws_83 h u_84 p_85 => ?_)
                  have e_86 := p_85
                  replace HE : FT = g32c_X5_atom_1 (xso SC ad ws_83) := HE.trans (by rw [e_86, e_80, ei_82]; rfl)
                  refine lv_aload_n C0.1 C0.2.1 dX5_atom_173 rfl (lv_at hl 1 rfl) ?_
                  refine y_cv h (y_rV (As := []) (rest := []) C0 hZ h (c_X5_advance l G Z ad _ h.2) k_X5_advance q_616 q_0 q_614 kSC_77 rfl rfl rfl hl.1 rfl rfl (Nat.le_of_ble_eq_true rfl) dX5_atom_174 ⟨Nat.le_of_ble_eq_true rfl, Nat.le_of_ble_eq_true rfl⟩ ⟨Nat.le_of_ble_eq_true rfl, Nat.le_of_ble_eq_true rfl⟩) (fun H locs ws_87 h u_88 p_89 => ?_)
                  have e_90 := p_89
                  replace HE : FT = g33c_X5_atom_1 (xso SC ad ws_87) := HE.trans (by rw [e_90]; rfl)
                  replace HE : FT = ((xso SC ad ws_87), 0) := HE.trans rfl
                  rw [hQ]
                  exact y_vret C0 h (Fr.tr (Fr.tr (Fr.tr (Fr.tr (Fr.tr (Fr.tr (Fr.tr (Fr.mono u_17 (by decide)) (Fr.mono u_26 (by decide))) (Fr.mono u_35 (by decide))) (Fr.mono u_44 (by decide))) (Fr.mono u_53 (by decide))) (Fr.mono u_62 (by decide))) (Fr.mono u_84 (by decide))) (Fr.mono u_88 (by decide))) (congrArg Prod.fst (HE.symm.trans hFT)) dX5_atom_177
              · -- 129
                replace HE : FT = g26_X5_atom_1 (xso SC ad ws_52) := HE.trans (if_neg c_60)
                refine y_c3 (n := 1004) C0 (by decide) dX5_atom_132 (fun v_91 e_92 => ?_)
                refine lv_goto (tgt := 154) C0.1 C0.2.1 dX5_atom_135 (by decide) ?_
                refine lv_istore_n (lv' := [(2, .int v_91), (0, .ref (ad 77)), (1, .int a1)]) C0.1 C0.2.1 dX5_atom_154 rfl hl (by decide) rfl (fun ls hl => ?_)
                refine lv_iload_n C0.1 C0.2.1 dX5_atom_155 rfl (lv_at hl 0 rfl) ?_
                refine y_if_ge (tgt := 165) C0 dX5_atom_156 (by decide) (fun c_93 => ?_) (fun c_93 => ((o24_13 e_92 c_93)).elim)
                refine lv_aload_n C0.1 C0.2.1 dX5_atom_165 rfl (lv_at hl 1 rfl) ?_
                refine tg_X5_law C0 h kSC_77 q_380 dX5_atom_166 (fun i_94 hi_94 ei_94 => ?_)
                refine lv_iload_n C0.1 C0.2.1 dX5_atom_169 rfl (lv_at hl 0 rfl) ?_
                refine y_cv h (y_rV (As := [.int v_91]) (rest := []) C0 hZ h (c_X4_add l G Z ad _ h.2 i_94 hi_94 v_91) k_X4_add q_827 q_828 q_826 hi_94 rfl rfl rfl hl.1 rfl rfl (Nat.le_of_ble_eq_true rfl) dX5_atom_170 ⟨Nat.le_of_ble_eq_true rfl, Nat.le_of_ble_eq_true rfl⟩ ⟨Nat.le_of_ble_eq_true rfl, Nat.le_of_ble_eq_true rfl⟩) (fun H locs ws_95 h u_96 p_97 => ?_)
                have e_98 := p_97
                replace HE : FT = g34c_X5_atom_1 (xso SC ad ws_95) := HE.trans (by rw [e_98, e_92, ei_94]; rfl)
                refine lv_aload_n C0.1 C0.2.1 dX5_atom_173 rfl (lv_at hl 1 rfl) ?_
                refine y_cv h (y_rV (As := []) (rest := []) C0 hZ h (c_X5_advance l G Z ad _ h.2) k_X5_advance q_616 q_0 q_614 kSC_77 rfl rfl rfl hl.1 rfl rfl (Nat.le_of_ble_eq_true rfl) dX5_atom_174 ⟨Nat.le_of_ble_eq_true rfl, Nat.le_of_ble_eq_true rfl⟩ ⟨Nat.le_of_ble_eq_true rfl, Nat.le_of_ble_eq_true rfl⟩) (fun H locs ws_99 h u_100 p_101 => ?_)
                have e_102 := p_101
                replace HE : FT = g35c_X5_atom_1 (xso SC ad ws_99) := HE.trans (by rw [e_102]; rfl)
                replace HE : FT = ((xso SC ad ws_99), 0) := HE.trans rfl
                rw [hQ]
                exact y_vret C0 h (Fr.tr (Fr.tr (Fr.tr (Fr.tr (Fr.tr (Fr.tr (Fr.mono u_17 (by decide)) (Fr.mono u_26 (by decide))) (Fr.mono u_35 (by decide))) (Fr.mono u_44 (by decide))) (Fr.mono u_53 (by decide))) (Fr.mono u_96 (by decide))) (Fr.mono u_100 (by decide))) (congrArg Prod.fst (HE.symm.trans hFT)) dX5_atom_177
            · -- 114
              replace HE : FT = g22_X5_atom_1 (xso SC ad ws_43) := HE.trans (if_neg c_51)
              refine y_c3 (n := 1003) C0 (by decide) dX5_atom_117 (fun v_103 e_104 => ?_)
              refine lv_goto (tgt := 154) C0.1 C0.2.1 dX5_atom_120 (by decide) ?_
              refine lv_istore_n (lv' := [(2, .int v_103), (0, .ref (ad 77)), (1, .int a1)]) C0.1 C0.2.1 dX5_atom_154 rfl hl (by decide) rfl (fun ls hl => ?_)
              refine lv_iload_n C0.1 C0.2.1 dX5_atom_155 rfl (lv_at hl 0 rfl) ?_
              refine y_if_ge (tgt := 165) C0 dX5_atom_156 (by decide) (fun c_105 => ?_) (fun c_105 => ((o24_14 e_104 c_105)).elim)
              refine lv_aload_n C0.1 C0.2.1 dX5_atom_165 rfl (lv_at hl 1 rfl) ?_
              refine tg_X5_law C0 h kSC_77 q_380 dX5_atom_166 (fun i_106 hi_106 ei_106 => ?_)
              refine lv_iload_n C0.1 C0.2.1 dX5_atom_169 rfl (lv_at hl 0 rfl) ?_
              refine y_cv h (y_rV (As := [.int v_103]) (rest := []) C0 hZ h (c_X4_add l G Z ad _ h.2 i_106 hi_106 v_103) k_X4_add q_827 q_828 q_826 hi_106 rfl rfl rfl hl.1 rfl rfl (Nat.le_of_ble_eq_true rfl) dX5_atom_170 ⟨Nat.le_of_ble_eq_true rfl, Nat.le_of_ble_eq_true rfl⟩ ⟨Nat.le_of_ble_eq_true rfl, Nat.le_of_ble_eq_true rfl⟩) (fun H locs ws_107 h u_108 p_109 => ?_)
              have e_110 := p_109
              replace HE : FT = g36c_X5_atom_1 (xso SC ad ws_107) := HE.trans (by rw [e_110, e_104, ei_106]; rfl)
              refine lv_aload_n C0.1 C0.2.1 dX5_atom_173 rfl (lv_at hl 1 rfl) ?_
              refine y_cv h (y_rV (As := []) (rest := []) C0 hZ h (c_X5_advance l G Z ad _ h.2) k_X5_advance q_616 q_0 q_614 kSC_77 rfl rfl rfl hl.1 rfl rfl (Nat.le_of_ble_eq_true rfl) dX5_atom_174 ⟨Nat.le_of_ble_eq_true rfl, Nat.le_of_ble_eq_true rfl⟩ ⟨Nat.le_of_ble_eq_true rfl, Nat.le_of_ble_eq_true rfl⟩) (fun H locs ws_111 h u_112 p_113 => ?_)
              have e_114 := p_113
              replace HE : FT = g37c_X5_atom_1 (xso SC ad ws_111) := HE.trans (by rw [e_114]; rfl)
              replace HE : FT = ((xso SC ad ws_111), 0) := HE.trans rfl
              rw [hQ]
              exact y_vret C0 h (Fr.tr (Fr.tr (Fr.tr (Fr.tr (Fr.tr (Fr.mono u_17 (by decide)) (Fr.mono u_26 (by decide))) (Fr.mono u_35 (by decide))) (Fr.mono u_44 (by decide))) (Fr.mono u_108 (by decide))) (Fr.mono u_112 (by decide))) (congrArg Prod.fst (HE.symm.trans hFT)) dX5_atom_177
          · -- 99
            replace HE : FT = g18_X5_atom_1 (xso SC ad ws_34) := HE.trans (if_neg c_42)
            refine y_c3 (n := 1002) C0 (by decide) dX5_atom_102 (fun v_115 e_116 => ?_)
            refine lv_goto (tgt := 154) C0.1 C0.2.1 dX5_atom_105 (by decide) ?_
            refine lv_istore_n (lv' := [(2, .int v_115), (0, .ref (ad 77)), (1, .int a1)]) C0.1 C0.2.1 dX5_atom_154 rfl hl (by decide) rfl (fun ls hl => ?_)
            refine lv_iload_n C0.1 C0.2.1 dX5_atom_155 rfl (lv_at hl 0 rfl) ?_
            refine y_if_ge (tgt := 165) C0 dX5_atom_156 (by decide) (fun c_117 => ?_) (fun c_117 => ((o24_15 e_116 c_117)).elim)
            refine lv_aload_n C0.1 C0.2.1 dX5_atom_165 rfl (lv_at hl 1 rfl) ?_
            refine tg_X5_law C0 h kSC_77 q_380 dX5_atom_166 (fun i_118 hi_118 ei_118 => ?_)
            refine lv_iload_n C0.1 C0.2.1 dX5_atom_169 rfl (lv_at hl 0 rfl) ?_
            refine y_cv h (y_rV (As := [.int v_115]) (rest := []) C0 hZ h (c_X4_add l G Z ad _ h.2 i_118 hi_118 v_115) k_X4_add q_827 q_828 q_826 hi_118 rfl rfl rfl hl.1 rfl rfl (Nat.le_of_ble_eq_true rfl) dX5_atom_170 ⟨Nat.le_of_ble_eq_true rfl, Nat.le_of_ble_eq_true rfl⟩ ⟨Nat.le_of_ble_eq_true rfl, Nat.le_of_ble_eq_true rfl⟩) (fun H locs ws_119 h u_120 p_121 => ?_)
            have e_122 := p_121
            replace HE : FT = g38c_X5_atom_1 (xso SC ad ws_119) := HE.trans (by rw [e_122, e_116, ei_118]; rfl)
            refine lv_aload_n C0.1 C0.2.1 dX5_atom_173 rfl (lv_at hl 1 rfl) ?_
            refine y_cv h (y_rV (As := []) (rest := []) C0 hZ h (c_X5_advance l G Z ad _ h.2) k_X5_advance q_616 q_0 q_614 kSC_77 rfl rfl rfl hl.1 rfl rfl (Nat.le_of_ble_eq_true rfl) dX5_atom_174 ⟨Nat.le_of_ble_eq_true rfl, Nat.le_of_ble_eq_true rfl⟩ ⟨Nat.le_of_ble_eq_true rfl, Nat.le_of_ble_eq_true rfl⟩) (fun H locs ws_123 h u_124 p_125 => ?_)
            have e_126 := p_125
            replace HE : FT = g39c_X5_atom_1 (xso SC ad ws_123) := HE.trans (by rw [e_126]; rfl)
            replace HE : FT = ((xso SC ad ws_123), 0) := HE.trans rfl
            rw [hQ]
            exact y_vret C0 h (Fr.tr (Fr.tr (Fr.tr (Fr.tr (Fr.mono u_17 (by decide)) (Fr.mono u_26 (by decide))) (Fr.mono u_35 (by decide))) (Fr.mono u_120 (by decide))) (Fr.mono u_124 (by decide))) (congrArg Prod.fst (HE.symm.trans hFT)) dX5_atom_177
        · -- 84
          replace HE : FT = g14_X5_atom_1 (xso SC ad ws_25) := HE.trans (if_neg c_33)
          refine y_c3 (n := 1001) C0 (by decide) dX5_atom_87 (fun v_127 e_128 => ?_)
          refine lv_goto (tgt := 154) C0.1 C0.2.1 dX5_atom_90 (by decide) ?_
          refine lv_istore_n (lv' := [(2, .int v_127), (0, .ref (ad 77)), (1, .int a1)]) C0.1 C0.2.1 dX5_atom_154 rfl hl (by decide) rfl (fun ls hl => ?_)
          refine lv_iload_n C0.1 C0.2.1 dX5_atom_155 rfl (lv_at hl 0 rfl) ?_
          refine y_if_ge (tgt := 165) C0 dX5_atom_156 (by decide) (fun c_129 => ?_) (fun c_129 => ((o24_16 e_128 c_129)).elim)
          refine lv_aload_n C0.1 C0.2.1 dX5_atom_165 rfl (lv_at hl 1 rfl) ?_
          refine tg_X5_law C0 h kSC_77 q_380 dX5_atom_166 (fun i_130 hi_130 ei_130 => ?_)
          refine lv_iload_n C0.1 C0.2.1 dX5_atom_169 rfl (lv_at hl 0 rfl) ?_
          refine y_cv h (y_rV (As := [.int v_127]) (rest := []) C0 hZ h (c_X4_add l G Z ad _ h.2 i_130 hi_130 v_127) k_X4_add q_827 q_828 q_826 hi_130 rfl rfl rfl hl.1 rfl rfl (Nat.le_of_ble_eq_true rfl) dX5_atom_170 ⟨Nat.le_of_ble_eq_true rfl, Nat.le_of_ble_eq_true rfl⟩ ⟨Nat.le_of_ble_eq_true rfl, Nat.le_of_ble_eq_true rfl⟩) (fun H locs ws_131 h u_132 p_133 => ?_)
          have e_134 := p_133
          replace HE : FT = g40c_X5_atom_1 (xso SC ad ws_131) := HE.trans (by rw [e_134, e_128, ei_130]; rfl)
          refine lv_aload_n C0.1 C0.2.1 dX5_atom_173 rfl (lv_at hl 1 rfl) ?_
          refine y_cv h (y_rV (As := []) (rest := []) C0 hZ h (c_X5_advance l G Z ad _ h.2) k_X5_advance q_616 q_0 q_614 kSC_77 rfl rfl rfl hl.1 rfl rfl (Nat.le_of_ble_eq_true rfl) dX5_atom_174 ⟨Nat.le_of_ble_eq_true rfl, Nat.le_of_ble_eq_true rfl⟩ ⟨Nat.le_of_ble_eq_true rfl, Nat.le_of_ble_eq_true rfl⟩) (fun H locs ws_135 h u_136 p_137 => ?_)
          have e_138 := p_137
          replace HE : FT = g41c_X5_atom_1 (xso SC ad ws_135) := HE.trans (by rw [e_138]; rfl)
          replace HE : FT = ((xso SC ad ws_135), 0) := HE.trans rfl
          rw [hQ]
          exact y_vret C0 h (Fr.tr (Fr.tr (Fr.tr (Fr.mono u_17 (by decide)) (Fr.mono u_26 (by decide))) (Fr.mono u_132 (by decide))) (Fr.mono u_136 (by decide))) (congrArg Prod.fst (HE.symm.trans hFT)) dX5_atom_177
      · -- 69
        replace HE : FT = g10_X5_atom_1 (xso SC ad ws_16) := HE.trans (if_neg c_24)
        refine y_c3 (n := 1000) C0 (by decide) dX5_atom_72 (fun v_139 e_140 => ?_)
        refine lv_goto (tgt := 154) C0.1 C0.2.1 dX5_atom_75 (by decide) ?_
        refine lv_istore_n (lv' := [(2, .int v_139), (0, .ref (ad 77)), (1, .int a1)]) C0.1 C0.2.1 dX5_atom_154 rfl hl (by decide) rfl (fun ls hl => ?_)
        refine lv_iload_n C0.1 C0.2.1 dX5_atom_155 rfl (lv_at hl 0 rfl) ?_
        refine y_if_ge (tgt := 165) C0 dX5_atom_156 (by decide) (fun c_141 => ?_) (fun c_141 => ((o24_17 e_140 c_141)).elim)
        refine lv_aload_n C0.1 C0.2.1 dX5_atom_165 rfl (lv_at hl 1 rfl) ?_
        refine tg_X5_law C0 h kSC_77 q_380 dX5_atom_166 (fun i_142 hi_142 ei_142 => ?_)
        refine lv_iload_n C0.1 C0.2.1 dX5_atom_169 rfl (lv_at hl 0 rfl) ?_
        refine y_cv h (y_rV (As := [.int v_139]) (rest := []) C0 hZ h (c_X4_add l G Z ad _ h.2 i_142 hi_142 v_139) k_X4_add q_827 q_828 q_826 hi_142 rfl rfl rfl hl.1 rfl rfl (Nat.le_of_ble_eq_true rfl) dX5_atom_170 ⟨Nat.le_of_ble_eq_true rfl, Nat.le_of_ble_eq_true rfl⟩ ⟨Nat.le_of_ble_eq_true rfl, Nat.le_of_ble_eq_true rfl⟩) (fun H locs ws_143 h u_144 p_145 => ?_)
        have e_146 := p_145
        replace HE : FT = g42c_X5_atom_1 (xso SC ad ws_143) := HE.trans (by rw [e_146, e_140, ei_142]; rfl)
        refine lv_aload_n C0.1 C0.2.1 dX5_atom_173 rfl (lv_at hl 1 rfl) ?_
        refine y_cv h (y_rV (As := []) (rest := []) C0 hZ h (c_X5_advance l G Z ad _ h.2) k_X5_advance q_616 q_0 q_614 kSC_77 rfl rfl rfl hl.1 rfl rfl (Nat.le_of_ble_eq_true rfl) dX5_atom_174 ⟨Nat.le_of_ble_eq_true rfl, Nat.le_of_ble_eq_true rfl⟩ ⟨Nat.le_of_ble_eq_true rfl, Nat.le_of_ble_eq_true rfl⟩) (fun H locs ws_147 h u_148 p_149 => ?_)
        have e_150 := p_149
        replace HE : FT = g43c_X5_atom_1 (xso SC ad ws_147) := HE.trans (by rw [e_150]; rfl)
        replace HE : FT = ((xso SC ad ws_147), 0) := HE.trans rfl
        rw [hQ]
        exact y_vret C0 h (Fr.tr (Fr.tr (Fr.mono u_17 (by decide)) (Fr.mono u_144 (by decide))) (Fr.mono u_148 (by decide))) (congrArg Prod.fst (HE.symm.trans hFT)) dX5_atom_177
    · -- 32
      replace HE : FT = g6_X5_atom_1 (xso SC ad ws0) := HE.trans (if_pos (o24_10 e_6 c_7 qh_12 e_14 c_15))
      refine lv_aload_n C0.1 C0.2.1 dX5_atom_35 rfl (lv_at hl 0 rfl) ?_
      refine lv_iload_n C0.1 C0.2.1 dX5_atom_36 rfl (lv_at hl 1 rfl) ?_
      refine y_ci h (y_rV (As := [.int a1]) (rest := []) C0 hZ h (c_X5_tooDeep_1 l G Z ad _ h.2 a1 (o24_109 l1 u1) (o24_110 l1 u1)) k_X5_tooDeep q_832 q_18 q_830 kSC_77 rfl rfl rfl hl.1 rfl rfl (Nat.le_of_ble_eq_true rfl) dX5_atom_37 ⟨Nat.le_of_ble_eq_true rfl, Nat.le_of_ble_eq_true rfl⟩ ⟨Nat.le_of_ble_eq_true rfl, Nat.le_of_ble_eq_true rfl⟩) (fun r_154 H locs ws_151 h u_152 p_153 => ?_)
      obtain ⟨e_155, e_156, e_157, e_158⟩ := p_153
      replace HE : FT = g44c_X5_atom_1 (xso SC ad ws_151) := HE.trans (by rw [e_155, (o24_111 l1 u1)]; rfl)
      refine y_if_ne (tgt := 177) C0 dX5_atom_40 (by decide) (fun c_159 => ((o24_71 e_157 e_158 c_159)).elim) (fun c_159 => ?_)
      refine lv_aload_n C0.1 C0.2.1 dX5_atom_43 rfl (lv_at hl 0 rfl) ?_
      refine y_cv h (y_rV (As := []) (rest := []) C0 hZ h (c_X5_advance l G Z ad _ h.2) k_X5_advance q_616 q_0 q_614 kSC_77 rfl rfl rfl hl.1 rfl rfl (Nat.le_of_ble_eq_true rfl) dX5_atom_44 ⟨Nat.le_of_ble_eq_true rfl, Nat.le_of_ble_eq_true rfl⟩ ⟨Nat.le_of_ble_eq_true rfl, Nat.le_of_ble_eq_true rfl⟩) (fun H locs ws_160 h u_161 p_162 => ?_)
      have e_163 := p_162
      replace HE : FT = g45c_X5_atom_1 (xso SC ad ws_160) := HE.trans (by rw [e_163]; rfl)
      refine lv_aload_n C0.1 C0.2.1 dX5_atom_47 rfl (lv_at hl 0 rfl) ?_
      refine lv_iload_n C0.1 C0.2.1 dX5_atom_48 rfl (lv_at hl 1 rfl) ?_
      refine y_c1 (n := 1) C0 (by decide) dX5_atom_49 (fun v_164 e_165 => ?_)
      refine y_add C0 (o24_112 l1 u1 e_165 (le_min a1) (le_max a1) (le_min v_164) (le_max v_164)) (o24_113 l1 u1 e_165 (le_min a1) (le_max a1) (le_min v_164) (le_max v_164)) dX5_atom_50 (fun v_166 e_167 => ?_)
      refine y_cv h (y_rV (As := [.int v_166]) (rest := []) C0 hZ h (c_X5_sum_2 l G Z ad _ h.2 v_166 (o24_114 l1 u1 e_165 e_167) (o24_115 l1 u1 e_165 e_167)) k_X5_sum q_816 q_15 q_814 kSC_77 rfl rfl rfl hl.1 rfl rfl (Nat.le_of_ble_eq_true rfl) dX5_atom_51 ⟨Nat.le_of_ble_eq_true rfl, Nat.le_of_ble_eq_true rfl⟩ ⟨Nat.le_of_ble_eq_true rfl, Nat.le_of_ble_eq_true rfl⟩) (fun H locs ws_168 h u_169 p_170 => ?_)
      have e_171 := p_170
      replace HE : FT = g46c_X5_atom_1 (xso SC ad ws_168) := HE.trans (by rw [e_171, e_167, e_165, (o24_116 l1 u1 e_165 e_167)]; rfl)
      refine lv_aload_n C0.1 C0.2.1 dX5_atom_54 rfl (lv_at hl 0 rfl) ?_
      refine y_c2 (n := 41) C0 (by decide) dX5_atom_55 (fun v_172 e_173 => ?_)
      refine y_cv h (y_rV (As := [.int v_172]) (rest := []) C0 hZ h (c_X5_sign l G Z ad _ h.2 v_172 (o24_77 e_173) (o24_78 e_173)) k_X5_sign q_812 q_14 q_810 kSC_77 rfl rfl rfl hl.1 rfl rfl (Nat.le_of_ble_eq_true rfl) dX5_atom_57 ⟨Nat.le_of_ble_eq_true rfl, Nat.le_of_ble_eq_true rfl⟩ ⟨Nat.le_of_ble_eq_true rfl, Nat.le_of_ble_eq_true rfl⟩) (fun H locs ws_174 h u_175 p_176 => ?_)
      have e_177 := p_176
      replace HE : FT = g47c_X5_atom_1 (xso SC ad ws_174) := HE.trans (by rw [e_177, e_173]; rfl)
      refine lv_goto (tgt := 177) C0.1 C0.2.1 dX5_atom_60 (by decide) ?_
      replace HE : FT = ((xso SC ad ws_174), 0) := HE.trans rfl
      rw [hQ]
      exact y_vret C0 h (Fr.tr (Fr.tr (Fr.tr (Fr.mono u_152 (by decide)) (Fr.mono u_161 (by decide))) u_169) (Fr.mono u_175 (by decide))) (congrArg Prod.fst (HE.symm.trans hFT)) dX5_atom_177
  · -- 5
    replace HE : FT = g3_X5_atom_1 (xso SC ad ws0) := HE.trans (if_pos (o24_7 e_6 c_7))
    refine lv_aload_n C0.1 C0.2.1 dX5_atom_8 rfl (lv_at hl 0 rfl) ?_
    refine tg_X5_law C0 h kSC_77 q_380 dX5_atom_9 (fun i_178 hi_178 ei_178 => ?_)
    refine lv_aload_n C0.1 C0.2.1 dX5_atom_12 rfl (lv_at hl 0 rfl) ?_
    refine tg_X5_number C0 h kSC_77 q_377 dX5_atom_13 (fun v_179 e_180 e_181 e_182 => ?_)
    refine y_cv h (y_rV (As := [.int v_179]) (rest := []) C0 hZ h (c_X4_add l G Z ad _ h.2 i_178 hi_178 v_179) k_X4_add q_827 q_828 q_826 hi_178 rfl rfl rfl hl.1 rfl rfl (Nat.le_of_ble_eq_true rfl) dX5_atom_16 ⟨Nat.le_of_ble_eq_true rfl, Nat.le_of_ble_eq_true rfl⟩ ⟨Nat.le_of_ble_eq_true rfl, Nat.le_of_ble_eq_true rfl⟩) (fun H locs ws_183 h u_184 p_185 => ?_)
    have e_186 := p_185
    replace HE : FT = g48c_X5_atom_1 (xso SC ad ws_183) := HE.trans (by rw [e_186, (xg0 e_180 : v_179.toInt = (xso SC ad ws0) 0 77 7), ei_178]; rfl)
    refine lv_aload_n C0.1 C0.2.1 dX5_atom_19 rfl (lv_at hl 0 rfl) ?_
    refine y_cv h (y_rV (As := []) (rest := []) C0 hZ h (c_X5_advance l G Z ad _ h.2) k_X5_advance q_616 q_0 q_614 kSC_77 rfl rfl rfl hl.1 rfl rfl (Nat.le_of_ble_eq_true rfl) dX5_atom_20 ⟨Nat.le_of_ble_eq_true rfl, Nat.le_of_ble_eq_true rfl⟩ ⟨Nat.le_of_ble_eq_true rfl, Nat.le_of_ble_eq_true rfl⟩) (fun H locs ws_187 h u_188 p_189 => ?_)
    have e_190 := p_189
    replace HE : FT = g49c_X5_atom_1 (xso SC ad ws_187) := HE.trans (by rw [e_190]; rfl)
    refine lv_goto (tgt := 177) C0.1 C0.2.1 dX5_atom_23 (by decide) ?_
    replace HE : FT = ((xso SC ad ws_187), 0) := HE.trans rfl
    rw [hQ]
    exact y_vret C0 h (Fr.tr (Fr.mono u_184 (by decide)) (Fr.mono u_188 (by decide))) (congrArg Prod.fst (HE.symm.trans hFT)) dX5_atom_177
noncomputable def g5_X5_term_1 (s : XS) : XR := (s, 0)
noncomputable def g8_X5_term_1 (s : XS) : XR := (s, 0)
noncomputable def g12c_X5_term_1 (R7 : XS → Int → XR) (s : XS) (x2_7 : Int) : XR := R7 s ((x2_7 + 1))
noncomputable def g11c_X5_term_1 (R7 : XS → Int → XR) (s : XS) (x2_7 : Int) : XR := g12c_X5_term_1 R7 ((f_X4_add s (Int.toNat (s 3 77 10)) 2002).1) x2_7
noncomputable def g10c_X5_term_1 (R7 : XS → Int → XR) (s : XS) (x2_7 : Int) : XR := g11c_X5_term_1 R7 ((f_X5_atom_1 s 1).1) x2_7
noncomputable def g9_X5_term_1 (R7 : XS → Int → XR) (s : XS) (x2_7 : Int) : XR := g10c_X5_term_1 R7 ((f_X5_advance s).1) x2_7
noncomputable def g7b_X5_term_1 (R7 : XS → Int → XR) (s : XS) (v_19 : Int) (x2_7 : Int) : XR := if v_19 = 42 then g9_X5_term_1 R7 s x2_7 else g8_X5_term_1 s
noncomputable def g6_X5_term_1 (R7 : XS → Int → XR) (s : XS) (x2_7 : Int) : XR := g7b_X5_term_1 R7 s ((s 0 77 4)) x2_7
noncomputable def g4b_X5_term_1 (R7 : XS → Int → XR) (s : XS) (x2_7 : Int) : XR := if x2_7 < 900 then g6_X5_term_1 R7 s x2_7 else g5_X5_term_1 s
noncomputable def g3l_X5_term_1 (R7 : XS → Int → XR) (s : XS) (x2_7 : Int) : XR := g4b_X5_term_1 R7 s x2_7
noncomputable def L2_X5_term_1 (n : Nat) : XS → Int → XR := Nat.rec (motive := fun _ => XS → Int → XR) (fun s _ => (s, 0)) (fun _ R7 => g3l_X5_term_1 R7) n
noncomputable def g1c_X5_term_1 (s : XS) : XR := L2_X5_term_1 (Int.toNat (900 - 0 + 1)) s 0
noncomputable def f_X5_term_1 (s : XS) (a1 : Int) : XR := g1c_X5_term_1 ((f_X5_atom_1 s a1).1)
set_option maxHeartbeats 4000000 in
set_option maxRecDepth 100000 in
theorem c_X5_term_1 (l : Launch) (G : GG) (Z : RZ) (ad : Nat → Nat) (ws0 : va_W) (hT : Ty G SC ad ws0) (a1 : Int32) (l1 : 1 ≤ a1.toInt) (u1 : a1.toInt ≤ 1) : Mq l yX5_term cX5_term 3 none 22 G Z [.ref (ad 77), .int a1] ws0 (PV G SC ad [2, 3, 16] ws0 (fun u => (xso SC ad u = (f_X5_term_1 (xso SC ad ws0) a1.toInt).1))) := by
  refine Mq.start (by decide) (Nat.le_of_ble_eq_true rfl) ?_
  intro p e s m below meth c A ls C0 hZ h hl
  have hl : lv_has ls 3 [(0, .ref (ad 77)), (1, .int a1)] := hl
  have h : Wt G SC ad A s s.heap [] ws0 := ⟨h, hT⟩
  obtain ⟨args, hargs⟩ : ∃ z, z = ([.ref (ad 77), .int a1] : List Value).toArray := ⟨_, rfl⟩
  rw [← hargs] at C0 ⊢
  have C0 : Cx p s m args meth c RX5 cX5_term 3 none := C0
  obtain ⟨Q, hQ⟩ : ∃ z, z = MQ below ((PV G SC ad [2, 3, 16] ws0 (fun u => (xso SC ad u = (f_X5_term_1 (xso SC ad ws0) a1.toInt).1))) A) args s 0 0 A := ⟨_, rfl⟩
  rw [← hQ]
  obtain ⟨FT, hFT⟩ : ∃ z, z = f_X5_term_1 (xso SC ad ws0) a1.toInt := ⟨_, rfl⟩
  have HE : FT = f_X5_term_1 (xso SC ad ws0) a1.toInt := hFT
  refine lv_aload_n C0.1 C0.2.1 dX5_term_0 rfl (lv_at hl 0 rfl) ?_
  refine lv_iload_n C0.1 C0.2.1 dX5_term_1 rfl (lv_at hl 1 rfl) ?_
  refine y_cv h (y_rV (As := [.int a1]) (rest := []) C0 hZ h (c_X5_atom_1 l G Z ad _ h.2 a1 (o24_109 l1 u1) (o24_110 l1 u1)) k_X5_atom q_824 q_17 q_822 kSC_77 rfl rfl rfl hl.1 rfl rfl (Nat.le_of_ble_eq_true rfl) dX5_term_2 ⟨Nat.le_of_ble_eq_true rfl, Nat.le_of_ble_eq_true rfl⟩ ⟨Nat.le_of_ble_eq_true rfl, Nat.le_of_ble_eq_true rfl⟩) (fun H locs ws_1 h u_2 p_3 => ?_)
  have e_4 := p_3
  replace HE : FT = g1c_X5_term_1 (xso SC ad ws_1) := HE.trans (by rw [e_4]; rfl)
  refine y_c1 (n := 0) C0 (by decide) dX5_term_5 (fun v_5 e_6 => ?_)
  refine lv_istore_n (lv' := [(2, .int v_5), (0, .ref (ad 77)), (1, .int a1)]) C0.1 C0.2.1 dX5_term_6 rfl hl (by decide) rfl (fun ls hl => ?_)
  have lp_10 : ∀ (n_12 : Nat) (x2_7 : Int32) (H : Heap) (locs : List Loc) (ls : Array Slot) (ws_8 : va_W), 900 - x2_7.toInt < (n_12 : Int) → 0 ≤ x2_7.toInt → x2_7.toInt ≤ 900 → (FT = L2_X5_term_1 n_12 (xso SC ad ws_8) x2_7.toInt) → Wt G SC ad A s H locs ws_8 → Fr SC [2, 3, 16] ws_1 ws_8 → lv_has ls 3 [(2, .int x2_7), (0, .ref (ad 77)), (1, .int a1)] → W p l e (rmd 22 0 0) s m args below meth c H locs 0 0 Q (F0 m 7 ls []) := by
    intro n_12
    induction n_12 with
    | zero => intro x2_7 H locs ls ws_8 hn_13 b_14 b_15 HE h hF_9 hl; exact ((o24_22 b_14 b_15 hn_13)).elim
    | succ n_12 ih_11 =>
      intro x2_7 H locs ls ws_8 hn_13 b_14 b_15 HE h hF_9 hl
      obtain ⟨R7, hR7⟩ : ∃ z, z = L2_X5_term_1 n_12 := ⟨_, rfl⟩
      replace HE : FT = g3l_X5_term_1 R7 (xso SC ad ws_8) x2_7.toInt := HE.trans (by rw [hR7]; rfl)
      refine lv_iload_n C0.1 C0.2.1 dX5_term_7 rfl (lv_at hl 0 rfl) ?_
      refine y_c3 (n := 900) C0 (by decide) dX5_term_8 (fun v_16 e_17 => ?_)
      replace HE : FT = g4b_X5_term_1 R7 (xso SC ad ws_8) x2_7.toInt := HE.trans rfl
      refine y_icmp_ge (tgt := 48) C0 dX5_term_11 (by decide) (fun c_18 => ?_) (fun c_18 => ?_)
      · -- 11
        replace HE : FT = g5_X5_term_1 (xso SC ad ws_8) := HE.trans (if_neg (o24_24 b_14 b_15 hn_13 e_17 c_18))
        replace HE : FT = ((xso SC ad ws_8), 0) := HE.trans rfl
        rw [hQ]
        exact y_vret C0 h (Fr.tr u_2 hF_9) (congrArg Prod.fst (HE.symm.trans hFT)) dX5_term_48
      · -- 11
        replace HE : FT = g6_X5_term_1 R7 (xso SC ad ws_8) x2_7.toInt := HE.trans (if_pos (o24_25 b_14 b_15 hn_13 e_17 c_18))
        refine lv_aload_n C0.1 C0.2.1 dX5_term_14 rfl (lv_at hl 1 rfl) ?_
        refine tg_X5_kind C0 h kSC_77 q_374 dX5_term_15 (fun v_19 e_20 e_21 e_22 => ?_)
        refine y_c2 (n := 42) C0 (by decide) dX5_term_18 (fun v_23 e_24 => ?_)
        replace HE : FT = g7b_X5_term_1 R7 (xso SC ad ws_8) v_19.toInt x2_7.toInt := HE.trans (by rw [(xg0 e_20 : v_19.toInt = (xso SC ad ws_8) 0 77 4)]; rfl)
        refine y_icmp_ne (tgt := 48) C0 dX5_term_20 (by decide) (fun c_25 => ?_) (fun c_25 => ?_)
        · -- 20
          replace HE : FT = g8_X5_term_1 (xso SC ad ws_8) := HE.trans (if_neg (o24_27 e_24 c_25))
          replace HE : FT = ((xso SC ad ws_8), 0) := HE.trans rfl
          rw [hQ]
          exact y_vret C0 h (Fr.tr u_2 hF_9) (congrArg Prod.fst (HE.symm.trans hFT)) dX5_term_48
        · -- 20
          replace HE : FT = g9_X5_term_1 R7 (xso SC ad ws_8) x2_7.toInt := HE.trans (if_pos (o24_28 e_24 c_25))
          refine lv_aload_n C0.1 C0.2.1 dX5_term_23 rfl (lv_at hl 1 rfl) ?_
          refine y_cv h (y_rV (As := []) (rest := []) C0 hZ h (c_X5_advance l G Z ad _ h.2) k_X5_advance q_616 q_0 q_614 kSC_77 rfl rfl rfl hl.1 rfl rfl (Nat.le_of_ble_eq_true rfl) dX5_term_24 ⟨Nat.le_of_ble_eq_true rfl, Nat.le_of_ble_eq_true rfl⟩ ⟨Nat.le_of_ble_eq_true rfl, Nat.le_of_ble_eq_true rfl⟩) (fun H locs ws_26 h u_27 p_28 => ?_)
          have e_29 := p_28
          replace HE : FT = g10c_X5_term_1 R7 (xso SC ad ws_26) x2_7.toInt := HE.trans (by rw [e_29]; rfl)
          refine lv_aload_n C0.1 C0.2.1 dX5_term_27 rfl (lv_at hl 1 rfl) ?_
          refine lv_iload_n C0.1 C0.2.1 dX5_term_28 rfl (lv_at hl 2 rfl) ?_
          refine y_cv h (y_rV (As := [.int a1]) (rest := []) C0 hZ h (c_X5_atom_1 l G Z ad _ h.2 a1 (o24_109 l1 u1) (o24_110 l1 u1)) k_X5_atom q_824 q_17 q_822 kSC_77 rfl rfl rfl hl.1 rfl rfl (Nat.le_of_ble_eq_true rfl) dX5_term_29 ⟨Nat.le_of_ble_eq_true rfl, Nat.le_of_ble_eq_true rfl⟩ ⟨Nat.le_of_ble_eq_true rfl, Nat.le_of_ble_eq_true rfl⟩) (fun H locs ws_30 h u_31 p_32 => ?_)
          have e_33 := p_32
          replace HE : FT = g11c_X5_term_1 R7 (xso SC ad ws_30) x2_7.toInt := HE.trans (by rw [e_33, (o24_111 l1 u1)]; rfl)
          refine lv_aload_n C0.1 C0.2.1 dX5_term_32 rfl (lv_at hl 1 rfl) ?_
          refine tg_X5_law C0 h kSC_77 q_380 dX5_term_33 (fun i_34 hi_34 ei_34 => ?_)
          refine y_c3 (n := 2002) C0 (by decide) dX5_term_36 (fun v_35 e_36 => ?_)
          refine y_cv h (y_rV (As := [.int v_35]) (rest := []) C0 hZ h (c_X4_add l G Z ad _ h.2 i_34 hi_34 v_35) k_X4_add q_827 q_828 q_826 hi_34 rfl rfl rfl hl.1 rfl rfl (Nat.le_of_ble_eq_true rfl) dX5_term_39 ⟨Nat.le_of_ble_eq_true rfl, Nat.le_of_ble_eq_true rfl⟩ ⟨Nat.le_of_ble_eq_true rfl, Nat.le_of_ble_eq_true rfl⟩) (fun H locs ws_37 h u_38 p_39 => ?_)
          have e_40 := p_39
          replace HE : FT = g12c_X5_term_1 R7 (xso SC ad ws_37) x2_7.toInt := HE.trans (by rw [e_40, e_36, ei_34]; rfl)
          refine y_inc (kp := 0) (n := 1) (fun v_41 => [(2, .int v_41), (0, .ref (ad 77)), (1, .int a1)]) C0 hl rfl (by decide) (by decide) (fun _ => rfl) (o24_29 b_14 b_15 hn_13 e_17 c_18 (le_min x2_7) (le_max x2_7) (le_min v_16) (le_max v_16)) (o24_30 b_14 b_15 hn_13 e_17 c_18 (le_min x2_7) (le_max x2_7) (le_min v_16) (le_max v_16)) dX5_term_42 (fun v_41 ls e_42 hl => ?_)
          refine lv_goto (tgt := 7) C0.1 C0.2.1 dX5_term_45 (by decide) ?_
          exact ih_11 v_41 _ _ _ _ (o24_31 b_14 b_15 hn_13 e_17 c_18 e_42) (o24_32 b_14 b_15 hn_13 e_17 c_18 e_42) (o24_33 b_14 b_15 hn_13 e_17 c_18 e_42) (((show FT = R7 (xso SC ad ws_37) v_41.toInt from HE.trans (by rw [e_42]; rfl)).trans (by rw [hR7]))) h (Fr.tr (Fr.tr (Fr.tr hF_9 (Fr.mono u_27 (by decide))) u_31) (Fr.mono u_38 (by decide))) (lv_sub hl [0, 1, 2] rfl)
  exact lp_10 ((900 - v_5.toInt + 1).toNat) v_5 _ _ _ _ (o24_34 e_6) (o24_35 e_6) (o24_36 e_6) ((show FT = L2_X5_term_1 (Int.toNat (900 - v_5.toInt + 1)) (xso SC ad ws_1) v_5.toInt from HE.trans (by rw [e_6]; rfl))) h Fr.rf (lv_sub hl [0, 1, 2] rfl)
noncomputable def g5_X5_sum_1 (s : XS) : XR := (s, 0)
noncomputable def g12c_X5_sum_1 (R7 : XS → Int → XR) (s : XS) (x2_7 : Int) : XR := R7 s ((x2_7 + 1))
noncomputable def g11c_X5_sum_1 (R7 : XS → Int → XR) (s : XS) (x2_7 : Int) : XR := g12c_X5_sum_1 R7 ((f_X4_add s (Int.toNat (s 3 77 10)) 2000).1) x2_7
noncomputable def g10c_X5_sum_1 (R7 : XS → Int → XR) (s : XS) (x2_7 : Int) : XR := g11c_X5_sum_1 R7 ((f_X5_term_1 s 1).1) x2_7
noncomputable def g8_X5_sum_1 (R7 : XS → Int → XR) (s : XS) (x2_7 : Int) : XR := g10c_X5_sum_1 R7 ((f_X5_advance s).1) x2_7
noncomputable def g14_X5_sum_1 (s : XS) : XR := (s, 0)
noncomputable def g18c_X5_sum_1 (R7 : XS → Int → XR) (s : XS) (x2_7 : Int) : XR := R7 s ((x2_7 + 1))
noncomputable def g17c_X5_sum_1 (R7 : XS → Int → XR) (s : XS) (x2_7 : Int) : XR := g18c_X5_sum_1 R7 ((f_X4_add s (Int.toNat (s 3 77 10)) 2001).1) x2_7
noncomputable def g16c_X5_sum_1 (R7 : XS → Int → XR) (s : XS) (x2_7 : Int) : XR := g17c_X5_sum_1 R7 ((f_X5_term_1 s 1).1) x2_7
noncomputable def g15_X5_sum_1 (R7 : XS → Int → XR) (s : XS) (x2_7 : Int) : XR := g16c_X5_sum_1 R7 ((f_X5_advance s).1) x2_7
noncomputable def g13b_X5_sum_1 (R7 : XS → Int → XR) (s : XS) (v_51 : Int) (x2_7 : Int) : XR := if v_51 = 45 then g15_X5_sum_1 R7 s x2_7 else g14_X5_sum_1 s
noncomputable def g9_X5_sum_1 (R7 : XS → Int → XR) (s : XS) (x2_7 : Int) : XR := g13b_X5_sum_1 R7 s ((s 0 77 4)) x2_7
noncomputable def g7b_X5_sum_1 (R7 : XS → Int → XR) (s : XS) (v_19 : Int) (x2_7 : Int) : XR := if v_19 = 43 then g8_X5_sum_1 R7 s x2_7 else g9_X5_sum_1 R7 s x2_7
noncomputable def g6_X5_sum_1 (R7 : XS → Int → XR) (s : XS) (x2_7 : Int) : XR := g7b_X5_sum_1 R7 s ((s 0 77 4)) x2_7
noncomputable def g4b_X5_sum_1 (R7 : XS → Int → XR) (s : XS) (x2_7 : Int) : XR := if x2_7 < 900 then g6_X5_sum_1 R7 s x2_7 else g5_X5_sum_1 s
noncomputable def g3l_X5_sum_1 (R7 : XS → Int → XR) (s : XS) (x2_7 : Int) : XR := g4b_X5_sum_1 R7 s x2_7
noncomputable def L2_X5_sum_1 (n : Nat) : XS → Int → XR := Nat.rec (motive := fun _ => XS → Int → XR) (fun s _ => (s, 0)) (fun _ R7 => g3l_X5_sum_1 R7) n
noncomputable def g1c_X5_sum_1 (s : XS) : XR := L2_X5_sum_1 (Int.toNat (900 - 0 + 1)) s 0
noncomputable def f_X5_sum_1 (s : XS) (a1 : Int) : XR := g1c_X5_sum_1 ((f_X5_term_1 s a1).1)
set_option maxHeartbeats 4000000 in
set_option maxRecDepth 100000 in
theorem c_X5_sum_1 (l : Launch) (G : GG) (Z : RZ) (ad : Nat → Nat) (ws0 : va_W) (hT : Ty G SC ad ws0) (a1 : Int32) (l1 : 1 ≤ a1.toInt) (u1 : a1.toInt ≤ 1) : Mq l yX5_sum cX5_sum 4 none 23 G Z [.ref (ad 77), .int a1] ws0 (PV G SC ad [2, 3, 16] ws0 (fun u => (xso SC ad u = (f_X5_sum_1 (xso SC ad ws0) a1.toInt).1))) := by
  refine Mq.start (by decide) (Nat.le_of_ble_eq_true rfl) ?_
  intro p e s m below meth c A ls C0 hZ h hl
  have hl : lv_has ls 4 [(0, .ref (ad 77)), (1, .int a1)] := hl
  have h : Wt G SC ad A s s.heap [] ws0 := ⟨h, hT⟩
  obtain ⟨args, hargs⟩ : ∃ z, z = ([.ref (ad 77), .int a1] : List Value).toArray := ⟨_, rfl⟩
  rw [← hargs] at C0 ⊢
  have C0 : Cx p s m args meth c RX5 cX5_sum 4 none := C0
  obtain ⟨Q, hQ⟩ : ∃ z, z = MQ below ((PV G SC ad [2, 3, 16] ws0 (fun u => (xso SC ad u = (f_X5_sum_1 (xso SC ad ws0) a1.toInt).1))) A) args s 0 0 A := ⟨_, rfl⟩
  rw [← hQ]
  obtain ⟨FT, hFT⟩ : ∃ z, z = f_X5_sum_1 (xso SC ad ws0) a1.toInt := ⟨_, rfl⟩
  have HE : FT = f_X5_sum_1 (xso SC ad ws0) a1.toInt := hFT
  refine lv_aload_n C0.1 C0.2.1 dX5_sum_0 rfl (lv_at hl 0 rfl) ?_
  refine lv_iload_n C0.1 C0.2.1 dX5_sum_1 rfl (lv_at hl 1 rfl) ?_
  refine y_cv h (y_rV (As := [.int a1]) (rest := []) C0 hZ h (c_X5_term_1 l G Z ad _ h.2 a1 (o24_109 l1 u1) (o24_110 l1 u1)) k_X5_term q_820 q_16 q_818 kSC_77 rfl rfl rfl hl.1 rfl rfl (Nat.le_of_ble_eq_true rfl) dX5_sum_2 ⟨Nat.le_of_ble_eq_true rfl, Nat.le_of_ble_eq_true rfl⟩ ⟨Nat.le_of_ble_eq_true rfl, Nat.le_of_ble_eq_true rfl⟩) (fun H locs ws_1 h u_2 p_3 => ?_)
  have e_4 := p_3
  replace HE : FT = g1c_X5_sum_1 (xso SC ad ws_1) := HE.trans (by rw [e_4]; rfl)
  refine y_c1 (n := 0) C0 (by decide) dX5_sum_5 (fun v_5 e_6 => ?_)
  refine lv_istore_n (lv' := [(2, .int v_5), (0, .ref (ad 77)), (1, .int a1)]) C0.1 C0.2.1 dX5_sum_6 rfl hl (by decide) rfl (fun ls hl => ?_)
  have lp_10 : ∀ (n_12 : Nat) (x2_7 : Int32) (H : Heap) (locs : List Loc) (ls : Array Slot) (ws_8 : va_W), 900 - x2_7.toInt < (n_12 : Int) → 0 ≤ x2_7.toInt → x2_7.toInt ≤ 900 → (FT = L2_X5_sum_1 n_12 (xso SC ad ws_8) x2_7.toInt) → Wt G SC ad A s H locs ws_8 → Fr SC [2, 3, 16] ws_1 ws_8 → lv_has ls 4 [(2, .int x2_7), (0, .ref (ad 77)), (1, .int a1)] → W p l e (rmd 23 0 0) s m args below meth c H locs 0 0 Q (F0 m 7 ls []) := by
    intro n_12
    induction n_12 with
    | zero => intro x2_7 H locs ls ws_8 hn_13 b_14 b_15 HE h hF_9 hl; exact ((o24_22 b_14 b_15 hn_13)).elim
    | succ n_12 ih_11 =>
      intro x2_7 H locs ls ws_8 hn_13 b_14 b_15 HE h hF_9 hl
      obtain ⟨R7, hR7⟩ : ∃ z, z = L2_X5_sum_1 n_12 := ⟨_, rfl⟩
      replace HE : FT = g3l_X5_sum_1 R7 (xso SC ad ws_8) x2_7.toInt := HE.trans (by rw [hR7]; rfl)
      refine lv_iload_n C0.1 C0.2.1 dX5_sum_7 rfl (lv_at hl 0 rfl) ?_
      refine y_c3 (n := 900) C0 (by decide) dX5_sum_8 (fun v_16 e_17 => ?_)
      replace HE : FT = g4b_X5_sum_1 R7 (xso SC ad ws_8) x2_7.toInt := HE.trans rfl
      refine y_icmp_ge (tgt := 74) C0 dX5_sum_11 (by decide) (fun c_18 => ?_) (fun c_18 => ?_)
      · -- 11
        replace HE : FT = g5_X5_sum_1 (xso SC ad ws_8) := HE.trans (if_neg (o24_24 b_14 b_15 hn_13 e_17 c_18))
        replace HE : FT = ((xso SC ad ws_8), 0) := HE.trans rfl
        rw [hQ]
        exact y_vret C0 h (Fr.tr u_2 hF_9) (congrArg Prod.fst (HE.symm.trans hFT)) dX5_sum_74
      · -- 11
        replace HE : FT = g6_X5_sum_1 R7 (xso SC ad ws_8) x2_7.toInt := HE.trans (if_pos (o24_25 b_14 b_15 hn_13 e_17 c_18))
        refine lv_aload_n C0.1 C0.2.1 dX5_sum_14 rfl (lv_at hl 1 rfl) ?_
        refine tg_X5_kind C0 h kSC_77 q_374 dX5_sum_15 (fun v_19 e_20 e_21 e_22 => ?_)
        refine y_c2 (n := 43) C0 (by decide) dX5_sum_18 (fun v_23 e_24 => ?_)
        replace HE : FT = g7b_X5_sum_1 R7 (xso SC ad ws_8) v_19.toInt x2_7.toInt := HE.trans (by rw [(xg0 e_20 : v_19.toInt = (xso SC ad ws_8) 0 77 4)]; rfl)
        refine y_icmp_eq (tgt := 32) C0 dX5_sum_20 (by decide) (fun c_25 => ?_) (fun c_25 => ?_)
        · -- 20
          replace HE : FT = g8_X5_sum_1 R7 (xso SC ad ws_8) x2_7.toInt := HE.trans (if_pos (o24_38 e_24 c_25))
          refine lv_aload_n C0.1 C0.2.1 dX5_sum_32 rfl (lv_at hl 1 rfl) ?_
          refine tg_X5_kind C0 h kSC_77 q_374 dX5_sum_33 (fun v_26 e_27 e_28 e_29 => ?_)
          have qh_30 : v_26.toInt = v_19.toInt := congrArg Int32.toInt (e_27.symm.trans (Eq.trans rfl e_20))
          refine y_c2 (n := 43) C0 (by decide) dX5_sum_36 (fun v_31 e_32 => ?_)
          refine y_icmp_ne (tgt := 47) C0 dX5_sum_38 (by decide) (fun c_33 => ((o24_40 e_24 c_25 qh_30 e_32 c_33)).elim) (fun c_33 => ?_)
          refine y_c3 (n := 2000) C0 (by decide) dX5_sum_41 (fun v_34 e_35 => ?_)
          refine lv_goto (tgt := 50) C0.1 C0.2.1 dX5_sum_44 (by decide) ?_
          refine lv_istore_n (lv' := [(3, .int v_34), (2, .int x2_7), (0, .ref (ad 77)), (1, .int a1)]) C0.1 C0.2.1 dX5_sum_50 rfl hl (by decide) rfl (fun ls hl => ?_)
          refine lv_aload_n C0.1 C0.2.1 dX5_sum_51 rfl (lv_at hl 2 rfl) ?_
          refine y_cv h (y_rV (As := []) (rest := []) C0 hZ h (c_X5_advance l G Z ad _ h.2) k_X5_advance q_616 q_0 q_614 kSC_77 rfl rfl rfl hl.1 rfl rfl (Nat.le_of_ble_eq_true rfl) dX5_sum_52 ⟨Nat.le_of_ble_eq_true rfl, Nat.le_of_ble_eq_true rfl⟩ ⟨Nat.le_of_ble_eq_true rfl, Nat.le_of_ble_eq_true rfl⟩) (fun H locs ws_36 h u_37 p_38 => ?_)
          have e_39 := p_38
          replace HE : FT = g10c_X5_sum_1 R7 (xso SC ad ws_36) x2_7.toInt := HE.trans (by rw [e_39]; rfl)
          refine lv_aload_n C0.1 C0.2.1 dX5_sum_55 rfl (lv_at hl 2 rfl) ?_
          refine lv_iload_n C0.1 C0.2.1 dX5_sum_56 rfl (lv_at hl 3 rfl) ?_
          refine y_cv h (y_rV (As := [.int a1]) (rest := []) C0 hZ h (c_X5_term_1 l G Z ad _ h.2 a1 (o24_109 l1 u1) (o24_110 l1 u1)) k_X5_term q_820 q_16 q_818 kSC_77 rfl rfl rfl hl.1 rfl rfl (Nat.le_of_ble_eq_true rfl) dX5_sum_57 ⟨Nat.le_of_ble_eq_true rfl, Nat.le_of_ble_eq_true rfl⟩ ⟨Nat.le_of_ble_eq_true rfl, Nat.le_of_ble_eq_true rfl⟩) (fun H locs ws_40 h u_41 p_42 => ?_)
          have e_43 := p_42
          replace HE : FT = g11c_X5_sum_1 R7 (xso SC ad ws_40) x2_7.toInt := HE.trans (by rw [e_43, (o24_111 l1 u1)]; rfl)
          refine lv_aload_n C0.1 C0.2.1 dX5_sum_60 rfl (lv_at hl 2 rfl) ?_
          refine tg_X5_law C0 h kSC_77 q_380 dX5_sum_61 (fun i_44 hi_44 ei_44 => ?_)
          refine lv_iload_n C0.1 C0.2.1 dX5_sum_64 rfl (lv_at hl 0 rfl) ?_
          refine y_cv h (y_rV (As := [.int v_34]) (rest := []) C0 hZ h (c_X4_add l G Z ad _ h.2 i_44 hi_44 v_34) k_X4_add q_827 q_828 q_826 hi_44 rfl rfl rfl hl.1 rfl rfl (Nat.le_of_ble_eq_true rfl) dX5_sum_65 ⟨Nat.le_of_ble_eq_true rfl, Nat.le_of_ble_eq_true rfl⟩ ⟨Nat.le_of_ble_eq_true rfl, Nat.le_of_ble_eq_true rfl⟩) (fun H locs ws_45 h u_46 p_47 => ?_)
          have e_48 := p_47
          replace HE : FT = g12c_X5_sum_1 R7 (xso SC ad ws_45) x2_7.toInt := HE.trans (by rw [e_48, (o24_41 e_35), ei_44]; rfl)
          refine y_inc (kp := 1) (n := 1) (fun v_49 => [(2, .int v_49), (3, .int v_34), (0, .ref (ad 77)), (1, .int a1)]) C0 hl rfl (by decide) (by decide) (fun _ => rfl) (o24_29 b_14 b_15 hn_13 e_17 c_18 (le_min x2_7) (le_max x2_7) (le_min v_16) (le_max v_16)) (o24_30 b_14 b_15 hn_13 e_17 c_18 (le_min x2_7) (le_max x2_7) (le_min v_16) (le_max v_16)) dX5_sum_68 (fun v_49 ls e_50 hl => ?_)
          refine lv_goto (tgt := 7) C0.1 C0.2.1 dX5_sum_71 (by decide) ?_
          exact ih_11 v_49 _ _ _ _ (o24_31 b_14 b_15 hn_13 e_17 c_18 e_50) (o24_32 b_14 b_15 hn_13 e_17 c_18 e_50) (o24_33 b_14 b_15 hn_13 e_17 c_18 e_50) (((show FT = R7 (xso SC ad ws_45) v_49.toInt from HE.trans (by rw [e_50]; rfl)).trans (by rw [hR7]))) h (Fr.tr (Fr.tr (Fr.tr hF_9 (Fr.mono u_37 (by decide))) u_41) (Fr.mono u_46 (by decide))) (lv_sub hl [0, 2, 3] rfl)
        · -- 20
          replace HE : FT = g9_X5_sum_1 R7 (xso SC ad ws_8) x2_7.toInt := HE.trans (if_neg (o24_39 e_24 c_25))
          refine lv_aload_n C0.1 C0.2.1 dX5_sum_23 rfl (lv_at hl 1 rfl) ?_
          refine tg_X5_kind C0 h kSC_77 q_374 dX5_sum_24 (fun v_51 e_52 e_53 e_54 => ?_)
          have qh_55 : v_51.toInt = v_19.toInt := congrArg Int32.toInt (e_52.symm.trans (Eq.trans rfl e_20))
          refine y_c2 (n := 45) C0 (by decide) dX5_sum_27 (fun v_56 e_57 => ?_)
          replace HE : FT = g13b_X5_sum_1 R7 (xso SC ad ws_8) v_51.toInt x2_7.toInt := HE.trans (by rw [(xg0 e_52 : v_51.toInt = (xso SC ad ws_8) 0 77 4)]; rfl)
          refine y_icmp_ne (tgt := 74) C0 dX5_sum_29 (by decide) (fun c_58 => ?_) (fun c_58 => ?_)
          · -- 29
            replace HE : FT = g14_X5_sum_1 (xso SC ad ws_8) := HE.trans (if_neg (o24_43 e_24 c_25 qh_55 e_57 c_58))
            replace HE : FT = ((xso SC ad ws_8), 0) := HE.trans rfl
            rw [hQ]
            exact y_vret C0 h (Fr.tr u_2 hF_9) (congrArg Prod.fst (HE.symm.trans hFT)) dX5_sum_74
          · -- 29
            replace HE : FT = g15_X5_sum_1 R7 (xso SC ad ws_8) x2_7.toInt := HE.trans (if_pos (o24_44 e_24 c_25 qh_55 e_57 c_58))
            refine lv_aload_n C0.1 C0.2.1 dX5_sum_32 rfl (lv_at hl 1 rfl) ?_
            refine tg_X5_kind C0 h kSC_77 q_374 dX5_sum_33 (fun v_59 e_60 e_61 e_62 => ?_)
            have qh_63 : v_59.toInt = v_19.toInt := congrArg Int32.toInt (e_60.symm.trans (Eq.trans rfl e_20))
            refine y_c2 (n := 43) C0 (by decide) dX5_sum_36 (fun v_64 e_65 => ?_)
            refine y_icmp_ne (tgt := 47) C0 dX5_sum_38 (by decide) (fun c_66 => ?_) (fun c_66 => ((o24_45 e_24 c_25 qh_55 e_57 c_58 qh_63 e_65 c_66)).elim)
            refine y_c3 (n := 2001) C0 (by decide) dX5_sum_47 (fun v_67 e_68 => ?_)
            refine lv_istore_n (lv' := [(3, .int v_67), (2, .int x2_7), (0, .ref (ad 77)), (1, .int a1)]) C0.1 C0.2.1 dX5_sum_50 rfl hl (by decide) rfl (fun ls hl => ?_)
            refine lv_aload_n C0.1 C0.2.1 dX5_sum_51 rfl (lv_at hl 2 rfl) ?_
            refine y_cv h (y_rV (As := []) (rest := []) C0 hZ h (c_X5_advance l G Z ad _ h.2) k_X5_advance q_616 q_0 q_614 kSC_77 rfl rfl rfl hl.1 rfl rfl (Nat.le_of_ble_eq_true rfl) dX5_sum_52 ⟨Nat.le_of_ble_eq_true rfl, Nat.le_of_ble_eq_true rfl⟩ ⟨Nat.le_of_ble_eq_true rfl, Nat.le_of_ble_eq_true rfl⟩) (fun H locs ws_69 h u_70 p_71 => ?_)
            have e_72 := p_71
            replace HE : FT = g16c_X5_sum_1 R7 (xso SC ad ws_69) x2_7.toInt := HE.trans (by rw [e_72]; rfl)
            refine lv_aload_n C0.1 C0.2.1 dX5_sum_55 rfl (lv_at hl 2 rfl) ?_
            refine lv_iload_n C0.1 C0.2.1 dX5_sum_56 rfl (lv_at hl 3 rfl) ?_
            refine y_cv h (y_rV (As := [.int a1]) (rest := []) C0 hZ h (c_X5_term_1 l G Z ad _ h.2 a1 (o24_109 l1 u1) (o24_110 l1 u1)) k_X5_term q_820 q_16 q_818 kSC_77 rfl rfl rfl hl.1 rfl rfl (Nat.le_of_ble_eq_true rfl) dX5_sum_57 ⟨Nat.le_of_ble_eq_true rfl, Nat.le_of_ble_eq_true rfl⟩ ⟨Nat.le_of_ble_eq_true rfl, Nat.le_of_ble_eq_true rfl⟩) (fun H locs ws_73 h u_74 p_75 => ?_)
            have e_76 := p_75
            replace HE : FT = g17c_X5_sum_1 R7 (xso SC ad ws_73) x2_7.toInt := HE.trans (by rw [e_76, (o24_111 l1 u1)]; rfl)
            refine lv_aload_n C0.1 C0.2.1 dX5_sum_60 rfl (lv_at hl 2 rfl) ?_
            refine tg_X5_law C0 h kSC_77 q_380 dX5_sum_61 (fun i_77 hi_77 ei_77 => ?_)
            refine lv_iload_n C0.1 C0.2.1 dX5_sum_64 rfl (lv_at hl 0 rfl) ?_
            refine y_cv h (y_rV (As := [.int v_67]) (rest := []) C0 hZ h (c_X4_add l G Z ad _ h.2 i_77 hi_77 v_67) k_X4_add q_827 q_828 q_826 hi_77 rfl rfl rfl hl.1 rfl rfl (Nat.le_of_ble_eq_true rfl) dX5_sum_65 ⟨Nat.le_of_ble_eq_true rfl, Nat.le_of_ble_eq_true rfl⟩ ⟨Nat.le_of_ble_eq_true rfl, Nat.le_of_ble_eq_true rfl⟩) (fun H locs ws_78 h u_79 p_80 => ?_)
            have e_81 := p_80
            replace HE : FT = g18c_X5_sum_1 R7 (xso SC ad ws_78) x2_7.toInt := HE.trans (by rw [e_81, (o24_46 e_68), ei_77]; rfl)
            refine y_inc (kp := 1) (n := 1) (fun v_82 => [(2, .int v_82), (3, .int v_67), (0, .ref (ad 77)), (1, .int a1)]) C0 hl rfl (by decide) (by decide) (fun _ => rfl) (o24_29 b_14 b_15 hn_13 e_17 c_18 (le_min x2_7) (le_max x2_7) (le_min v_16) (le_max v_16)) (o24_30 b_14 b_15 hn_13 e_17 c_18 (le_min x2_7) (le_max x2_7) (le_min v_16) (le_max v_16)) dX5_sum_68 (fun v_82 ls e_83 hl => ?_)
            refine lv_goto (tgt := 7) C0.1 C0.2.1 dX5_sum_71 (by decide) ?_
            exact ih_11 v_82 _ _ _ _ (o24_31 b_14 b_15 hn_13 e_17 c_18 e_83) (o24_32 b_14 b_15 hn_13 e_17 c_18 e_83) (o24_33 b_14 b_15 hn_13 e_17 c_18 e_83) (((show FT = R7 (xso SC ad ws_78) v_82.toInt from HE.trans (by rw [e_83]; rfl)).trans (by rw [hR7]))) h (Fr.tr (Fr.tr (Fr.tr hF_9 (Fr.mono u_70 (by decide))) u_74) (Fr.mono u_79 (by decide))) (lv_sub hl [0, 2, 3] rfl)
  exact lp_10 ((900 - v_5.toInt + 1).toNat) v_5 _ _ _ _ (o24_34 e_6) (o24_35 e_6) (o24_36 e_6) ((show FT = L2_X5_sum_1 (Int.toNat (900 - v_5.toInt + 1)) (xso SC ad ws_1) v_5.toInt from HE.trans (by rw [e_6]; rfl))) h Fr.rf (lv_sub hl [0, 1, 2] rfl)
noncomputable def g18c_X5_unit_1 (s : XS) : XR := (s, 0)
noncomputable def g16_X5_unit_1 (s : XS) : XR := g18c_X5_unit_1 ((f_X5_fail s 2).1)
noncomputable def g21c_X5_unit_1 (s : XS) : XR := (s, 0)
noncomputable def g20c_X5_unit_1 (s : XS) : XR := g21c_X5_unit_1 ((f_X4_add s (Int.toNat (s 3 77 10)) 2005).1)
noncomputable def g19c_X5_unit_1 (s : XS) : XR := g20c_X5_unit_1 ((f_X5_sum_1 s 1).1)
noncomputable def g17_X5_unit_1 (s : XS) : XR := g19c_X5_unit_1 ((f_X5_advance s).1)
noncomputable def g15b_X5_unit_1 (s : XS) (v_36 : Int) : XR := if v_36 = 62 then g17_X5_unit_1 s else g16_X5_unit_1 s
noncomputable def g13_X5_unit_1 (s : XS) : XR := g15b_X5_unit_1 s ((s 0 77 4))
noncomputable def g24c_X5_unit_1 (s : XS) : XR := (s, 0)
noncomputable def g23c_X5_unit_1 (s : XS) : XR := g24c_X5_unit_1 ((f_X4_add s (Int.toNat (s 3 77 10)) 2004).1)
noncomputable def g22c_X5_unit_1 (s : XS) : XR := g23c_X5_unit_1 ((f_X5_sum_1 s 1).1)
noncomputable def g14_X5_unit_1 (s : XS) : XR := g22c_X5_unit_1 ((f_X5_advance s).1)
noncomputable def g12b_X5_unit_1 (s : XS) (v_28 : Int) : XR := if v_28 = 60 then g14_X5_unit_1 s else g13_X5_unit_1 s
noncomputable def g10_X5_unit_1 (s : XS) : XR := g12b_X5_unit_1 s ((s 0 77 4))
noncomputable def g27c_X5_unit_1 (s : XS) : XR := (s, 0)
noncomputable def g26c_X5_unit_1 (s : XS) : XR := g27c_X5_unit_1 ((f_X4_add s (Int.toNat (s 3 77 10)) 2003).1)
noncomputable def g25c_X5_unit_1 (s : XS) : XR := g26c_X5_unit_1 ((f_X5_sum_1 s 1).1)
noncomputable def g11_X5_unit_1 (s : XS) : XR := g25c_X5_unit_1 ((f_X5_advance s).1)
noncomputable def g9b_X5_unit_1 (s : XS) (v_21 : Int) : XR := if v_21 = 61 then g11_X5_unit_1 s else g10_X5_unit_1 s
noncomputable def g8c_X5_unit_1 (s : XS) : XR := g9b_X5_unit_1 s ((s 0 77 4))
noncomputable def g6_X5_unit_1 (s : XS) : XR := g8c_X5_unit_1 ((f_X5_sum_1 s 1).1)
noncomputable def g31c_X5_unit_1 (s : XS) : XR := (s, 0)
noncomputable def g30c_X5_unit_1 (s : XS) : XR := g31c_X5_unit_1 ((f_X5_sign s 93).1)
noncomputable def g29c_X5_unit_1 (s : XS) : XR := g30c_X5_unit_1 ((f_X5_truth_2 s (1 + 1)).1)
noncomputable def g28c_X5_unit_1 (s : XS) : XR := g29c_X5_unit_1 ((f_X5_advance s).1)
noncomputable def g7_X5_unit_1 (s : XS) : XR := g28c_X5_unit_1 ((f_X5_tooDeep_1 s 1).1)
noncomputable def g5b_X5_unit_1 (s : XS) (v_10 : Int) : XR := if v_10 = 91 then g7_X5_unit_1 s else g6_X5_unit_1 s
noncomputable def g3_X5_unit_1 (s : XS) : XR := g5b_X5_unit_1 s ((s 0 77 4))
noncomputable def g36c_X5_unit_1 (s : XS) : XR := (s, 0)
noncomputable def g35c_X5_unit_1 (s : XS) : XR := g36c_X5_unit_1 ((f_X4_add s (Int.toNat (s 3 77 10)) 2003).1)
noncomputable def g34c_X5_unit_1 (s : XS) : XR := g35c_X5_unit_1 ((f_X4_add s (Int.toNat (s 3 77 10)) 0).1)
noncomputable def g33c_X5_unit_1 (s : XS) : XR := g34c_X5_unit_1 ((f_X5_unit_2 s (1 + 1)).1)
noncomputable def g32c_X5_unit_1 (s : XS) : XR := g33c_X5_unit_1 ((f_X5_advance s).1)
noncomputable def g4_X5_unit_1 (s : XS) : XR := g32c_X5_unit_1 ((f_X5_tooDeep_1 s 1).1)
noncomputable def g2b_X5_unit_1 (s : XS) (r_4 : Int) : XR := if r_4 = 0 then g3_X5_unit_1 s else g4_X5_unit_1 s
noncomputable def g1c_X5_unit_1 (s : XS) (r_4 : Int) : XR := g2b_X5_unit_1 s r_4
noncomputable def f_X5_unit_1 (s : XS) (a1 : Int) : XR := g1c_X5_unit_1 ((f_X5_isWord s 19).1) (((f_X5_isWord s 19).2))
set_option maxHeartbeats 4000000 in
set_option maxRecDepth 100000 in
theorem c_X5_unit_1 (l : Launch) (G : GG) (Z : RZ) (ad : Nat → Nat) (ws0 : va_W) (hT : Ty G SC ad ws0) (a1 : Int32) (l1 : 1 ≤ a1.toInt) (u1 : a1.toInt ≤ 1) : Mq l yX5_unit cX5_unit 3 none 24 G Z [.ref (ad 77), .int a1] ws0 (PV G SC ad [2, 3, 16] ws0 (fun u => (xso SC ad u = (f_X5_unit_1 (xso SC ad ws0) a1.toInt).1))) := by
  refine Mq.start (by decide) (Nat.le_of_ble_eq_true rfl) ?_
  intro p e s m below meth c A ls C0 hZ h hl
  have hl : lv_has ls 3 [(0, .ref (ad 77)), (1, .int a1)] := hl
  have h : Wt G SC ad A s s.heap [] ws0 := ⟨h, hT⟩
  obtain ⟨args, hargs⟩ : ∃ z, z = ([.ref (ad 77), .int a1] : List Value).toArray := ⟨_, rfl⟩
  rw [← hargs] at C0 ⊢
  have C0 : Cx p s m args meth c RX5 cX5_unit 3 none := C0
  obtain ⟨Q, hQ⟩ : ∃ z, z = MQ below ((PV G SC ad [2, 3, 16] ws0 (fun u => (xso SC ad u = (f_X5_unit_1 (xso SC ad ws0) a1.toInt).1))) A) args s 0 0 A := ⟨_, rfl⟩
  rw [← hQ]
  obtain ⟨FT, hFT⟩ : ∃ z, z = f_X5_unit_1 (xso SC ad ws0) a1.toInt := ⟨_, rfl⟩
  have HE : FT = f_X5_unit_1 (xso SC ad ws0) a1.toInt := hFT
  refine lv_aload_n C0.1 C0.2.1 dX5_unit_0 rfl (lv_at hl 0 rfl) ?_
  refine va_ldcS C0.1 C0.2.1 C0.2.2.2.1 (sr_19 hZ) dX5_unit_1 ?_
  refine y_ci h (y_rV (As := [.ref (Z.2.1 19)]) (rest := []) C0 hZ h (c_X5_isWord l G Z ad _ h.2 19 (by decide)) k_X5_isWord q_724 q_5 q_722 kSC_77 rfl rfl rfl hl.1 rfl rfl (Nat.le_of_ble_eq_true rfl) dX5_unit_3 ⟨Nat.le_of_ble_eq_true rfl, Nat.le_of_ble_eq_true rfl⟩ ⟨Nat.le_of_ble_eq_true rfl, Nat.le_of_ble_eq_true rfl⟩) (fun r_4 H locs ws_1 h u_2 p_3 => ?_)
  obtain ⟨e_5, e_6, e_7, e_8⟩ := p_3
  replace HE : FT = g1c_X5_unit_1 (xso SC ad ws_1) r_4.toInt := HE.trans (by rw [e_5, e_6]; rfl)
  replace HE : FT = g2b_X5_unit_1 (xso SC ad ws_1) r_4.toInt := HE.trans rfl
  refine y_if_eq (tgt := 49) C0 dX5_unit_6 (by decide) (fun c_9 => ?_) (fun c_9 => ?_)
  · -- 6
    replace HE : FT = g3_X5_unit_1 (xso SC ad ws_1) := HE.trans (if_pos c_9)
    refine lv_aload_n C0.1 C0.2.1 dX5_unit_49 rfl (lv_at hl 0 rfl) ?_
    refine tg_X5_kind C0 h kSC_77 q_374 dX5_unit_50 (fun v_10 e_11 e_12 e_13 => ?_)
    refine y_c2 (n := 91) C0 (by decide) dX5_unit_53 (fun v_14 e_15 => ?_)
    replace HE : FT = g5b_X5_unit_1 (xso SC ad ws_1) v_10.toInt := HE.trans (by rw [(xg0 e_11 : v_10.toInt = (xso SC ad ws_1) 0 77 4)]; rfl)
    refine y_icmp_ne (tgt := 86) C0 dX5_unit_55 (by decide) (fun c_16 => ?_) (fun c_16 => ?_)
    · -- 55
      replace HE : FT = g6_X5_unit_1 (xso SC ad ws_1) := HE.trans (if_neg (o24_48 e_15 c_16))
      refine lv_aload_n C0.1 C0.2.1 dX5_unit_86 rfl (lv_at hl 0 rfl) ?_
      refine lv_iload_n C0.1 C0.2.1 dX5_unit_87 rfl (lv_at hl 1 rfl) ?_
      refine y_cv h (y_rV (As := [.int a1]) (rest := []) C0 hZ h (c_X5_sum_1 l G Z ad _ h.2 a1 (o24_109 l1 u1) (o24_110 l1 u1)) k_X5_sum q_816 q_15 q_814 kSC_77 rfl rfl rfl hl.1 rfl rfl (Nat.le_of_ble_eq_true rfl) dX5_unit_88 ⟨Nat.le_of_ble_eq_true rfl, Nat.le_of_ble_eq_true rfl⟩ ⟨Nat.le_of_ble_eq_true rfl, Nat.le_of_ble_eq_true rfl⟩) (fun H locs ws_17 h u_18 p_19 => ?_)
      have e_20 := p_19
      replace HE : FT = g8c_X5_unit_1 (xso SC ad ws_17) := HE.trans (by rw [e_20, (o24_111 l1 u1)]; rfl)
      refine lv_aload_n C0.1 C0.2.1 dX5_unit_91 rfl (lv_at hl 0 rfl) ?_
      refine tg_X5_kind C0 h kSC_77 q_374 dX5_unit_92 (fun v_21 e_22 e_23 e_24 => ?_)
      refine y_c2 (n := 61) C0 (by decide) dX5_unit_95 (fun v_25 e_26 => ?_)
      replace HE : FT = g9b_X5_unit_1 (xso SC ad ws_17) v_21.toInt := HE.trans (by rw [(xg0 e_22 : v_21.toInt = (xso SC ad ws_17) 0 77 4)]; rfl)
      refine y_icmp_ne (tgt := 106) C0 dX5_unit_97 (by decide) (fun c_27 => ?_) (fun c_27 => ?_)
      · -- 97
        replace HE : FT = g10_X5_unit_1 (xso SC ad ws_17) := HE.trans (if_neg (o24_51 e_26 c_27))
        refine lv_aload_n C0.1 C0.2.1 dX5_unit_106 rfl (lv_at hl 0 rfl) ?_
        refine tg_X5_kind C0 h kSC_77 q_374 dX5_unit_107 (fun v_28 e_29 e_30 e_31 => ?_)
        have qh_32 : v_28.toInt = v_21.toInt := congrArg Int32.toInt (e_29.symm.trans (Eq.trans rfl e_22))
        refine y_c2 (n := 60) C0 (by decide) dX5_unit_110 (fun v_33 e_34 => ?_)
        replace HE : FT = g12b_X5_unit_1 (xso SC ad ws_17) v_28.toInt := HE.trans (by rw [(xg0 e_29 : v_28.toInt = (xso SC ad ws_17) 0 77 4)]; rfl)
        refine y_icmp_ne (tgt := 121) C0 dX5_unit_112 (by decide) (fun c_35 => ?_) (fun c_35 => ?_)
        · -- 112
          replace HE : FT = g13_X5_unit_1 (xso SC ad ws_17) := HE.trans (if_neg (o24_54 e_26 c_27 qh_32 e_34 c_35))
          refine lv_aload_n C0.1 C0.2.1 dX5_unit_121 rfl (lv_at hl 0 rfl) ?_
          refine tg_X5_kind C0 h kSC_77 q_374 dX5_unit_122 (fun v_36 e_37 e_38 e_39 => ?_)
          have qh_40 : v_36.toInt = v_21.toInt := congrArg Int32.toInt (e_37.symm.trans (Eq.trans rfl e_22))
          refine y_c2 (n := 62) C0 (by decide) dX5_unit_125 (fun v_41 e_42 => ?_)
          replace HE : FT = g15b_X5_unit_1 (xso SC ad ws_17) v_36.toInt := HE.trans (by rw [(xg0 e_37 : v_36.toInt = (xso SC ad ws_17) 0 77 4)]; rfl)
          refine y_icmp_ne (tgt := 136) C0 dX5_unit_127 (by decide) (fun c_43 => ?_) (fun c_43 => ?_)
          · -- 127
            replace HE : FT = g16_X5_unit_1 (xso SC ad ws_17) := HE.trans (if_neg (o24_57 e_26 c_27 qh_32 e_34 c_35 qh_40 e_42 c_43))
            refine y_c1 (n := (-1)) C0 (by decide) dX5_unit_136 (fun v_44 e_45 => ?_)
            refine lv_istore_n (lv' := [(2, .int v_44), (0, .ref (ad 77)), (1, .int a1)]) C0.1 C0.2.1 dX5_unit_137 rfl hl (by decide) rfl (fun ls hl => ?_)
            refine lv_iload_n C0.1 C0.2.1 dX5_unit_138 rfl (lv_at hl 0 rfl) ?_
            refine y_if_ge (tgt := 148) C0 dX5_unit_139 (by decide) (fun c_46 => ((o24_11 e_45 c_46)).elim) (fun c_46 => ?_)
            refine lv_aload_n C0.1 C0.2.1 dX5_unit_142 rfl (lv_at hl 1 rfl) ?_
            refine y_c1 (n := 2) C0 (by decide) dX5_unit_143 (fun v_47 e_48 => ?_)
            refine y_cv h (y_rV (As := [.int v_47]) (rest := []) C0 hZ h (c_X5_fail l G Z ad _ h.2 v_47) k_X5_fail q_628 q_3 q_626 kSC_77 rfl rfl rfl hl.1 rfl rfl (Nat.le_of_ble_eq_true rfl) dX5_unit_144 ⟨Nat.le_of_ble_eq_true rfl, Nat.le_of_ble_eq_true rfl⟩ ⟨Nat.le_of_ble_eq_true rfl, Nat.le_of_ble_eq_true rfl⟩) (fun H locs ws_49 h u_50 p_51 => ?_)
            have e_52 := p_51
            replace HE : FT = g18c_X5_unit_1 (xso SC ad ws_49) := HE.trans (by rw [e_52, e_48]; rfl)
            replace HE : FT = ((xso SC ad ws_49), 0) := HE.trans rfl
            rw [hQ]
            exact y_vret C0 h (Fr.tr (Fr.tr (Fr.mono u_2 (by decide)) u_18) (Fr.mono u_50 (by decide))) (congrArg Prod.fst (HE.symm.trans hFT)) dX5_unit_147
          · -- 127
            replace HE : FT = g17_X5_unit_1 (xso SC ad ws_17) := HE.trans (if_pos (o24_58 e_26 c_27 qh_32 e_34 c_35 qh_40 e_42 c_43))
            refine y_c3 (n := 2005) C0 (by decide) dX5_unit_130 (fun v_53 e_54 => ?_)
            refine lv_goto (tgt := 137) C0.1 C0.2.1 dX5_unit_133 (by decide) ?_
            refine lv_istore_n (lv' := [(2, .int v_53), (0, .ref (ad 77)), (1, .int a1)]) C0.1 C0.2.1 dX5_unit_137 rfl hl (by decide) rfl (fun ls hl => ?_)
            refine lv_iload_n C0.1 C0.2.1 dX5_unit_138 rfl (lv_at hl 0 rfl) ?_
            refine y_if_ge (tgt := 148) C0 dX5_unit_139 (by decide) (fun c_55 => ?_) (fun c_55 => ((o24_59 e_54 c_55)).elim)
            refine lv_aload_n C0.1 C0.2.1 dX5_unit_148 rfl (lv_at hl 1 rfl) ?_
            refine y_cv h (y_rV (As := []) (rest := []) C0 hZ h (c_X5_advance l G Z ad _ h.2) k_X5_advance q_616 q_0 q_614 kSC_77 rfl rfl rfl hl.1 rfl rfl (Nat.le_of_ble_eq_true rfl) dX5_unit_149 ⟨Nat.le_of_ble_eq_true rfl, Nat.le_of_ble_eq_true rfl⟩ ⟨Nat.le_of_ble_eq_true rfl, Nat.le_of_ble_eq_true rfl⟩) (fun H locs ws_56 h u_57 p_58 => ?_)
            have e_59 := p_58
            replace HE : FT = g19c_X5_unit_1 (xso SC ad ws_56) := HE.trans (by rw [e_59]; rfl)
            refine lv_aload_n C0.1 C0.2.1 dX5_unit_152 rfl (lv_at hl 1 rfl) ?_
            refine lv_iload_n C0.1 C0.2.1 dX5_unit_153 rfl (lv_at hl 2 rfl) ?_
            refine y_cv h (y_rV (As := [.int a1]) (rest := []) C0 hZ h (c_X5_sum_1 l G Z ad _ h.2 a1 (o24_109 l1 u1) (o24_110 l1 u1)) k_X5_sum q_816 q_15 q_814 kSC_77 rfl rfl rfl hl.1 rfl rfl (Nat.le_of_ble_eq_true rfl) dX5_unit_154 ⟨Nat.le_of_ble_eq_true rfl, Nat.le_of_ble_eq_true rfl⟩ ⟨Nat.le_of_ble_eq_true rfl, Nat.le_of_ble_eq_true rfl⟩) (fun H locs ws_60 h u_61 p_62 => ?_)
            have e_63 := p_62
            replace HE : FT = g20c_X5_unit_1 (xso SC ad ws_60) := HE.trans (by rw [e_63, (o24_111 l1 u1)]; rfl)
            refine lv_aload_n C0.1 C0.2.1 dX5_unit_157 rfl (lv_at hl 1 rfl) ?_
            refine tg_X5_law C0 h kSC_77 q_380 dX5_unit_158 (fun i_64 hi_64 ei_64 => ?_)
            refine lv_iload_n C0.1 C0.2.1 dX5_unit_161 rfl (lv_at hl 0 rfl) ?_
            refine y_cv h (y_rV (As := [.int v_53]) (rest := []) C0 hZ h (c_X4_add l G Z ad _ h.2 i_64 hi_64 v_53) k_X4_add q_827 q_828 q_826 hi_64 rfl rfl rfl hl.1 rfl rfl (Nat.le_of_ble_eq_true rfl) dX5_unit_162 ⟨Nat.le_of_ble_eq_true rfl, Nat.le_of_ble_eq_true rfl⟩ ⟨Nat.le_of_ble_eq_true rfl, Nat.le_of_ble_eq_true rfl⟩) (fun H locs ws_65 h u_66 p_67 => ?_)
            have e_68 := p_67
            replace HE : FT = g21c_X5_unit_1 (xso SC ad ws_65) := HE.trans (by rw [e_68, (o24_60 e_54 c_55), ei_64]; rfl)
            replace HE : FT = ((xso SC ad ws_65), 0) := HE.trans rfl
            rw [hQ]
            exact y_vret C0 h (Fr.tr (Fr.tr (Fr.tr (Fr.tr (Fr.mono u_2 (by decide)) u_18) (Fr.mono u_57 (by decide))) u_61) (Fr.mono u_66 (by decide))) (congrArg Prod.fst (HE.symm.trans hFT)) dX5_unit_165
        · -- 112
          replace HE : FT = g14_X5_unit_1 (xso SC ad ws_17) := HE.trans (if_pos (o24_55 e_26 c_27 qh_32 e_34 c_35))
          refine y_c3 (n := 2004) C0 (by decide) dX5_unit_115 (fun v_69 e_70 => ?_)
          refine lv_goto (tgt := 137) C0.1 C0.2.1 dX5_unit_118 (by decide) ?_
          refine lv_istore_n (lv' := [(2, .int v_69), (0, .ref (ad 77)), (1, .int a1)]) C0.1 C0.2.1 dX5_unit_137 rfl hl (by decide) rfl (fun ls hl => ?_)
          refine lv_iload_n C0.1 C0.2.1 dX5_unit_138 rfl (lv_at hl 0 rfl) ?_
          refine y_if_ge (tgt := 148) C0 dX5_unit_139 (by decide) (fun c_71 => ?_) (fun c_71 => ((o24_61 e_70 c_71)).elim)
          refine lv_aload_n C0.1 C0.2.1 dX5_unit_148 rfl (lv_at hl 1 rfl) ?_
          refine y_cv h (y_rV (As := []) (rest := []) C0 hZ h (c_X5_advance l G Z ad _ h.2) k_X5_advance q_616 q_0 q_614 kSC_77 rfl rfl rfl hl.1 rfl rfl (Nat.le_of_ble_eq_true rfl) dX5_unit_149 ⟨Nat.le_of_ble_eq_true rfl, Nat.le_of_ble_eq_true rfl⟩ ⟨Nat.le_of_ble_eq_true rfl, Nat.le_of_ble_eq_true rfl⟩) (fun H locs ws_72 h u_73 p_74 => ?_)
          have e_75 := p_74
          replace HE : FT = g22c_X5_unit_1 (xso SC ad ws_72) := HE.trans (by rw [e_75]; rfl)
          refine lv_aload_n C0.1 C0.2.1 dX5_unit_152 rfl (lv_at hl 1 rfl) ?_
          refine lv_iload_n C0.1 C0.2.1 dX5_unit_153 rfl (lv_at hl 2 rfl) ?_
          refine y_cv h (y_rV (As := [.int a1]) (rest := []) C0 hZ h (c_X5_sum_1 l G Z ad _ h.2 a1 (o24_109 l1 u1) (o24_110 l1 u1)) k_X5_sum q_816 q_15 q_814 kSC_77 rfl rfl rfl hl.1 rfl rfl (Nat.le_of_ble_eq_true rfl) dX5_unit_154 ⟨Nat.le_of_ble_eq_true rfl, Nat.le_of_ble_eq_true rfl⟩ ⟨Nat.le_of_ble_eq_true rfl, Nat.le_of_ble_eq_true rfl⟩) (fun H locs ws_76 h u_77 p_78 => ?_)
          have e_79 := p_78
          replace HE : FT = g23c_X5_unit_1 (xso SC ad ws_76) := HE.trans (by rw [e_79, (o24_111 l1 u1)]; rfl)
          refine lv_aload_n C0.1 C0.2.1 dX5_unit_157 rfl (lv_at hl 1 rfl) ?_
          refine tg_X5_law C0 h kSC_77 q_380 dX5_unit_158 (fun i_80 hi_80 ei_80 => ?_)
          refine lv_iload_n C0.1 C0.2.1 dX5_unit_161 rfl (lv_at hl 0 rfl) ?_
          refine y_cv h (y_rV (As := [.int v_69]) (rest := []) C0 hZ h (c_X4_add l G Z ad _ h.2 i_80 hi_80 v_69) k_X4_add q_827 q_828 q_826 hi_80 rfl rfl rfl hl.1 rfl rfl (Nat.le_of_ble_eq_true rfl) dX5_unit_162 ⟨Nat.le_of_ble_eq_true rfl, Nat.le_of_ble_eq_true rfl⟩ ⟨Nat.le_of_ble_eq_true rfl, Nat.le_of_ble_eq_true rfl⟩) (fun H locs ws_81 h u_82 p_83 => ?_)
          have e_84 := p_83
          replace HE : FT = g24c_X5_unit_1 (xso SC ad ws_81) := HE.trans (by rw [e_84, (o24_62 e_70 c_71), ei_80]; rfl)
          replace HE : FT = ((xso SC ad ws_81), 0) := HE.trans rfl
          rw [hQ]
          exact y_vret C0 h (Fr.tr (Fr.tr (Fr.tr (Fr.tr (Fr.mono u_2 (by decide)) u_18) (Fr.mono u_73 (by decide))) u_77) (Fr.mono u_82 (by decide))) (congrArg Prod.fst (HE.symm.trans hFT)) dX5_unit_165
      · -- 97
        replace HE : FT = g11_X5_unit_1 (xso SC ad ws_17) := HE.trans (if_pos (o24_52 e_26 c_27))
        refine y_c3 (n := 2003) C0 (by decide) dX5_unit_100 (fun v_85 e_86 => ?_)
        refine lv_goto (tgt := 137) C0.1 C0.2.1 dX5_unit_103 (by decide) ?_
        refine lv_istore_n (lv' := [(2, .int v_85), (0, .ref (ad 77)), (1, .int a1)]) C0.1 C0.2.1 dX5_unit_137 rfl hl (by decide) rfl (fun ls hl => ?_)
        refine lv_iload_n C0.1 C0.2.1 dX5_unit_138 rfl (lv_at hl 0 rfl) ?_
        refine y_if_ge (tgt := 148) C0 dX5_unit_139 (by decide) (fun c_87 => ?_) (fun c_87 => ((o24_63 e_86 c_87)).elim)
        refine lv_aload_n C0.1 C0.2.1 dX5_unit_148 rfl (lv_at hl 1 rfl) ?_
        refine y_cv h (y_rV (As := []) (rest := []) C0 hZ h (c_X5_advance l G Z ad _ h.2) k_X5_advance q_616 q_0 q_614 kSC_77 rfl rfl rfl hl.1 rfl rfl (Nat.le_of_ble_eq_true rfl) dX5_unit_149 ⟨Nat.le_of_ble_eq_true rfl, Nat.le_of_ble_eq_true rfl⟩ ⟨Nat.le_of_ble_eq_true rfl, Nat.le_of_ble_eq_true rfl⟩) (fun H locs ws_88 h u_89 p_90 => ?_)
        have e_91 := p_90
        replace HE : FT = g25c_X5_unit_1 (xso SC ad ws_88) := HE.trans (by rw [e_91]; rfl)
        refine lv_aload_n C0.1 C0.2.1 dX5_unit_152 rfl (lv_at hl 1 rfl) ?_
        refine lv_iload_n C0.1 C0.2.1 dX5_unit_153 rfl (lv_at hl 2 rfl) ?_
        refine y_cv h (y_rV (As := [.int a1]) (rest := []) C0 hZ h (c_X5_sum_1 l G Z ad _ h.2 a1 (o24_109 l1 u1) (o24_110 l1 u1)) k_X5_sum q_816 q_15 q_814 kSC_77 rfl rfl rfl hl.1 rfl rfl (Nat.le_of_ble_eq_true rfl) dX5_unit_154 ⟨Nat.le_of_ble_eq_true rfl, Nat.le_of_ble_eq_true rfl⟩ ⟨Nat.le_of_ble_eq_true rfl, Nat.le_of_ble_eq_true rfl⟩) (fun H locs ws_92 h u_93 p_94 => ?_)
        have e_95 := p_94
        replace HE : FT = g26c_X5_unit_1 (xso SC ad ws_92) := HE.trans (by rw [e_95, (o24_111 l1 u1)]; rfl)
        refine lv_aload_n C0.1 C0.2.1 dX5_unit_157 rfl (lv_at hl 1 rfl) ?_
        refine tg_X5_law C0 h kSC_77 q_380 dX5_unit_158 (fun i_96 hi_96 ei_96 => ?_)
        refine lv_iload_n C0.1 C0.2.1 dX5_unit_161 rfl (lv_at hl 0 rfl) ?_
        refine y_cv h (y_rV (As := [.int v_85]) (rest := []) C0 hZ h (c_X4_add l G Z ad _ h.2 i_96 hi_96 v_85) k_X4_add q_827 q_828 q_826 hi_96 rfl rfl rfl hl.1 rfl rfl (Nat.le_of_ble_eq_true rfl) dX5_unit_162 ⟨Nat.le_of_ble_eq_true rfl, Nat.le_of_ble_eq_true rfl⟩ ⟨Nat.le_of_ble_eq_true rfl, Nat.le_of_ble_eq_true rfl⟩) (fun H locs ws_97 h u_98 p_99 => ?_)
        have e_100 := p_99
        replace HE : FT = g27c_X5_unit_1 (xso SC ad ws_97) := HE.trans (by rw [e_100, (o24_64 e_86 c_87), ei_96]; rfl)
        replace HE : FT = ((xso SC ad ws_97), 0) := HE.trans rfl
        rw [hQ]
        exact y_vret C0 h (Fr.tr (Fr.tr (Fr.tr (Fr.tr (Fr.mono u_2 (by decide)) u_18) (Fr.mono u_89 (by decide))) u_93) (Fr.mono u_98 (by decide))) (congrArg Prod.fst (HE.symm.trans hFT)) dX5_unit_165
    · -- 55
      replace HE : FT = g7_X5_unit_1 (xso SC ad ws_1) := HE.trans (if_pos (o24_49 e_15 c_16))
      refine lv_aload_n C0.1 C0.2.1 dX5_unit_58 rfl (lv_at hl 0 rfl) ?_
      refine lv_iload_n C0.1 C0.2.1 dX5_unit_59 rfl (lv_at hl 1 rfl) ?_
      refine y_ci h (y_rV (As := [.int a1]) (rest := []) C0 hZ h (c_X5_tooDeep_1 l G Z ad _ h.2 a1 (o24_109 l1 u1) (o24_110 l1 u1)) k_X5_tooDeep q_832 q_18 q_830 kSC_77 rfl rfl rfl hl.1 rfl rfl (Nat.le_of_ble_eq_true rfl) dX5_unit_60 ⟨Nat.le_of_ble_eq_true rfl, Nat.le_of_ble_eq_true rfl⟩ ⟨Nat.le_of_ble_eq_true rfl, Nat.le_of_ble_eq_true rfl⟩) (fun r_104 H locs ws_101 h u_102 p_103 => ?_)
      obtain ⟨e_105, e_106, e_107, e_108⟩ := p_103
      replace HE : FT = g28c_X5_unit_1 (xso SC ad ws_101) := HE.trans (by rw [e_105, (o24_111 l1 u1)]; rfl)
      refine y_if_ne (tgt := 165) C0 dX5_unit_63 (by decide) (fun c_109 => ((o24_71 e_107 e_108 c_109)).elim) (fun c_109 => ?_)
      refine lv_aload_n C0.1 C0.2.1 dX5_unit_66 rfl (lv_at hl 0 rfl) ?_
      refine y_cv h (y_rV (As := []) (rest := []) C0 hZ h (c_X5_advance l G Z ad _ h.2) k_X5_advance q_616 q_0 q_614 kSC_77 rfl rfl rfl hl.1 rfl rfl (Nat.le_of_ble_eq_true rfl) dX5_unit_67 ⟨Nat.le_of_ble_eq_true rfl, Nat.le_of_ble_eq_true rfl⟩ ⟨Nat.le_of_ble_eq_true rfl, Nat.le_of_ble_eq_true rfl⟩) (fun H locs ws_110 h u_111 p_112 => ?_)
      have e_113 := p_112
      replace HE : FT = g29c_X5_unit_1 (xso SC ad ws_110) := HE.trans (by rw [e_113]; rfl)
      refine lv_aload_n C0.1 C0.2.1 dX5_unit_70 rfl (lv_at hl 0 rfl) ?_
      refine lv_iload_n C0.1 C0.2.1 dX5_unit_71 rfl (lv_at hl 1 rfl) ?_
      refine y_c1 (n := 1) C0 (by decide) dX5_unit_72 (fun v_114 e_115 => ?_)
      refine y_add C0 (o24_112 l1 u1 e_115 (le_min a1) (le_max a1) (le_min v_114) (le_max v_114)) (o24_113 l1 u1 e_115 (le_min a1) (le_max a1) (le_min v_114) (le_max v_114)) dX5_unit_73 (fun v_116 e_117 => ?_)
      refine y_cv h (y_rV (As := [.int v_116]) (rest := []) C0 hZ h (c_X5_truth_2 l G Z ad _ h.2 v_116 (o24_114 l1 u1 e_115 e_117) (o24_115 l1 u1 e_115 e_117)) k_X5_truth q_843 q_19 q_841 kSC_77 rfl rfl rfl hl.1 rfl rfl (Nat.le_of_ble_eq_true rfl) dX5_unit_74 ⟨Nat.le_of_ble_eq_true rfl, Nat.le_of_ble_eq_true rfl⟩ ⟨Nat.le_of_ble_eq_true rfl, Nat.le_of_ble_eq_true rfl⟩) (fun H locs ws_118 h u_119 p_120 => ?_)
      have e_121 := p_120
      replace HE : FT = g30c_X5_unit_1 (xso SC ad ws_118) := HE.trans (by rw [e_121, e_117, e_115, (o24_116 l1 u1 e_115 e_117)]; rfl)
      refine lv_aload_n C0.1 C0.2.1 dX5_unit_77 rfl (lv_at hl 0 rfl) ?_
      refine y_c2 (n := 93) C0 (by decide) dX5_unit_78 (fun v_122 e_123 => ?_)
      refine y_cv h (y_rV (As := [.int v_122]) (rest := []) C0 hZ h (c_X5_sign l G Z ad _ h.2 v_122 (o24_79 e_123) (o24_80 e_123)) k_X5_sign q_812 q_14 q_810 kSC_77 rfl rfl rfl hl.1 rfl rfl (Nat.le_of_ble_eq_true rfl) dX5_unit_80 ⟨Nat.le_of_ble_eq_true rfl, Nat.le_of_ble_eq_true rfl⟩ ⟨Nat.le_of_ble_eq_true rfl, Nat.le_of_ble_eq_true rfl⟩) (fun H locs ws_124 h u_125 p_126 => ?_)
      have e_127 := p_126
      replace HE : FT = g31c_X5_unit_1 (xso SC ad ws_124) := HE.trans (by rw [e_127, e_123]; rfl)
      refine lv_goto (tgt := 165) C0.1 C0.2.1 dX5_unit_83 (by decide) ?_
      replace HE : FT = ((xso SC ad ws_124), 0) := HE.trans rfl
      rw [hQ]
      exact y_vret C0 h (Fr.tr (Fr.tr (Fr.tr (Fr.tr (Fr.mono u_2 (by decide)) (Fr.mono u_102 (by decide))) (Fr.mono u_111 (by decide))) u_119) (Fr.mono u_125 (by decide))) (congrArg Prod.fst (HE.symm.trans hFT)) dX5_unit_165
  · -- 6
    replace HE : FT = g4_X5_unit_1 (xso SC ad ws_1) := HE.trans (if_neg c_9)
    refine lv_aload_n C0.1 C0.2.1 dX5_unit_9 rfl (lv_at hl 0 rfl) ?_
    refine lv_iload_n C0.1 C0.2.1 dX5_unit_10 rfl (lv_at hl 1 rfl) ?_
    refine y_ci h (y_rV (As := [.int a1]) (rest := []) C0 hZ h (c_X5_tooDeep_1 l G Z ad _ h.2 a1 (o24_109 l1 u1) (o24_110 l1 u1)) k_X5_tooDeep q_832 q_18 q_830 kSC_77 rfl rfl rfl hl.1 rfl rfl (Nat.le_of_ble_eq_true rfl) dX5_unit_11 ⟨Nat.le_of_ble_eq_true rfl, Nat.le_of_ble_eq_true rfl⟩ ⟨Nat.le_of_ble_eq_true rfl, Nat.le_of_ble_eq_true rfl⟩) (fun r_131 H locs ws_128 h u_129 p_130 => ?_)
    obtain ⟨e_132, e_133, e_134, e_135⟩ := p_130
    replace HE : FT = g32c_X5_unit_1 (xso SC ad ws_128) := HE.trans (by rw [e_132, (o24_111 l1 u1)]; rfl)
    refine y_if_ne (tgt := 165) C0 dX5_unit_14 (by decide) (fun c_136 => ((o24_71 e_134 e_135 c_136)).elim) (fun c_136 => ?_)
    refine lv_aload_n C0.1 C0.2.1 dX5_unit_17 rfl (lv_at hl 0 rfl) ?_
    refine y_cv h (y_rV (As := []) (rest := []) C0 hZ h (c_X5_advance l G Z ad _ h.2) k_X5_advance q_616 q_0 q_614 kSC_77 rfl rfl rfl hl.1 rfl rfl (Nat.le_of_ble_eq_true rfl) dX5_unit_18 ⟨Nat.le_of_ble_eq_true rfl, Nat.le_of_ble_eq_true rfl⟩ ⟨Nat.le_of_ble_eq_true rfl, Nat.le_of_ble_eq_true rfl⟩) (fun H locs ws_137 h u_138 p_139 => ?_)
    have e_140 := p_139
    replace HE : FT = g33c_X5_unit_1 (xso SC ad ws_137) := HE.trans (by rw [e_140]; rfl)
    refine lv_aload_n C0.1 C0.2.1 dX5_unit_21 rfl (lv_at hl 0 rfl) ?_
    refine lv_iload_n C0.1 C0.2.1 dX5_unit_22 rfl (lv_at hl 1 rfl) ?_
    refine y_c1 (n := 1) C0 (by decide) dX5_unit_23 (fun v_141 e_142 => ?_)
    refine y_add C0 (o24_112 l1 u1 e_142 (le_min a1) (le_max a1) (le_min v_141) (le_max v_141)) (o24_113 l1 u1 e_142 (le_min a1) (le_max a1) (le_min v_141) (le_max v_141)) dX5_unit_24 (fun v_143 e_144 => ?_)
    refine y_cv h (y_rV (As := [.int v_143]) (rest := []) C0 hZ h (c_X5_unit_2 l G Z ad _ h.2 v_143 (o24_114 l1 u1 e_142 e_144) (o24_115 l1 u1 e_142 e_144)) k_X5_unit q_851 q_21 q_849 kSC_77 rfl rfl rfl hl.1 rfl rfl (Nat.le_of_ble_eq_true rfl) dX5_unit_25 ⟨Nat.le_of_ble_eq_true rfl, Nat.le_of_ble_eq_true rfl⟩ ⟨Nat.le_of_ble_eq_true rfl, Nat.le_of_ble_eq_true rfl⟩) (fun H locs ws_145 h u_146 p_147 => ?_)
    have e_148 := p_147
    replace HE : FT = g34c_X5_unit_1 (xso SC ad ws_145) := HE.trans (by rw [e_148, e_144, e_142, (o24_116 l1 u1 e_142 e_144)]; rfl)
    refine lv_aload_n C0.1 C0.2.1 dX5_unit_28 rfl (lv_at hl 0 rfl) ?_
    refine tg_X5_law C0 h kSC_77 q_380 dX5_unit_29 (fun i_149 hi_149 ei_149 => ?_)
    refine y_c1 (n := 0) C0 (by decide) dX5_unit_32 (fun v_150 e_151 => ?_)
    refine y_cv h (y_rV (As := [.int v_150]) (rest := []) C0 hZ h (c_X4_add l G Z ad _ h.2 i_149 hi_149 v_150) k_X4_add q_827 q_828 q_826 hi_149 rfl rfl rfl hl.1 rfl rfl (Nat.le_of_ble_eq_true rfl) dX5_unit_33 ⟨Nat.le_of_ble_eq_true rfl, Nat.le_of_ble_eq_true rfl⟩ ⟨Nat.le_of_ble_eq_true rfl, Nat.le_of_ble_eq_true rfl⟩) (fun H locs ws_152 h u_153 p_154 => ?_)
    have e_155 := p_154
    replace HE : FT = g35c_X5_unit_1 (xso SC ad ws_152) := HE.trans (by rw [e_155, e_151, ei_149]; rfl)
    refine lv_aload_n C0.1 C0.2.1 dX5_unit_36 rfl (lv_at hl 0 rfl) ?_
    refine tg_X5_law C0 h kSC_77 q_380 dX5_unit_37 (fun i_156 hi_156 ei_156 => ?_)
    refine y_c3 (n := 2003) C0 (by decide) dX5_unit_40 (fun v_157 e_158 => ?_)
    refine y_cv h (y_rV (As := [.int v_157]) (rest := []) C0 hZ h (c_X4_add l G Z ad _ h.2 i_156 hi_156 v_157) k_X4_add q_827 q_828 q_826 hi_156 rfl rfl rfl hl.1 rfl rfl (Nat.le_of_ble_eq_true rfl) dX5_unit_43 ⟨Nat.le_of_ble_eq_true rfl, Nat.le_of_ble_eq_true rfl⟩ ⟨Nat.le_of_ble_eq_true rfl, Nat.le_of_ble_eq_true rfl⟩) (fun H locs ws_159 h u_160 p_161 => ?_)
    have e_162 := p_161
    replace HE : FT = g36c_X5_unit_1 (xso SC ad ws_159) := HE.trans (by rw [e_162, e_158, ei_156]; rfl)
    refine lv_goto (tgt := 165) C0.1 C0.2.1 dX5_unit_46 (by decide) ?_
    replace HE : FT = ((xso SC ad ws_159), 0) := HE.trans rfl
    rw [hQ]
    exact y_vret C0 h (Fr.tr (Fr.tr (Fr.tr (Fr.tr (Fr.tr (Fr.mono u_2 (by decide)) (Fr.mono u_129 (by decide))) (Fr.mono u_138 (by decide))) u_146) (Fr.mono u_153 (by decide))) (Fr.mono u_160 (by decide))) (congrArg Prod.fst (HE.symm.trans hFT)) dX5_unit_165
noncomputable def g5_X5_both_1 (s : XS) : XR := (s, 0)
noncomputable def g9_X5_both_1 (s : XS) : XR := (s, 0)
noncomputable def g13c_X5_both_1 (R7 : XS → Int → XR) (s : XS) (x2_7 : Int) : XR := R7 s ((x2_7 + 1))
noncomputable def g12c_X5_both_1 (R7 : XS → Int → XR) (s : XS) (x2_7 : Int) : XR := g13c_X5_both_1 R7 ((f_X4_add s (Int.toNat (s 3 77 10)) 2006).1) x2_7
noncomputable def g11c_X5_both_1 (R7 : XS → Int → XR) (s : XS) (x2_7 : Int) : XR := g12c_X5_both_1 R7 ((f_X5_unit_1 s 1).1) x2_7
noncomputable def g10_X5_both_1 (R7 : XS → Int → XR) (s : XS) (x2_7 : Int) : XR := g11c_X5_both_1 R7 ((f_X5_advance s).1) x2_7
noncomputable def g8b_X5_both_1 (R7 : XS → Int → XR) (s : XS) (r_22 : Int) (x2_7 : Int) : XR := if r_22 = 0 then g9_X5_both_1 s else g10_X5_both_1 R7 s x2_7
noncomputable def g7c_X5_both_1 (R7 : XS → Int → XR) (s : XS) (r_22 : Int) (x2_7 : Int) : XR := g8b_X5_both_1 R7 s r_22 x2_7
noncomputable def g6_X5_both_1 (R7 : XS → Int → XR) (s : XS) (x2_7 : Int) : XR := g7c_X5_both_1 R7 ((f_X5_isWord s 20).1) (((f_X5_isWord s 20).2)) x2_7
noncomputable def g4b_X5_both_1 (R7 : XS → Int → XR) (s : XS) (x2_7 : Int) : XR := if x2_7 < 900 then g6_X5_both_1 R7 s x2_7 else g5_X5_both_1 s
noncomputable def g3l_X5_both_1 (R7 : XS → Int → XR) (s : XS) (x2_7 : Int) : XR := g4b_X5_both_1 R7 s x2_7
noncomputable def L2_X5_both_1 (n : Nat) : XS → Int → XR := Nat.rec (motive := fun _ => XS → Int → XR) (fun s _ => (s, 0)) (fun _ R7 => g3l_X5_both_1 R7) n
noncomputable def g1c_X5_both_1 (s : XS) : XR := L2_X5_both_1 (Int.toNat (900 - 0 + 1)) s 0
noncomputable def f_X5_both_1 (s : XS) (a1 : Int) : XR := g1c_X5_both_1 ((f_X5_unit_1 s a1).1)
set_option maxHeartbeats 4000000 in
set_option maxRecDepth 100000 in
theorem c_X5_both_1 (l : Launch) (G : GG) (Z : RZ) (ad : Nat → Nat) (ws0 : va_W) (hT : Ty G SC ad ws0) (a1 : Int32) (l1 : 1 ≤ a1.toInt) (u1 : a1.toInt ≤ 1) : Mq l yX5_both cX5_both 3 none 25 G Z [.ref (ad 77), .int a1] ws0 (PV G SC ad [2, 3, 16] ws0 (fun u => (xso SC ad u = (f_X5_both_1 (xso SC ad ws0) a1.toInt).1))) := by
  refine Mq.start (by decide) (Nat.le_of_ble_eq_true rfl) ?_
  intro p e s m below meth c A ls C0 hZ h hl
  have hl : lv_has ls 3 [(0, .ref (ad 77)), (1, .int a1)] := hl
  have h : Wt G SC ad A s s.heap [] ws0 := ⟨h, hT⟩
  obtain ⟨args, hargs⟩ : ∃ z, z = ([.ref (ad 77), .int a1] : List Value).toArray := ⟨_, rfl⟩
  rw [← hargs] at C0 ⊢
  have C0 : Cx p s m args meth c RX5 cX5_both 3 none := C0
  obtain ⟨Q, hQ⟩ : ∃ z, z = MQ below ((PV G SC ad [2, 3, 16] ws0 (fun u => (xso SC ad u = (f_X5_both_1 (xso SC ad ws0) a1.toInt).1))) A) args s 0 0 A := ⟨_, rfl⟩
  rw [← hQ]
  obtain ⟨FT, hFT⟩ : ∃ z, z = f_X5_both_1 (xso SC ad ws0) a1.toInt := ⟨_, rfl⟩
  have HE : FT = f_X5_both_1 (xso SC ad ws0) a1.toInt := hFT
  refine lv_aload_n C0.1 C0.2.1 dX5_both_0 rfl (lv_at hl 0 rfl) ?_
  refine lv_iload_n C0.1 C0.2.1 dX5_both_1 rfl (lv_at hl 1 rfl) ?_
  refine y_cv h (y_rV (As := [.int a1]) (rest := []) C0 hZ h (c_X5_unit_1 l G Z ad _ h.2 a1 (o24_109 l1 u1) (o24_110 l1 u1)) k_X5_unit q_851 q_21 q_849 kSC_77 rfl rfl rfl hl.1 rfl rfl (Nat.le_of_ble_eq_true rfl) dX5_both_2 ⟨Nat.le_of_ble_eq_true rfl, Nat.le_of_ble_eq_true rfl⟩ ⟨Nat.le_of_ble_eq_true rfl, Nat.le_of_ble_eq_true rfl⟩) (fun H locs ws_1 h u_2 p_3 => ?_)
  have e_4 := p_3
  replace HE : FT = g1c_X5_both_1 (xso SC ad ws_1) := HE.trans (by rw [e_4]; rfl)
  refine y_c1 (n := 0) C0 (by decide) dX5_both_5 (fun v_5 e_6 => ?_)
  refine lv_istore_n (lv' := [(2, .int v_5), (0, .ref (ad 77)), (1, .int a1)]) C0.1 C0.2.1 dX5_both_6 rfl hl (by decide) rfl (fun ls hl => ?_)
  have lp_10 : ∀ (n_12 : Nat) (x2_7 : Int32) (H : Heap) (locs : List Loc) (ls : Array Slot) (ws_8 : va_W), 900 - x2_7.toInt < (n_12 : Int) → 0 ≤ x2_7.toInt → x2_7.toInt ≤ 900 → (FT = L2_X5_both_1 n_12 (xso SC ad ws_8) x2_7.toInt) → Wt G SC ad A s H locs ws_8 → Fr SC [2, 3, 16] ws_1 ws_8 → lv_has ls 3 [(2, .int x2_7), (0, .ref (ad 77)), (1, .int a1)] → W p l e (rmd 25 0 0) s m args below meth c H locs 0 0 Q (F0 m 7 ls []) := by
    intro n_12
    induction n_12 with
    | zero => intro x2_7 H locs ls ws_8 hn_13 b_14 b_15 HE h hF_9 hl; exact ((o24_22 b_14 b_15 hn_13)).elim
    | succ n_12 ih_11 =>
      intro x2_7 H locs ls ws_8 hn_13 b_14 b_15 HE h hF_9 hl
      obtain ⟨R7, hR7⟩ : ∃ z, z = L2_X5_both_1 n_12 := ⟨_, rfl⟩
      replace HE : FT = g3l_X5_both_1 R7 (xso SC ad ws_8) x2_7.toInt := HE.trans (by rw [hR7]; rfl)
      refine lv_iload_n C0.1 C0.2.1 dX5_both_7 rfl (lv_at hl 0 rfl) ?_
      refine y_c3 (n := 900) C0 (by decide) dX5_both_8 (fun v_16 e_17 => ?_)
      replace HE : FT = g4b_X5_both_1 R7 (xso SC ad ws_8) x2_7.toInt := HE.trans rfl
      refine y_icmp_ge (tgt := 48) C0 dX5_both_11 (by decide) (fun c_18 => ?_) (fun c_18 => ?_)
      · -- 11
        replace HE : FT = g5_X5_both_1 (xso SC ad ws_8) := HE.trans (if_neg (o24_24 b_14 b_15 hn_13 e_17 c_18))
        replace HE : FT = ((xso SC ad ws_8), 0) := HE.trans rfl
        rw [hQ]
        exact y_vret C0 h (Fr.tr u_2 hF_9) (congrArg Prod.fst (HE.symm.trans hFT)) dX5_both_48
      · -- 11
        replace HE : FT = g6_X5_both_1 R7 (xso SC ad ws_8) x2_7.toInt := HE.trans (if_pos (o24_25 b_14 b_15 hn_13 e_17 c_18))
        refine lv_aload_n C0.1 C0.2.1 dX5_both_14 rfl (lv_at hl 1 rfl) ?_
        refine va_ldcS C0.1 C0.2.1 C0.2.2.2.1 (sr_20 hZ) dX5_both_15 ?_
        refine y_ci h (y_rV (As := [.ref (Z.2.1 20)]) (rest := []) C0 hZ h (c_X5_isWord l G Z ad _ h.2 20 (by decide)) k_X5_isWord q_724 q_5 q_722 kSC_77 rfl rfl rfl hl.1 rfl rfl (Nat.le_of_ble_eq_true rfl) dX5_both_17 ⟨Nat.le_of_ble_eq_true rfl, Nat.le_of_ble_eq_true rfl⟩ ⟨Nat.le_of_ble_eq_true rfl, Nat.le_of_ble_eq_true rfl⟩) (fun r_22 H locs ws_19 h u_20 p_21 => ?_)
        obtain ⟨e_23, e_24, e_25, e_26⟩ := p_21
        replace HE : FT = g7c_X5_both_1 R7 (xso SC ad ws_19) r_22.toInt x2_7.toInt := HE.trans (by rw [e_23, e_24]; rfl)
        replace HE : FT = g8b_X5_both_1 R7 (xso SC ad ws_19) r_22.toInt x2_7.toInt := HE.trans rfl
        refine y_if_eq (tgt := 48) C0 dX5_both_20 (by decide) (fun c_27 => ?_) (fun c_27 => ?_)
        · -- 20
          replace HE : FT = g9_X5_both_1 (xso SC ad ws_19) := HE.trans (if_pos c_27)
          replace HE : FT = ((xso SC ad ws_19), 0) := HE.trans rfl
          rw [hQ]
          exact y_vret C0 h (Fr.tr (Fr.tr u_2 hF_9) (Fr.mono u_20 (by decide))) (congrArg Prod.fst (HE.symm.trans hFT)) dX5_both_48
        · -- 20
          replace HE : FT = g10_X5_both_1 R7 (xso SC ad ws_19) x2_7.toInt := HE.trans (if_neg c_27)
          refine lv_aload_n C0.1 C0.2.1 dX5_both_23 rfl (lv_at hl 1 rfl) ?_
          refine y_cv h (y_rV (As := []) (rest := []) C0 hZ h (c_X5_advance l G Z ad _ h.2) k_X5_advance q_616 q_0 q_614 kSC_77 rfl rfl rfl hl.1 rfl rfl (Nat.le_of_ble_eq_true rfl) dX5_both_24 ⟨Nat.le_of_ble_eq_true rfl, Nat.le_of_ble_eq_true rfl⟩ ⟨Nat.le_of_ble_eq_true rfl, Nat.le_of_ble_eq_true rfl⟩) (fun H locs ws_28 h u_29 p_30 => ?_)
          have e_31 := p_30
          replace HE : FT = g11c_X5_both_1 R7 (xso SC ad ws_28) x2_7.toInt := HE.trans (by rw [e_31]; rfl)
          refine lv_aload_n C0.1 C0.2.1 dX5_both_27 rfl (lv_at hl 1 rfl) ?_
          refine lv_iload_n C0.1 C0.2.1 dX5_both_28 rfl (lv_at hl 2 rfl) ?_
          refine y_cv h (y_rV (As := [.int a1]) (rest := []) C0 hZ h (c_X5_unit_1 l G Z ad _ h.2 a1 (o24_109 l1 u1) (o24_110 l1 u1)) k_X5_unit q_851 q_21 q_849 kSC_77 rfl rfl rfl hl.1 rfl rfl (Nat.le_of_ble_eq_true rfl) dX5_both_29 ⟨Nat.le_of_ble_eq_true rfl, Nat.le_of_ble_eq_true rfl⟩ ⟨Nat.le_of_ble_eq_true rfl, Nat.le_of_ble_eq_true rfl⟩) (fun H locs ws_32 h u_33 p_34 => ?_)
          have e_35 := p_34
          replace HE : FT = g12c_X5_both_1 R7 (xso SC ad ws_32) x2_7.toInt := HE.trans (by rw [e_35, (o24_111 l1 u1)]; rfl)
          refine lv_aload_n C0.1 C0.2.1 dX5_both_32 rfl (lv_at hl 1 rfl) ?_
          refine tg_X5_law C0 h kSC_77 q_380 dX5_both_33 (fun i_36 hi_36 ei_36 => ?_)
          refine y_c3 (n := 2006) C0 (by decide) dX5_both_36 (fun v_37 e_38 => ?_)
          refine y_cv h (y_rV (As := [.int v_37]) (rest := []) C0 hZ h (c_X4_add l G Z ad _ h.2 i_36 hi_36 v_37) k_X4_add q_827 q_828 q_826 hi_36 rfl rfl rfl hl.1 rfl rfl (Nat.le_of_ble_eq_true rfl) dX5_both_39 ⟨Nat.le_of_ble_eq_true rfl, Nat.le_of_ble_eq_true rfl⟩ ⟨Nat.le_of_ble_eq_true rfl, Nat.le_of_ble_eq_true rfl⟩) (fun H locs ws_39 h u_40 p_41 => ?_)
          have e_42 := p_41
          replace HE : FT = g13c_X5_both_1 R7 (xso SC ad ws_39) x2_7.toInt := HE.trans (by rw [e_42, e_38, ei_36]; rfl)
          refine y_inc (kp := 0) (n := 1) (fun v_43 => [(2, .int v_43), (0, .ref (ad 77)), (1, .int a1)]) C0 hl rfl (by decide) (by decide) (fun _ => rfl) (o24_29 b_14 b_15 hn_13 e_17 c_18 (le_min x2_7) (le_max x2_7) (le_min v_16) (le_max v_16)) (o24_30 b_14 b_15 hn_13 e_17 c_18 (le_min x2_7) (le_max x2_7) (le_min v_16) (le_max v_16)) dX5_both_42 (fun v_43 ls e_44 hl => ?_)
          refine lv_goto (tgt := 7) C0.1 C0.2.1 dX5_both_45 (by decide) ?_
          exact ih_11 v_43 _ _ _ _ (o24_31 b_14 b_15 hn_13 e_17 c_18 e_44) (o24_32 b_14 b_15 hn_13 e_17 c_18 e_44) (o24_33 b_14 b_15 hn_13 e_17 c_18 e_44) (((show FT = R7 (xso SC ad ws_39) v_43.toInt from HE.trans (by rw [e_44]; rfl)).trans (by rw [hR7]))) h (Fr.tr (Fr.tr (Fr.tr (Fr.tr hF_9 (Fr.mono u_20 (by decide))) (Fr.mono u_29 (by decide))) u_33) (Fr.mono u_40 (by decide))) (lv_sub hl [0, 1, 2] rfl)
  exact lp_10 ((900 - v_5.toInt + 1).toNat) v_5 _ _ _ _ (o24_34 e_6) (o24_35 e_6) (o24_36 e_6) ((show FT = L2_X5_both_1 (Int.toNat (900 - v_5.toInt + 1)) (xso SC ad ws_1) v_5.toInt from HE.trans (by rw [e_6]; rfl))) h Fr.rf (lv_sub hl [0, 1, 2] rfl)
noncomputable def g5_X5_truth_1 (s : XS) : XR := (s, 0)
noncomputable def g9_X5_truth_1 (s : XS) : XR := (s, 0)
noncomputable def g13c_X5_truth_1 (R7 : XS → Int → XR) (s : XS) (x2_7 : Int) : XR := R7 s ((x2_7 + 1))
noncomputable def g12c_X5_truth_1 (R7 : XS → Int → XR) (s : XS) (x2_7 : Int) : XR := g13c_X5_truth_1 R7 ((f_X4_add s (Int.toNat (s 3 77 10)) 2007).1) x2_7
noncomputable def g11c_X5_truth_1 (R7 : XS → Int → XR) (s : XS) (x2_7 : Int) : XR := g12c_X5_truth_1 R7 ((f_X5_both_1 s 1).1) x2_7
noncomputable def g10_X5_truth_1 (R7 : XS → Int → XR) (s : XS) (x2_7 : Int) : XR := g11c_X5_truth_1 R7 ((f_X5_advance s).1) x2_7
noncomputable def g8b_X5_truth_1 (R7 : XS → Int → XR) (s : XS) (r_22 : Int) (x2_7 : Int) : XR := if r_22 = 0 then g9_X5_truth_1 s else g10_X5_truth_1 R7 s x2_7
noncomputable def g7c_X5_truth_1 (R7 : XS → Int → XR) (s : XS) (r_22 : Int) (x2_7 : Int) : XR := g8b_X5_truth_1 R7 s r_22 x2_7
noncomputable def g6_X5_truth_1 (R7 : XS → Int → XR) (s : XS) (x2_7 : Int) : XR := g7c_X5_truth_1 R7 ((f_X5_isWord s 21).1) (((f_X5_isWord s 21).2)) x2_7
noncomputable def g4b_X5_truth_1 (R7 : XS → Int → XR) (s : XS) (x2_7 : Int) : XR := if x2_7 < 900 then g6_X5_truth_1 R7 s x2_7 else g5_X5_truth_1 s
noncomputable def g3l_X5_truth_1 (R7 : XS → Int → XR) (s : XS) (x2_7 : Int) : XR := g4b_X5_truth_1 R7 s x2_7
noncomputable def L2_X5_truth_1 (n : Nat) : XS → Int → XR := Nat.rec (motive := fun _ => XS → Int → XR) (fun s _ => (s, 0)) (fun _ R7 => g3l_X5_truth_1 R7) n
noncomputable def g1c_X5_truth_1 (s : XS) : XR := L2_X5_truth_1 (Int.toNat (900 - 0 + 1)) s 0
noncomputable def f_X5_truth_1 (s : XS) (a1 : Int) : XR := g1c_X5_truth_1 ((f_X5_both_1 s a1).1)
set_option maxHeartbeats 4000000 in
set_option maxRecDepth 100000 in
theorem c_X5_truth_1 (l : Launch) (G : GG) (Z : RZ) (ad : Nat → Nat) (ws0 : va_W) (hT : Ty G SC ad ws0) (a1 : Int32) (l1 : 1 ≤ a1.toInt) (u1 : a1.toInt ≤ 1) : Mq l yX5_truth cX5_truth 3 none 26 G Z [.ref (ad 77), .int a1] ws0 (PV G SC ad [2, 3, 16] ws0 (fun u => (xso SC ad u = (f_X5_truth_1 (xso SC ad ws0) a1.toInt).1))) := by
  refine Mq.start (by decide) (Nat.le_of_ble_eq_true rfl) ?_
  intro p e s m below meth c A ls C0 hZ h hl
  have hl : lv_has ls 3 [(0, .ref (ad 77)), (1, .int a1)] := hl
  have h : Wt G SC ad A s s.heap [] ws0 := ⟨h, hT⟩
  obtain ⟨args, hargs⟩ : ∃ z, z = ([.ref (ad 77), .int a1] : List Value).toArray := ⟨_, rfl⟩
  rw [← hargs] at C0 ⊢
  have C0 : Cx p s m args meth c RX5 cX5_truth 3 none := C0
  obtain ⟨Q, hQ⟩ : ∃ z, z = MQ below ((PV G SC ad [2, 3, 16] ws0 (fun u => (xso SC ad u = (f_X5_truth_1 (xso SC ad ws0) a1.toInt).1))) A) args s 0 0 A := ⟨_, rfl⟩
  rw [← hQ]
  obtain ⟨FT, hFT⟩ : ∃ z, z = f_X5_truth_1 (xso SC ad ws0) a1.toInt := ⟨_, rfl⟩
  have HE : FT = f_X5_truth_1 (xso SC ad ws0) a1.toInt := hFT
  refine lv_aload_n C0.1 C0.2.1 dX5_truth_0 rfl (lv_at hl 0 rfl) ?_
  refine lv_iload_n C0.1 C0.2.1 dX5_truth_1 rfl (lv_at hl 1 rfl) ?_
  refine y_cv h (y_rV (As := [.int a1]) (rest := []) C0 hZ h (c_X5_both_1 l G Z ad _ h.2 a1 (o24_109 l1 u1) (o24_110 l1 u1)) k_X5_both q_847 q_20 q_845 kSC_77 rfl rfl rfl hl.1 rfl rfl (Nat.le_of_ble_eq_true rfl) dX5_truth_2 ⟨Nat.le_of_ble_eq_true rfl, Nat.le_of_ble_eq_true rfl⟩ ⟨Nat.le_of_ble_eq_true rfl, Nat.le_of_ble_eq_true rfl⟩) (fun H locs ws_1 h u_2 p_3 => ?_)
  have e_4 := p_3
  replace HE : FT = g1c_X5_truth_1 (xso SC ad ws_1) := HE.trans (by rw [e_4]; rfl)
  refine y_c1 (n := 0) C0 (by decide) dX5_truth_5 (fun v_5 e_6 => ?_)
  refine lv_istore_n (lv' := [(2, .int v_5), (0, .ref (ad 77)), (1, .int a1)]) C0.1 C0.2.1 dX5_truth_6 rfl hl (by decide) rfl (fun ls hl => ?_)
  have lp_10 : ∀ (n_12 : Nat) (x2_7 : Int32) (H : Heap) (locs : List Loc) (ls : Array Slot) (ws_8 : va_W), 900 - x2_7.toInt < (n_12 : Int) → 0 ≤ x2_7.toInt → x2_7.toInt ≤ 900 → (FT = L2_X5_truth_1 n_12 (xso SC ad ws_8) x2_7.toInt) → Wt G SC ad A s H locs ws_8 → Fr SC [2, 3, 16] ws_1 ws_8 → lv_has ls 3 [(2, .int x2_7), (0, .ref (ad 77)), (1, .int a1)] → W p l e (rmd 26 0 0) s m args below meth c H locs 0 0 Q (F0 m 7 ls []) := by
    intro n_12
    induction n_12 with
    | zero => intro x2_7 H locs ls ws_8 hn_13 b_14 b_15 HE h hF_9 hl; exact ((o24_22 b_14 b_15 hn_13)).elim
    | succ n_12 ih_11 =>
      intro x2_7 H locs ls ws_8 hn_13 b_14 b_15 HE h hF_9 hl
      obtain ⟨R7, hR7⟩ : ∃ z, z = L2_X5_truth_1 n_12 := ⟨_, rfl⟩
      replace HE : FT = g3l_X5_truth_1 R7 (xso SC ad ws_8) x2_7.toInt := HE.trans (by rw [hR7]; rfl)
      refine lv_iload_n C0.1 C0.2.1 dX5_truth_7 rfl (lv_at hl 0 rfl) ?_
      refine y_c3 (n := 900) C0 (by decide) dX5_truth_8 (fun v_16 e_17 => ?_)
      replace HE : FT = g4b_X5_truth_1 R7 (xso SC ad ws_8) x2_7.toInt := HE.trans rfl
      refine y_icmp_ge (tgt := 48) C0 dX5_truth_11 (by decide) (fun c_18 => ?_) (fun c_18 => ?_)
      · -- 11
        replace HE : FT = g5_X5_truth_1 (xso SC ad ws_8) := HE.trans (if_neg (o24_24 b_14 b_15 hn_13 e_17 c_18))
        replace HE : FT = ((xso SC ad ws_8), 0) := HE.trans rfl
        rw [hQ]
        exact y_vret C0 h (Fr.tr u_2 hF_9) (congrArg Prod.fst (HE.symm.trans hFT)) dX5_truth_48
      · -- 11
        replace HE : FT = g6_X5_truth_1 R7 (xso SC ad ws_8) x2_7.toInt := HE.trans (if_pos (o24_25 b_14 b_15 hn_13 e_17 c_18))
        refine lv_aload_n C0.1 C0.2.1 dX5_truth_14 rfl (lv_at hl 1 rfl) ?_
        refine va_ldcS C0.1 C0.2.1 C0.2.2.2.1 (sr_21 hZ) dX5_truth_15 ?_
        refine y_ci h (y_rV (As := [.ref (Z.2.1 21)]) (rest := []) C0 hZ h (c_X5_isWord l G Z ad _ h.2 21 (by decide)) k_X5_isWord q_724 q_5 q_722 kSC_77 rfl rfl rfl hl.1 rfl rfl (Nat.le_of_ble_eq_true rfl) dX5_truth_17 ⟨Nat.le_of_ble_eq_true rfl, Nat.le_of_ble_eq_true rfl⟩ ⟨Nat.le_of_ble_eq_true rfl, Nat.le_of_ble_eq_true rfl⟩) (fun r_22 H locs ws_19 h u_20 p_21 => ?_)
        obtain ⟨e_23, e_24, e_25, e_26⟩ := p_21
        replace HE : FT = g7c_X5_truth_1 R7 (xso SC ad ws_19) r_22.toInt x2_7.toInt := HE.trans (by rw [e_23, e_24]; rfl)
        replace HE : FT = g8b_X5_truth_1 R7 (xso SC ad ws_19) r_22.toInt x2_7.toInt := HE.trans rfl
        refine y_if_eq (tgt := 48) C0 dX5_truth_20 (by decide) (fun c_27 => ?_) (fun c_27 => ?_)
        · -- 20
          replace HE : FT = g9_X5_truth_1 (xso SC ad ws_19) := HE.trans (if_pos c_27)
          replace HE : FT = ((xso SC ad ws_19), 0) := HE.trans rfl
          rw [hQ]
          exact y_vret C0 h (Fr.tr (Fr.tr u_2 hF_9) (Fr.mono u_20 (by decide))) (congrArg Prod.fst (HE.symm.trans hFT)) dX5_truth_48
        · -- 20
          replace HE : FT = g10_X5_truth_1 R7 (xso SC ad ws_19) x2_7.toInt := HE.trans (if_neg c_27)
          refine lv_aload_n C0.1 C0.2.1 dX5_truth_23 rfl (lv_at hl 1 rfl) ?_
          refine y_cv h (y_rV (As := []) (rest := []) C0 hZ h (c_X5_advance l G Z ad _ h.2) k_X5_advance q_616 q_0 q_614 kSC_77 rfl rfl rfl hl.1 rfl rfl (Nat.le_of_ble_eq_true rfl) dX5_truth_24 ⟨Nat.le_of_ble_eq_true rfl, Nat.le_of_ble_eq_true rfl⟩ ⟨Nat.le_of_ble_eq_true rfl, Nat.le_of_ble_eq_true rfl⟩) (fun H locs ws_28 h u_29 p_30 => ?_)
          have e_31 := p_30
          replace HE : FT = g11c_X5_truth_1 R7 (xso SC ad ws_28) x2_7.toInt := HE.trans (by rw [e_31]; rfl)
          refine lv_aload_n C0.1 C0.2.1 dX5_truth_27 rfl (lv_at hl 1 rfl) ?_
          refine lv_iload_n C0.1 C0.2.1 dX5_truth_28 rfl (lv_at hl 2 rfl) ?_
          refine y_cv h (y_rV (As := [.int a1]) (rest := []) C0 hZ h (c_X5_both_1 l G Z ad _ h.2 a1 (o24_109 l1 u1) (o24_110 l1 u1)) k_X5_both q_847 q_20 q_845 kSC_77 rfl rfl rfl hl.1 rfl rfl (Nat.le_of_ble_eq_true rfl) dX5_truth_29 ⟨Nat.le_of_ble_eq_true rfl, Nat.le_of_ble_eq_true rfl⟩ ⟨Nat.le_of_ble_eq_true rfl, Nat.le_of_ble_eq_true rfl⟩) (fun H locs ws_32 h u_33 p_34 => ?_)
          have e_35 := p_34
          replace HE : FT = g12c_X5_truth_1 R7 (xso SC ad ws_32) x2_7.toInt := HE.trans (by rw [e_35, (o24_111 l1 u1)]; rfl)
          refine lv_aload_n C0.1 C0.2.1 dX5_truth_32 rfl (lv_at hl 1 rfl) ?_
          refine tg_X5_law C0 h kSC_77 q_380 dX5_truth_33 (fun i_36 hi_36 ei_36 => ?_)
          refine y_c3 (n := 2007) C0 (by decide) dX5_truth_36 (fun v_37 e_38 => ?_)
          refine y_cv h (y_rV (As := [.int v_37]) (rest := []) C0 hZ h (c_X4_add l G Z ad _ h.2 i_36 hi_36 v_37) k_X4_add q_827 q_828 q_826 hi_36 rfl rfl rfl hl.1 rfl rfl (Nat.le_of_ble_eq_true rfl) dX5_truth_39 ⟨Nat.le_of_ble_eq_true rfl, Nat.le_of_ble_eq_true rfl⟩ ⟨Nat.le_of_ble_eq_true rfl, Nat.le_of_ble_eq_true rfl⟩) (fun H locs ws_39 h u_40 p_41 => ?_)
          have e_42 := p_41
          replace HE : FT = g13c_X5_truth_1 R7 (xso SC ad ws_39) x2_7.toInt := HE.trans (by rw [e_42, e_38, ei_36]; rfl)
          refine y_inc (kp := 0) (n := 1) (fun v_43 => [(2, .int v_43), (0, .ref (ad 77)), (1, .int a1)]) C0 hl rfl (by decide) (by decide) (fun _ => rfl) (o24_29 b_14 b_15 hn_13 e_17 c_18 (le_min x2_7) (le_max x2_7) (le_min v_16) (le_max v_16)) (o24_30 b_14 b_15 hn_13 e_17 c_18 (le_min x2_7) (le_max x2_7) (le_min v_16) (le_max v_16)) dX5_truth_42 (fun v_43 ls e_44 hl => ?_)
          refine lv_goto (tgt := 7) C0.1 C0.2.1 dX5_truth_45 (by decide) ?_
          exact ih_11 v_43 _ _ _ _ (o24_31 b_14 b_15 hn_13 e_17 c_18 e_44) (o24_32 b_14 b_15 hn_13 e_17 c_18 e_44) (o24_33 b_14 b_15 hn_13 e_17 c_18 e_44) (((show FT = R7 (xso SC ad ws_39) v_43.toInt from HE.trans (by rw [e_44]; rfl)).trans (by rw [hR7]))) h (Fr.tr (Fr.tr (Fr.tr (Fr.tr hF_9 (Fr.mono u_20 (by decide))) (Fr.mono u_29 (by decide))) u_33) (Fr.mono u_40 (by decide))) (lv_sub hl [0, 1, 2] rfl)
  exact lp_10 ((900 - v_5.toInt + 1).toNat) v_5 _ _ _ _ (o24_34 e_6) (o24_35 e_6) (o24_36 e_6) ((show FT = L2_X5_truth_1 (Int.toNat (900 - v_5.toInt + 1)) (xso SC ad ws_1) v_5.toInt from HE.trans (by rw [e_6]; rfl))) h Fr.rf (lv_sub hl [0, 1, 2] rfl)
noncomputable def f_X5_tooDeep_0 (s : XS) (a1 : Int) : XR := (s, 0)
set_option maxHeartbeats 4000000 in
set_option maxRecDepth 100000 in
theorem c_X5_tooDeep_0 (l : Launch) (G : GG) (Z : RZ) (ad : Nat → Nat) (ws0 : va_W) (hT : Ty G SC ad ws0) (a1 : Int32) (l1 : 0 ≤ a1.toInt) (u1 : a1.toInt ≤ 0) : Mq l yX5_tooDeep cX5_tooDeep 2 (some .boolean) 1 G Z [.ref (ad 77), .int a1] ws0 (PI G SC ad [] ws0 (fun r u => (xso SC ad u = (f_X5_tooDeep_0 (xso SC ad ws0) a1.toInt).1) ∧ (r.toInt = (f_X5_tooDeep_0 (xso SC ad ws0) a1.toInt).2) ∧ (0 ≤ r.toInt) ∧ (r.toInt ≤ 0))) := by
  refine Mq.start (by decide) (Nat.le_of_ble_eq_true rfl) ?_
  intro p e s m below meth c A ls C0 hZ h hl
  have hl : lv_has ls 2 [(0, .ref (ad 77)), (1, .int a1)] := hl
  have h : Wt G SC ad A s s.heap [] ws0 := ⟨h, hT⟩
  obtain ⟨args, hargs⟩ : ∃ z, z = ([.ref (ad 77), .int a1] : List Value).toArray := ⟨_, rfl⟩
  rw [← hargs] at C0 ⊢
  have C0 : Cx p s m args meth c RX5 cX5_tooDeep 2 (some .boolean) := C0
  obtain ⟨Q, hQ⟩ : ∃ z, z = MQ below ((PI G SC ad [] ws0 (fun r u => (xso SC ad u = (f_X5_tooDeep_0 (xso SC ad ws0) a1.toInt).1) ∧ (r.toInt = (f_X5_tooDeep_0 (xso SC ad ws0) a1.toInt).2) ∧ (0 ≤ r.toInt) ∧ (r.toInt ≤ 0))) A) args s 0 0 A := ⟨_, rfl⟩
  rw [← hQ]
  obtain ⟨FT, hFT⟩ : ∃ z, z = f_X5_tooDeep_0 (xso SC ad ws0) a1.toInt := ⟨_, rfl⟩
  have HE : FT = f_X5_tooDeep_0 (xso SC ad ws0) a1.toInt := hFT
  refine lv_iload_n C0.1 C0.2.1 dX5_tooDeep_0 rfl (lv_at hl 1 rfl) ?_
  refine y_c2 (n := 6) C0 (by decide) dX5_tooDeep_1 (fun v_1 e_2 => ?_)
  refine y_icmp_lt (tgt := 13) C0 dX5_tooDeep_3 (by decide) (fun c_3 => ?_) (fun c_3 => ((o24_117 l1 u1 e_2 c_3)).elim)
  refine y_c1 (n := 0) C0 (by decide) dX5_tooDeep_13 (fun v_4 e_5 => ?_)
  replace HE : FT = ((xso SC ad ws0), v_4.toInt) := HE.trans (by rw [e_5]; rfl)
  rw [hQ]
  exact y_zret C0 h (o24_35 e_5) (o24_67 e_5) Fr.rf ⟨(congrArg Prod.fst (HE.symm.trans hFT)), (congrArg Prod.snd (HE.symm.trans hFT)), (o24_35 e_5), (o24_66 e_5)⟩ dX5_tooDeep_14
noncomputable def g31c_X5_atom_0 (s : XS) : XR := (s, 0)
noncomputable def g29_X5_atom_0 (s : XS) : XR := g31c_X5_atom_0 ((f_X5_fail s 2).1)
noncomputable def g33c_X5_atom_0 (s : XS) : XR := (s, 0)
noncomputable def g32c_X5_atom_0 (s : XS) : XR := g33c_X5_atom_0 ((f_X5_advance s).1)
noncomputable def g30_X5_atom_0 (s : XS) : XR := g32c_X5_atom_0 ((f_X4_add s (Int.toNat (s 3 77 10)) 1005).1)
noncomputable def g28b_X5_atom_0 (s : XS) (r_64 : Int) : XR := if r_64 = 0 then g29_X5_atom_0 s else g30_X5_atom_0 s
noncomputable def g27c_X5_atom_0 (s : XS) (r_64 : Int) : XR := g28b_X5_atom_0 s r_64
noncomputable def g25_X5_atom_0 (s : XS) : XR := g27c_X5_atom_0 ((f_X5_isWord s 17).1) (((f_X5_isWord s 17).2))
noncomputable def g35c_X5_atom_0 (s : XS) : XR := (s, 0)
noncomputable def g34c_X5_atom_0 (s : XS) : XR := g35c_X5_atom_0 ((f_X5_advance s).1)
noncomputable def g26_X5_atom_0 (s : XS) : XR := g34c_X5_atom_0 ((f_X4_add s (Int.toNat (s 3 77 10)) 1004).1)
noncomputable def g24b_X5_atom_0 (s : XS) (r_55 : Int) : XR := if r_55 = 0 then g25_X5_atom_0 s else g26_X5_atom_0 s
noncomputable def g23c_X5_atom_0 (s : XS) (r_55 : Int) : XR := g24b_X5_atom_0 s r_55
noncomputable def g21_X5_atom_0 (s : XS) : XR := g23c_X5_atom_0 ((f_X5_isWord s 16).1) (((f_X5_isWord s 16).2))
noncomputable def g37c_X5_atom_0 (s : XS) : XR := (s, 0)
noncomputable def g36c_X5_atom_0 (s : XS) : XR := g37c_X5_atom_0 ((f_X5_advance s).1)
noncomputable def g22_X5_atom_0 (s : XS) : XR := g36c_X5_atom_0 ((f_X4_add s (Int.toNat (s 3 77 10)) 1003).1)
noncomputable def g20b_X5_atom_0 (s : XS) (r_46 : Int) : XR := if r_46 = 0 then g21_X5_atom_0 s else g22_X5_atom_0 s
noncomputable def g19c_X5_atom_0 (s : XS) (r_46 : Int) : XR := g20b_X5_atom_0 s r_46
noncomputable def g17_X5_atom_0 (s : XS) : XR := g19c_X5_atom_0 ((f_X5_isWord s 15).1) (((f_X5_isWord s 15).2))
noncomputable def g39c_X5_atom_0 (s : XS) : XR := (s, 0)
noncomputable def g38c_X5_atom_0 (s : XS) : XR := g39c_X5_atom_0 ((f_X5_advance s).1)
noncomputable def g18_X5_atom_0 (s : XS) : XR := g38c_X5_atom_0 ((f_X4_add s (Int.toNat (s 3 77 10)) 1002).1)
noncomputable def g16b_X5_atom_0 (s : XS) (r_37 : Int) : XR := if r_37 = 0 then g17_X5_atom_0 s else g18_X5_atom_0 s
noncomputable def g15c_X5_atom_0 (s : XS) (r_37 : Int) : XR := g16b_X5_atom_0 s r_37
noncomputable def g13_X5_atom_0 (s : XS) : XR := g15c_X5_atom_0 ((f_X5_isWord s 14).1) (((f_X5_isWord s 14).2))
noncomputable def g41c_X5_atom_0 (s : XS) : XR := (s, 0)
noncomputable def g40c_X5_atom_0 (s : XS) : XR := g41c_X5_atom_0 ((f_X5_advance s).1)
noncomputable def g14_X5_atom_0 (s : XS) : XR := g40c_X5_atom_0 ((f_X4_add s (Int.toNat (s 3 77 10)) 1001).1)
noncomputable def g12b_X5_atom_0 (s : XS) (r_28 : Int) : XR := if r_28 = 0 then g13_X5_atom_0 s else g14_X5_atom_0 s
noncomputable def g11c_X5_atom_0 (s : XS) (r_28 : Int) : XR := g12b_X5_atom_0 s r_28
noncomputable def g9_X5_atom_0 (s : XS) : XR := g11c_X5_atom_0 ((f_X5_isWord s 13).1) (((f_X5_isWord s 13).2))
noncomputable def g43c_X5_atom_0 (s : XS) : XR := (s, 0)
noncomputable def g42c_X5_atom_0 (s : XS) : XR := g43c_X5_atom_0 ((f_X5_advance s).1)
noncomputable def g10_X5_atom_0 (s : XS) : XR := g42c_X5_atom_0 ((f_X4_add s (Int.toNat (s 3 77 10)) 1000).1)
noncomputable def g8b_X5_atom_0 (s : XS) (r_19 : Int) : XR := if r_19 = 0 then g9_X5_atom_0 s else g10_X5_atom_0 s
noncomputable def g7c_X5_atom_0 (s : XS) (r_19 : Int) : XR := g8b_X5_atom_0 s r_19
noncomputable def g5_X5_atom_0 (s : XS) : XR := g7c_X5_atom_0 ((f_X5_isWord s 12).1) (((f_X5_isWord s 12).2))
noncomputable def g47c_X5_atom_0 (s : XS) : XR := (s, 0)
noncomputable def g46c_X5_atom_0 (s : XS) : XR := g47c_X5_atom_0 ((f_X5_sign s 41).1)
noncomputable def g45c_X5_atom_0 (s : XS) : XR := g46c_X5_atom_0 ((f_X5_sum_1 s (0 + 1)).1)
noncomputable def g44c_X5_atom_0 (s : XS) : XR := g45c_X5_atom_0 ((f_X5_advance s).1)
noncomputable def g6_X5_atom_0 (s : XS) : XR := g44c_X5_atom_0 ((f_X5_tooDeep_0 s 0).1)
noncomputable def g4b_X5_atom_0 (s : XS) (v_8 : Int) : XR := if v_8 = 40 then g6_X5_atom_0 s else g5_X5_atom_0 s
noncomputable def g2_X5_atom_0 (s : XS) : XR := g4b_X5_atom_0 s ((s 0 77 4))
noncomputable def g49c_X5_atom_0 (s : XS) : XR := (s, 0)
noncomputable def g48c_X5_atom_0 (s : XS) : XR := g49c_X5_atom_0 ((f_X5_advance s).1)
noncomputable def g3_X5_atom_0 (s : XS) : XR := g48c_X5_atom_0 ((f_X4_add s (Int.toNat (s 3 77 10)) (s 0 77 7)).1)
noncomputable def g1b_X5_atom_0 (s : XS) (v_1 : Int) : XR := if v_1 = 2 then g3_X5_atom_0 s else g2_X5_atom_0 s
noncomputable def f_X5_atom_0 (s : XS) (a1 : Int) : XR := g1b_X5_atom_0 s ((s 0 77 4))
set_option maxHeartbeats 4000000 in
set_option maxRecDepth 100000 in
theorem c_X5_atom_0 (l : Launch) (G : GG) (Z : RZ) (ad : Nat → Nat) (ws0 : va_W) (hT : Ty G SC ad ws0) (a1 : Int32) (l1 : 0 ≤ a1.toInt) (u1 : a1.toInt ≤ 0) : Mq l yX5_atom cX5_atom 3 none 24 G Z [.ref (ad 77), .int a1] ws0 (PV G SC ad [2, 3, 16] ws0 (fun u => (xso SC ad u = (f_X5_atom_0 (xso SC ad ws0) a1.toInt).1))) := by
  refine Mq.start (by decide) (Nat.le_of_ble_eq_true rfl) ?_
  intro p e s m below meth c A ls C0 hZ h hl
  have hl : lv_has ls 3 [(0, .ref (ad 77)), (1, .int a1)] := hl
  have h : Wt G SC ad A s s.heap [] ws0 := ⟨h, hT⟩
  obtain ⟨args, hargs⟩ : ∃ z, z = ([.ref (ad 77), .int a1] : List Value).toArray := ⟨_, rfl⟩
  rw [← hargs] at C0 ⊢
  have C0 : Cx p s m args meth c RX5 cX5_atom 3 none := C0
  obtain ⟨Q, hQ⟩ : ∃ z, z = MQ below ((PV G SC ad [2, 3, 16] ws0 (fun u => (xso SC ad u = (f_X5_atom_0 (xso SC ad ws0) a1.toInt).1))) A) args s 0 0 A := ⟨_, rfl⟩
  rw [← hQ]
  obtain ⟨FT, hFT⟩ : ∃ z, z = f_X5_atom_0 (xso SC ad ws0) a1.toInt := ⟨_, rfl⟩
  have HE : FT = f_X5_atom_0 (xso SC ad ws0) a1.toInt := hFT
  refine lv_aload_n C0.1 C0.2.1 dX5_atom_0 rfl (lv_at hl 0 rfl) ?_
  refine tg_X5_kind C0 h kSC_77 q_374 dX5_atom_1 (fun v_1 e_2 e_3 e_4 => ?_)
  refine y_c1 (n := 2) C0 (by decide) dX5_atom_4 (fun v_5 e_6 => ?_)
  replace HE : FT = g1b_X5_atom_0 (xso SC ad ws0) v_1.toInt := HE.trans (by rw [(xg0 e_2 : v_1.toInt = (xso SC ad ws0) 0 77 4)]; rfl)
  refine y_icmp_ne (tgt := 26) C0 dX5_atom_5 (by decide) (fun c_7 => ?_) (fun c_7 => ?_)
  · -- 5
    replace HE : FT = g2_X5_atom_0 (xso SC ad ws0) := HE.trans (if_neg (o24_6 e_6 c_7))
    refine lv_aload_n C0.1 C0.2.1 dX5_atom_26 rfl (lv_at hl 0 rfl) ?_
    refine tg_X5_kind C0 h kSC_77 q_374 dX5_atom_27 (fun v_8 e_9 e_10 e_11 => ?_)
    have qh_12 : v_8.toInt = v_1.toInt := congrArg Int32.toInt (e_9.symm.trans (Eq.trans rfl e_2))
    refine y_c2 (n := 40) C0 (by decide) dX5_atom_30 (fun v_13 e_14 => ?_)
    replace HE : FT = g4b_X5_atom_0 (xso SC ad ws0) v_8.toInt := HE.trans (by rw [(xg0 e_9 : v_8.toInt = (xso SC ad ws0) 0 77 4)]; rfl)
    refine y_icmp_ne (tgt := 63) C0 dX5_atom_32 (by decide) (fun c_15 => ?_) (fun c_15 => ?_)
    · -- 32
      replace HE : FT = g5_X5_atom_0 (xso SC ad ws0) := HE.trans (if_neg (o24_9 e_6 c_7 qh_12 e_14 c_15))
      refine lv_aload_n C0.1 C0.2.1 dX5_atom_63 rfl (lv_at hl 0 rfl) ?_
      refine va_ldcS C0.1 C0.2.1 C0.2.2.2.1 (sr_12 hZ) dX5_atom_64 ?_
      refine y_ci h (y_rV (As := [.ref (Z.2.1 12)]) (rest := []) C0 hZ h (c_X5_isWord l G Z ad _ h.2 12 (by decide)) k_X5_isWord q_724 q_5 q_722 kSC_77 rfl rfl rfl hl.1 rfl rfl (Nat.le_of_ble_eq_true rfl) dX5_atom_66 ⟨Nat.le_of_ble_eq_true rfl, Nat.le_of_ble_eq_true rfl⟩ ⟨Nat.le_of_ble_eq_true rfl, Nat.le_of_ble_eq_true rfl⟩) (fun r_19 H locs ws_16 h u_17 p_18 => ?_)
      obtain ⟨e_20, e_21, e_22, e_23⟩ := p_18
      replace HE : FT = g7c_X5_atom_0 (xso SC ad ws_16) r_19.toInt := HE.trans (by rw [e_20, e_21]; rfl)
      replace HE : FT = g8b_X5_atom_0 (xso SC ad ws_16) r_19.toInt := HE.trans rfl
      refine y_if_eq (tgt := 78) C0 dX5_atom_69 (by decide) (fun c_24 => ?_) (fun c_24 => ?_)
      · -- 69
        replace HE : FT = g9_X5_atom_0 (xso SC ad ws_16) := HE.trans (if_pos c_24)
        refine lv_aload_n C0.1 C0.2.1 dX5_atom_78 rfl (lv_at hl 0 rfl) ?_
        refine va_ldcS C0.1 C0.2.1 C0.2.2.2.1 (sr_13 hZ) dX5_atom_79 ?_
        refine y_ci h (y_rV (As := [.ref (Z.2.1 13)]) (rest := []) C0 hZ h (c_X5_isWord l G Z ad _ h.2 13 (by decide)) k_X5_isWord q_724 q_5 q_722 kSC_77 rfl rfl rfl hl.1 rfl rfl (Nat.le_of_ble_eq_true rfl) dX5_atom_81 ⟨Nat.le_of_ble_eq_true rfl, Nat.le_of_ble_eq_true rfl⟩ ⟨Nat.le_of_ble_eq_true rfl, Nat.le_of_ble_eq_true rfl⟩) (fun r_28 H locs ws_25 h u_26 p_27 => ?_)
        obtain ⟨e_29, e_30, e_31, e_32⟩ := p_27
        replace HE : FT = g11c_X5_atom_0 (xso SC ad ws_25) r_28.toInt := HE.trans (by rw [e_29, e_30]; rfl)
        replace HE : FT = g12b_X5_atom_0 (xso SC ad ws_25) r_28.toInt := HE.trans rfl
        refine y_if_eq (tgt := 93) C0 dX5_atom_84 (by decide) (fun c_33 => ?_) (fun c_33 => ?_)
        · -- 84
          replace HE : FT = g13_X5_atom_0 (xso SC ad ws_25) := HE.trans (if_pos c_33)
          refine lv_aload_n C0.1 C0.2.1 dX5_atom_93 rfl (lv_at hl 0 rfl) ?_
          refine va_ldcS C0.1 C0.2.1 C0.2.2.2.1 (sr_14 hZ) dX5_atom_94 ?_
          refine y_ci h (y_rV (As := [.ref (Z.2.1 14)]) (rest := []) C0 hZ h (c_X5_isWord l G Z ad _ h.2 14 (by decide)) k_X5_isWord q_724 q_5 q_722 kSC_77 rfl rfl rfl hl.1 rfl rfl (Nat.le_of_ble_eq_true rfl) dX5_atom_96 ⟨Nat.le_of_ble_eq_true rfl, Nat.le_of_ble_eq_true rfl⟩ ⟨Nat.le_of_ble_eq_true rfl, Nat.le_of_ble_eq_true rfl⟩) (fun r_37 H locs ws_34 h u_35 p_36 => ?_)
          obtain ⟨e_38, e_39, e_40, e_41⟩ := p_36
          replace HE : FT = g15c_X5_atom_0 (xso SC ad ws_34) r_37.toInt := HE.trans (by rw [e_38, e_39]; rfl)
          replace HE : FT = g16b_X5_atom_0 (xso SC ad ws_34) r_37.toInt := HE.trans rfl
          refine y_if_eq (tgt := 108) C0 dX5_atom_99 (by decide) (fun c_42 => ?_) (fun c_42 => ?_)
          · -- 99
            replace HE : FT = g17_X5_atom_0 (xso SC ad ws_34) := HE.trans (if_pos c_42)
            refine lv_aload_n C0.1 C0.2.1 dX5_atom_108 rfl (lv_at hl 0 rfl) ?_
            refine va_ldcS C0.1 C0.2.1 C0.2.2.2.1 (sr_15 hZ) dX5_atom_109 ?_
            refine y_ci h (y_rV (As := [.ref (Z.2.1 15)]) (rest := []) C0 hZ h (c_X5_isWord l G Z ad _ h.2 15 (by decide)) k_X5_isWord q_724 q_5 q_722 kSC_77 rfl rfl rfl hl.1 rfl rfl (Nat.le_of_ble_eq_true rfl) dX5_atom_111 ⟨Nat.le_of_ble_eq_true rfl, Nat.le_of_ble_eq_true rfl⟩ ⟨Nat.le_of_ble_eq_true rfl, Nat.le_of_ble_eq_true rfl⟩) (fun r_46 H locs ws_43 h u_44 p_45 => ?_)
            obtain ⟨e_47, e_48, e_49, e_50⟩ := p_45
            replace HE : FT = g19c_X5_atom_0 (xso SC ad ws_43) r_46.toInt := HE.trans (by rw [e_47, e_48]; rfl)
            replace HE : FT = g20b_X5_atom_0 (xso SC ad ws_43) r_46.toInt := HE.trans rfl
            refine y_if_eq (tgt := 123) C0 dX5_atom_114 (by decide) (fun c_51 => ?_) (fun c_51 => ?_)
            · -- 114
              replace HE : FT = g21_X5_atom_0 (xso SC ad ws_43) := HE.trans (if_pos c_51)
              refine lv_aload_n C0.1 C0.2.1 dX5_atom_123 rfl (lv_at hl 0 rfl) ?_
              refine va_ldcS C0.1 C0.2.1 C0.2.2.2.1 (sr_16 hZ) dX5_atom_124 ?_
              refine y_ci h (y_rV (As := [.ref (Z.2.1 16)]) (rest := []) C0 hZ h (c_X5_isWord l G Z ad _ h.2 16 (by decide)) k_X5_isWord q_724 q_5 q_722 kSC_77 rfl rfl rfl hl.1 rfl rfl (Nat.le_of_ble_eq_true rfl) dX5_atom_126 ⟨Nat.le_of_ble_eq_true rfl, Nat.le_of_ble_eq_true rfl⟩ ⟨Nat.le_of_ble_eq_true rfl, Nat.le_of_ble_eq_true rfl⟩) (fun r_55 H locs ws_52 h u_53 p_54 => ?_)
              obtain ⟨e_56, e_57, e_58, e_59⟩ := p_54
              replace HE : FT = g23c_X5_atom_0 (xso SC ad ws_52) r_55.toInt := HE.trans (by rw [e_56, e_57]; rfl)
              replace HE : FT = g24b_X5_atom_0 (xso SC ad ws_52) r_55.toInt := HE.trans rfl
              refine y_if_eq (tgt := 138) C0 dX5_atom_129 (by decide) (fun c_60 => ?_) (fun c_60 => ?_)
              · -- 129
                replace HE : FT = g25_X5_atom_0 (xso SC ad ws_52) := HE.trans (if_pos c_60)
                refine lv_aload_n C0.1 C0.2.1 dX5_atom_138 rfl (lv_at hl 0 rfl) ?_
                refine va_ldcS C0.1 C0.2.1 C0.2.2.2.1 (sr_17 hZ) dX5_atom_139 ?_
                refine y_ci h (y_rV (As := [.ref (Z.2.1 17)]) (rest := []) C0 hZ h (c_X5_isWord l G Z ad _ h.2 17 (by decide)) k_X5_isWord q_724 q_5 q_722 kSC_77 rfl rfl rfl hl.1 rfl rfl (Nat.le_of_ble_eq_true rfl) dX5_atom_141 ⟨Nat.le_of_ble_eq_true rfl, Nat.le_of_ble_eq_true rfl⟩ ⟨Nat.le_of_ble_eq_true rfl, Nat.le_of_ble_eq_true rfl⟩) (fun r_64 H locs ws_61 h u_62 p_63 => ?_)
                obtain ⟨e_65, e_66, e_67, e_68⟩ := p_63
                replace HE : FT = g27c_X5_atom_0 (xso SC ad ws_61) r_64.toInt := HE.trans (by rw [e_65, e_66]; rfl)
                replace HE : FT = g28b_X5_atom_0 (xso SC ad ws_61) r_64.toInt := HE.trans rfl
                refine y_if_eq (tgt := 153) C0 dX5_atom_144 (by decide) (fun c_69 => ?_) (fun c_69 => ?_)
                · -- 144
                  replace HE : FT = g29_X5_atom_0 (xso SC ad ws_61) := HE.trans (if_pos c_69)
                  refine y_c1 (n := (-1)) C0 (by decide) dX5_atom_153 (fun v_70 e_71 => ?_)
                  refine lv_istore_n (lv' := [(2, .int v_70), (0, .ref (ad 77)), (1, .int a1)]) C0.1 C0.2.1 dX5_atom_154 rfl hl (by decide) rfl (fun ls hl => ?_)
                  refine lv_iload_n C0.1 C0.2.1 dX5_atom_155 rfl (lv_at hl 0 rfl) ?_
                  refine y_if_ge (tgt := 165) C0 dX5_atom_156 (by decide) (fun c_72 => ((o24_11 e_71 c_72)).elim) (fun c_72 => ?_)
                  refine lv_aload_n C0.1 C0.2.1 dX5_atom_159 rfl (lv_at hl 1 rfl) ?_
                  refine y_c1 (n := 2) C0 (by decide) dX5_atom_160 (fun v_73 e_74 => ?_)
                  refine y_cv h (y_rV (As := [.int v_73]) (rest := []) C0 hZ h (c_X5_fail l G Z ad _ h.2 v_73) k_X5_fail q_628 q_3 q_626 kSC_77 rfl rfl rfl hl.1 rfl rfl (Nat.le_of_ble_eq_true rfl) dX5_atom_161 ⟨Nat.le_of_ble_eq_true rfl, Nat.le_of_ble_eq_true rfl⟩ ⟨Nat.le_of_ble_eq_true rfl, Nat.le_of_ble_eq_true rfl⟩) (fun H locs ws_75 h u_76 p_77 => ?_)
                  have e_78 := p_77
                  replace HE : FT = g31c_X5_atom_0 (xso SC ad ws_75) := HE.trans (by rw [e_78, e_74]; rfl)
                  replace HE : FT = ((xso SC ad ws_75), 0) := HE.trans rfl
                  rw [hQ]
                  exact y_vret C0 h (Fr.tr (Fr.tr (Fr.tr (Fr.tr (Fr.tr (Fr.tr (Fr.mono u_17 (by decide)) (Fr.mono u_26 (by decide))) (Fr.mono u_35 (by decide))) (Fr.mono u_44 (by decide))) (Fr.mono u_53 (by decide))) (Fr.mono u_62 (by decide))) (Fr.mono u_76 (by decide))) (congrArg Prod.fst (HE.symm.trans hFT)) dX5_atom_164
                · -- 144
                  replace HE : FT = g30_X5_atom_0 (xso SC ad ws_61) := HE.trans (if_neg c_69)
                  refine y_c3 (n := 1005) C0 (by decide) dX5_atom_147 (fun v_79 e_80 => ?_)
                  refine lv_goto (tgt := 154) C0.1 C0.2.1 dX5_atom_150 (by decide) ?_
                  refine lv_istore_n (lv' := [(2, .int v_79), (0, .ref (ad 77)), (1, .int a1)]) C0.1 C0.2.1 dX5_atom_154 rfl hl (by decide) rfl (fun ls hl => ?_)
                  refine lv_iload_n C0.1 C0.2.1 dX5_atom_155 rfl (lv_at hl 0 rfl) ?_
                  refine y_if_ge (tgt := 165) C0 dX5_atom_156 (by decide) (fun c_81 => ?_) (fun c_81 => ((o24_12 e_80 c_81)).elim)
                  refine lv_aload_n C0.1 C0.2.1 dX5_atom_165 rfl (lv_at hl 1 rfl) ?_
                  refine tg_X5_law C0 h kSC_77 q_380 dX5_atom_166 (fun i_82 hi_82 ei_82 => ?_)
                  refine lv_iload_n C0.1 C0.2.1 dX5_atom_169 rfl (lv_at hl 0 rfl) ?_
                  refine y_cv h (y_rV (As := [.int v_79]) (rest := []) C0 hZ h (c_X4_add l G Z ad _ h.2 i_82 hi_82 v_79) k_X4_add q_827 q_828 q_826 hi_82 rfl rfl rfl hl.1 rfl rfl (Nat.le_of_ble_eq_true rfl) dX5_atom_170 ⟨Nat.le_of_ble_eq_true rfl, Nat.le_of_ble_eq_true rfl⟩ ⟨Nat.le_of_ble_eq_true rfl, Nat.le_of_ble_eq_true rfl⟩) (fun H locs ws_83 h u_84 p_85 => ?_)
                  have e_86 := p_85
                  replace HE : FT = g32c_X5_atom_0 (xso SC ad ws_83) := HE.trans (by rw [e_86, e_80, ei_82]; rfl)
                  refine lv_aload_n C0.1 C0.2.1 dX5_atom_173 rfl (lv_at hl 1 rfl) ?_
                  refine y_cv h (y_rV (As := []) (rest := []) C0 hZ h (c_X5_advance l G Z ad _ h.2) k_X5_advance q_616 q_0 q_614 kSC_77 rfl rfl rfl hl.1 rfl rfl (Nat.le_of_ble_eq_true rfl) dX5_atom_174 ⟨Nat.le_of_ble_eq_true rfl, Nat.le_of_ble_eq_true rfl⟩ ⟨Nat.le_of_ble_eq_true rfl, Nat.le_of_ble_eq_true rfl⟩) (fun H locs ws_87 h u_88 p_89 => ?_)
                  have e_90 := p_89
                  replace HE : FT = g33c_X5_atom_0 (xso SC ad ws_87) := HE.trans (by rw [e_90]; rfl)
                  replace HE : FT = ((xso SC ad ws_87), 0) := HE.trans rfl
                  rw [hQ]
                  exact y_vret C0 h (Fr.tr (Fr.tr (Fr.tr (Fr.tr (Fr.tr (Fr.tr (Fr.tr (Fr.mono u_17 (by decide)) (Fr.mono u_26 (by decide))) (Fr.mono u_35 (by decide))) (Fr.mono u_44 (by decide))) (Fr.mono u_53 (by decide))) (Fr.mono u_62 (by decide))) (Fr.mono u_84 (by decide))) (Fr.mono u_88 (by decide))) (congrArg Prod.fst (HE.symm.trans hFT)) dX5_atom_177
              · -- 129
                replace HE : FT = g26_X5_atom_0 (xso SC ad ws_52) := HE.trans (if_neg c_60)
                refine y_c3 (n := 1004) C0 (by decide) dX5_atom_132 (fun v_91 e_92 => ?_)
                refine lv_goto (tgt := 154) C0.1 C0.2.1 dX5_atom_135 (by decide) ?_
                refine lv_istore_n (lv' := [(2, .int v_91), (0, .ref (ad 77)), (1, .int a1)]) C0.1 C0.2.1 dX5_atom_154 rfl hl (by decide) rfl (fun ls hl => ?_)
                refine lv_iload_n C0.1 C0.2.1 dX5_atom_155 rfl (lv_at hl 0 rfl) ?_
                refine y_if_ge (tgt := 165) C0 dX5_atom_156 (by decide) (fun c_93 => ?_) (fun c_93 => ((o24_13 e_92 c_93)).elim)
                refine lv_aload_n C0.1 C0.2.1 dX5_atom_165 rfl (lv_at hl 1 rfl) ?_
                refine tg_X5_law C0 h kSC_77 q_380 dX5_atom_166 (fun i_94 hi_94 ei_94 => ?_)
                refine lv_iload_n C0.1 C0.2.1 dX5_atom_169 rfl (lv_at hl 0 rfl) ?_
                refine y_cv h (y_rV (As := [.int v_91]) (rest := []) C0 hZ h (c_X4_add l G Z ad _ h.2 i_94 hi_94 v_91) k_X4_add q_827 q_828 q_826 hi_94 rfl rfl rfl hl.1 rfl rfl (Nat.le_of_ble_eq_true rfl) dX5_atom_170 ⟨Nat.le_of_ble_eq_true rfl, Nat.le_of_ble_eq_true rfl⟩ ⟨Nat.le_of_ble_eq_true rfl, Nat.le_of_ble_eq_true rfl⟩) (fun H locs ws_95 h u_96 p_97 => ?_)
                have e_98 := p_97
                replace HE : FT = g34c_X5_atom_0 (xso SC ad ws_95) := HE.trans (by rw [e_98, e_92, ei_94]; rfl)
                refine lv_aload_n C0.1 C0.2.1 dX5_atom_173 rfl (lv_at hl 1 rfl) ?_
                refine y_cv h (y_rV (As := []) (rest := []) C0 hZ h (c_X5_advance l G Z ad _ h.2) k_X5_advance q_616 q_0 q_614 kSC_77 rfl rfl rfl hl.1 rfl rfl (Nat.le_of_ble_eq_true rfl) dX5_atom_174 ⟨Nat.le_of_ble_eq_true rfl, Nat.le_of_ble_eq_true rfl⟩ ⟨Nat.le_of_ble_eq_true rfl, Nat.le_of_ble_eq_true rfl⟩) (fun H locs ws_99 h u_100 p_101 => ?_)
                have e_102 := p_101
                replace HE : FT = g35c_X5_atom_0 (xso SC ad ws_99) := HE.trans (by rw [e_102]; rfl)
                replace HE : FT = ((xso SC ad ws_99), 0) := HE.trans rfl
                rw [hQ]
                exact y_vret C0 h (Fr.tr (Fr.tr (Fr.tr (Fr.tr (Fr.tr (Fr.tr (Fr.mono u_17 (by decide)) (Fr.mono u_26 (by decide))) (Fr.mono u_35 (by decide))) (Fr.mono u_44 (by decide))) (Fr.mono u_53 (by decide))) (Fr.mono u_96 (by decide))) (Fr.mono u_100 (by decide))) (congrArg Prod.fst (HE.symm.trans hFT)) dX5_atom_177
            · -- 114
              replace HE : FT = g22_X5_atom_0 (xso SC ad ws_43) := HE.trans (if_neg c_51)
              refine y_c3 (n := 1003) C0 (by decide) dX5_atom_117 (fun v_103 e_104 => ?_)
              refine lv_goto (tgt := 154) C0.1 C0.2.1 dX5_atom_120 (by decide) ?_
              refine lv_istore_n (lv' := [(2, .int v_103), (0, .ref (ad 77)), (1, .int a1)]) C0.1 C0.2.1 dX5_atom_154 rfl hl (by decide) rfl (fun ls hl => ?_)
              refine lv_iload_n C0.1 C0.2.1 dX5_atom_155 rfl (lv_at hl 0 rfl) ?_
              refine y_if_ge (tgt := 165) C0 dX5_atom_156 (by decide) (fun c_105 => ?_) (fun c_105 => ((o24_14 e_104 c_105)).elim)
              refine lv_aload_n C0.1 C0.2.1 dX5_atom_165 rfl (lv_at hl 1 rfl) ?_
              refine tg_X5_law C0 h kSC_77 q_380 dX5_atom_166 (fun i_106 hi_106 ei_106 => ?_)
              refine lv_iload_n C0.1 C0.2.1 dX5_atom_169 rfl (lv_at hl 0 rfl) ?_
              refine y_cv h (y_rV (As := [.int v_103]) (rest := []) C0 hZ h (c_X4_add l G Z ad _ h.2 i_106 hi_106 v_103) k_X4_add q_827 q_828 q_826 hi_106 rfl rfl rfl hl.1 rfl rfl (Nat.le_of_ble_eq_true rfl) dX5_atom_170 ⟨Nat.le_of_ble_eq_true rfl, Nat.le_of_ble_eq_true rfl⟩ ⟨Nat.le_of_ble_eq_true rfl, Nat.le_of_ble_eq_true rfl⟩) (fun H locs ws_107 h u_108 p_109 => ?_)
              have e_110 := p_109
              replace HE : FT = g36c_X5_atom_0 (xso SC ad ws_107) := HE.trans (by rw [e_110, e_104, ei_106]; rfl)
              refine lv_aload_n C0.1 C0.2.1 dX5_atom_173 rfl (lv_at hl 1 rfl) ?_
              refine y_cv h (y_rV (As := []) (rest := []) C0 hZ h (c_X5_advance l G Z ad _ h.2) k_X5_advance q_616 q_0 q_614 kSC_77 rfl rfl rfl hl.1 rfl rfl (Nat.le_of_ble_eq_true rfl) dX5_atom_174 ⟨Nat.le_of_ble_eq_true rfl, Nat.le_of_ble_eq_true rfl⟩ ⟨Nat.le_of_ble_eq_true rfl, Nat.le_of_ble_eq_true rfl⟩) (fun H locs ws_111 h u_112 p_113 => ?_)
              have e_114 := p_113
              replace HE : FT = g37c_X5_atom_0 (xso SC ad ws_111) := HE.trans (by rw [e_114]; rfl)
              replace HE : FT = ((xso SC ad ws_111), 0) := HE.trans rfl
              rw [hQ]
              exact y_vret C0 h (Fr.tr (Fr.tr (Fr.tr (Fr.tr (Fr.tr (Fr.mono u_17 (by decide)) (Fr.mono u_26 (by decide))) (Fr.mono u_35 (by decide))) (Fr.mono u_44 (by decide))) (Fr.mono u_108 (by decide))) (Fr.mono u_112 (by decide))) (congrArg Prod.fst (HE.symm.trans hFT)) dX5_atom_177
          · -- 99
            replace HE : FT = g18_X5_atom_0 (xso SC ad ws_34) := HE.trans (if_neg c_42)
            refine y_c3 (n := 1002) C0 (by decide) dX5_atom_102 (fun v_115 e_116 => ?_)
            refine lv_goto (tgt := 154) C0.1 C0.2.1 dX5_atom_105 (by decide) ?_
            refine lv_istore_n (lv' := [(2, .int v_115), (0, .ref (ad 77)), (1, .int a1)]) C0.1 C0.2.1 dX5_atom_154 rfl hl (by decide) rfl (fun ls hl => ?_)
            refine lv_iload_n C0.1 C0.2.1 dX5_atom_155 rfl (lv_at hl 0 rfl) ?_
            refine y_if_ge (tgt := 165) C0 dX5_atom_156 (by decide) (fun c_117 => ?_) (fun c_117 => ((o24_15 e_116 c_117)).elim)
            refine lv_aload_n C0.1 C0.2.1 dX5_atom_165 rfl (lv_at hl 1 rfl) ?_
            refine tg_X5_law C0 h kSC_77 q_380 dX5_atom_166 (fun i_118 hi_118 ei_118 => ?_)
            refine lv_iload_n C0.1 C0.2.1 dX5_atom_169 rfl (lv_at hl 0 rfl) ?_
            refine y_cv h (y_rV (As := [.int v_115]) (rest := []) C0 hZ h (c_X4_add l G Z ad _ h.2 i_118 hi_118 v_115) k_X4_add q_827 q_828 q_826 hi_118 rfl rfl rfl hl.1 rfl rfl (Nat.le_of_ble_eq_true rfl) dX5_atom_170 ⟨Nat.le_of_ble_eq_true rfl, Nat.le_of_ble_eq_true rfl⟩ ⟨Nat.le_of_ble_eq_true rfl, Nat.le_of_ble_eq_true rfl⟩) (fun H locs ws_119 h u_120 p_121 => ?_)
            have e_122 := p_121
            replace HE : FT = g38c_X5_atom_0 (xso SC ad ws_119) := HE.trans (by rw [e_122, e_116, ei_118]; rfl)
            refine lv_aload_n C0.1 C0.2.1 dX5_atom_173 rfl (lv_at hl 1 rfl) ?_
            refine y_cv h (y_rV (As := []) (rest := []) C0 hZ h (c_X5_advance l G Z ad _ h.2) k_X5_advance q_616 q_0 q_614 kSC_77 rfl rfl rfl hl.1 rfl rfl (Nat.le_of_ble_eq_true rfl) dX5_atom_174 ⟨Nat.le_of_ble_eq_true rfl, Nat.le_of_ble_eq_true rfl⟩ ⟨Nat.le_of_ble_eq_true rfl, Nat.le_of_ble_eq_true rfl⟩) (fun H locs ws_123 h u_124 p_125 => ?_)
            have e_126 := p_125
            replace HE : FT = g39c_X5_atom_0 (xso SC ad ws_123) := HE.trans (by rw [e_126]; rfl)
            replace HE : FT = ((xso SC ad ws_123), 0) := HE.trans rfl
            rw [hQ]
            exact y_vret C0 h (Fr.tr (Fr.tr (Fr.tr (Fr.tr (Fr.mono u_17 (by decide)) (Fr.mono u_26 (by decide))) (Fr.mono u_35 (by decide))) (Fr.mono u_120 (by decide))) (Fr.mono u_124 (by decide))) (congrArg Prod.fst (HE.symm.trans hFT)) dX5_atom_177
        · -- 84
          replace HE : FT = g14_X5_atom_0 (xso SC ad ws_25) := HE.trans (if_neg c_33)
          refine y_c3 (n := 1001) C0 (by decide) dX5_atom_87 (fun v_127 e_128 => ?_)
          refine lv_goto (tgt := 154) C0.1 C0.2.1 dX5_atom_90 (by decide) ?_
          refine lv_istore_n (lv' := [(2, .int v_127), (0, .ref (ad 77)), (1, .int a1)]) C0.1 C0.2.1 dX5_atom_154 rfl hl (by decide) rfl (fun ls hl => ?_)
          refine lv_iload_n C0.1 C0.2.1 dX5_atom_155 rfl (lv_at hl 0 rfl) ?_
          refine y_if_ge (tgt := 165) C0 dX5_atom_156 (by decide) (fun c_129 => ?_) (fun c_129 => ((o24_16 e_128 c_129)).elim)
          refine lv_aload_n C0.1 C0.2.1 dX5_atom_165 rfl (lv_at hl 1 rfl) ?_
          refine tg_X5_law C0 h kSC_77 q_380 dX5_atom_166 (fun i_130 hi_130 ei_130 => ?_)
          refine lv_iload_n C0.1 C0.2.1 dX5_atom_169 rfl (lv_at hl 0 rfl) ?_
          refine y_cv h (y_rV (As := [.int v_127]) (rest := []) C0 hZ h (c_X4_add l G Z ad _ h.2 i_130 hi_130 v_127) k_X4_add q_827 q_828 q_826 hi_130 rfl rfl rfl hl.1 rfl rfl (Nat.le_of_ble_eq_true rfl) dX5_atom_170 ⟨Nat.le_of_ble_eq_true rfl, Nat.le_of_ble_eq_true rfl⟩ ⟨Nat.le_of_ble_eq_true rfl, Nat.le_of_ble_eq_true rfl⟩) (fun H locs ws_131 h u_132 p_133 => ?_)
          have e_134 := p_133
          replace HE : FT = g40c_X5_atom_0 (xso SC ad ws_131) := HE.trans (by rw [e_134, e_128, ei_130]; rfl)
          refine lv_aload_n C0.1 C0.2.1 dX5_atom_173 rfl (lv_at hl 1 rfl) ?_
          refine y_cv h (y_rV (As := []) (rest := []) C0 hZ h (c_X5_advance l G Z ad _ h.2) k_X5_advance q_616 q_0 q_614 kSC_77 rfl rfl rfl hl.1 rfl rfl (Nat.le_of_ble_eq_true rfl) dX5_atom_174 ⟨Nat.le_of_ble_eq_true rfl, Nat.le_of_ble_eq_true rfl⟩ ⟨Nat.le_of_ble_eq_true rfl, Nat.le_of_ble_eq_true rfl⟩) (fun H locs ws_135 h u_136 p_137 => ?_)
          have e_138 := p_137
          replace HE : FT = g41c_X5_atom_0 (xso SC ad ws_135) := HE.trans (by rw [e_138]; rfl)
          replace HE : FT = ((xso SC ad ws_135), 0) := HE.trans rfl
          rw [hQ]
          exact y_vret C0 h (Fr.tr (Fr.tr (Fr.tr (Fr.mono u_17 (by decide)) (Fr.mono u_26 (by decide))) (Fr.mono u_132 (by decide))) (Fr.mono u_136 (by decide))) (congrArg Prod.fst (HE.symm.trans hFT)) dX5_atom_177
      · -- 69
        replace HE : FT = g10_X5_atom_0 (xso SC ad ws_16) := HE.trans (if_neg c_24)
        refine y_c3 (n := 1000) C0 (by decide) dX5_atom_72 (fun v_139 e_140 => ?_)
        refine lv_goto (tgt := 154) C0.1 C0.2.1 dX5_atom_75 (by decide) ?_
        refine lv_istore_n (lv' := [(2, .int v_139), (0, .ref (ad 77)), (1, .int a1)]) C0.1 C0.2.1 dX5_atom_154 rfl hl (by decide) rfl (fun ls hl => ?_)
        refine lv_iload_n C0.1 C0.2.1 dX5_atom_155 rfl (lv_at hl 0 rfl) ?_
        refine y_if_ge (tgt := 165) C0 dX5_atom_156 (by decide) (fun c_141 => ?_) (fun c_141 => ((o24_17 e_140 c_141)).elim)
        refine lv_aload_n C0.1 C0.2.1 dX5_atom_165 rfl (lv_at hl 1 rfl) ?_
        refine tg_X5_law C0 h kSC_77 q_380 dX5_atom_166 (fun i_142 hi_142 ei_142 => ?_)
        refine lv_iload_n C0.1 C0.2.1 dX5_atom_169 rfl (lv_at hl 0 rfl) ?_
        refine y_cv h (y_rV (As := [.int v_139]) (rest := []) C0 hZ h (c_X4_add l G Z ad _ h.2 i_142 hi_142 v_139) k_X4_add q_827 q_828 q_826 hi_142 rfl rfl rfl hl.1 rfl rfl (Nat.le_of_ble_eq_true rfl) dX5_atom_170 ⟨Nat.le_of_ble_eq_true rfl, Nat.le_of_ble_eq_true rfl⟩ ⟨Nat.le_of_ble_eq_true rfl, Nat.le_of_ble_eq_true rfl⟩) (fun H locs ws_143 h u_144 p_145 => ?_)
        have e_146 := p_145
        replace HE : FT = g42c_X5_atom_0 (xso SC ad ws_143) := HE.trans (by rw [e_146, e_140, ei_142]; rfl)
        refine lv_aload_n C0.1 C0.2.1 dX5_atom_173 rfl (lv_at hl 1 rfl) ?_
        refine y_cv h (y_rV (As := []) (rest := []) C0 hZ h (c_X5_advance l G Z ad _ h.2) k_X5_advance q_616 q_0 q_614 kSC_77 rfl rfl rfl hl.1 rfl rfl (Nat.le_of_ble_eq_true rfl) dX5_atom_174 ⟨Nat.le_of_ble_eq_true rfl, Nat.le_of_ble_eq_true rfl⟩ ⟨Nat.le_of_ble_eq_true rfl, Nat.le_of_ble_eq_true rfl⟩) (fun H locs ws_147 h u_148 p_149 => ?_)
        have e_150 := p_149
        replace HE : FT = g43c_X5_atom_0 (xso SC ad ws_147) := HE.trans (by rw [e_150]; rfl)
        replace HE : FT = ((xso SC ad ws_147), 0) := HE.trans rfl
        rw [hQ]
        exact y_vret C0 h (Fr.tr (Fr.tr (Fr.mono u_17 (by decide)) (Fr.mono u_144 (by decide))) (Fr.mono u_148 (by decide))) (congrArg Prod.fst (HE.symm.trans hFT)) dX5_atom_177
    · -- 32
      replace HE : FT = g6_X5_atom_0 (xso SC ad ws0) := HE.trans (if_pos (o24_10 e_6 c_7 qh_12 e_14 c_15))
      refine lv_aload_n C0.1 C0.2.1 dX5_atom_35 rfl (lv_at hl 0 rfl) ?_
      refine lv_iload_n C0.1 C0.2.1 dX5_atom_36 rfl (lv_at hl 1 rfl) ?_
      refine y_ci h (y_rV (As := [.int a1]) (rest := []) C0 hZ h (c_X5_tooDeep_0 l G Z ad _ h.2 a1 (o24_118 l1 u1) (o24_119 l1 u1)) k_X5_tooDeep q_832 q_18 q_830 kSC_77 rfl rfl rfl hl.1 rfl rfl (Nat.le_of_ble_eq_true rfl) dX5_atom_37 ⟨Nat.le_of_ble_eq_true rfl, Nat.le_of_ble_eq_true rfl⟩ ⟨Nat.le_of_ble_eq_true rfl, Nat.le_of_ble_eq_true rfl⟩) (fun r_154 H locs ws_151 h u_152 p_153 => ?_)
      obtain ⟨e_155, e_156, e_157, e_158⟩ := p_153
      replace HE : FT = g44c_X5_atom_0 (xso SC ad ws_151) := HE.trans (by rw [e_155, (o24_120 l1 u1)]; rfl)
      refine y_if_ne (tgt := 177) C0 dX5_atom_40 (by decide) (fun c_159 => ((o24_71 e_157 e_158 c_159)).elim) (fun c_159 => ?_)
      refine lv_aload_n C0.1 C0.2.1 dX5_atom_43 rfl (lv_at hl 0 rfl) ?_
      refine y_cv h (y_rV (As := []) (rest := []) C0 hZ h (c_X5_advance l G Z ad _ h.2) k_X5_advance q_616 q_0 q_614 kSC_77 rfl rfl rfl hl.1 rfl rfl (Nat.le_of_ble_eq_true rfl) dX5_atom_44 ⟨Nat.le_of_ble_eq_true rfl, Nat.le_of_ble_eq_true rfl⟩ ⟨Nat.le_of_ble_eq_true rfl, Nat.le_of_ble_eq_true rfl⟩) (fun H locs ws_160 h u_161 p_162 => ?_)
      have e_163 := p_162
      replace HE : FT = g45c_X5_atom_0 (xso SC ad ws_160) := HE.trans (by rw [e_163]; rfl)
      refine lv_aload_n C0.1 C0.2.1 dX5_atom_47 rfl (lv_at hl 0 rfl) ?_
      refine lv_iload_n C0.1 C0.2.1 dX5_atom_48 rfl (lv_at hl 1 rfl) ?_
      refine y_c1 (n := 1) C0 (by decide) dX5_atom_49 (fun v_164 e_165 => ?_)
      refine y_add C0 (o24_121 l1 u1 e_165 (le_min a1) (le_max a1) (le_min v_164) (le_max v_164)) (o24_122 l1 u1 e_165 (le_min a1) (le_max a1) (le_min v_164) (le_max v_164)) dX5_atom_50 (fun v_166 e_167 => ?_)
      refine y_cv h (y_rV (As := [.int v_166]) (rest := []) C0 hZ h (c_X5_sum_1 l G Z ad _ h.2 v_166 (o24_123 l1 u1 e_165 e_167) (o24_124 l1 u1 e_165 e_167)) k_X5_sum q_816 q_15 q_814 kSC_77 rfl rfl rfl hl.1 rfl rfl (Nat.le_of_ble_eq_true rfl) dX5_atom_51 ⟨Nat.le_of_ble_eq_true rfl, Nat.le_of_ble_eq_true rfl⟩ ⟨Nat.le_of_ble_eq_true rfl, Nat.le_of_ble_eq_true rfl⟩) (fun H locs ws_168 h u_169 p_170 => ?_)
      have e_171 := p_170
      replace HE : FT = g46c_X5_atom_0 (xso SC ad ws_168) := HE.trans (by rw [e_171, e_167, e_165, (o24_125 l1 u1 e_165 e_167)]; rfl)
      refine lv_aload_n C0.1 C0.2.1 dX5_atom_54 rfl (lv_at hl 0 rfl) ?_
      refine y_c2 (n := 41) C0 (by decide) dX5_atom_55 (fun v_172 e_173 => ?_)
      refine y_cv h (y_rV (As := [.int v_172]) (rest := []) C0 hZ h (c_X5_sign l G Z ad _ h.2 v_172 (o24_77 e_173) (o24_78 e_173)) k_X5_sign q_812 q_14 q_810 kSC_77 rfl rfl rfl hl.1 rfl rfl (Nat.le_of_ble_eq_true rfl) dX5_atom_57 ⟨Nat.le_of_ble_eq_true rfl, Nat.le_of_ble_eq_true rfl⟩ ⟨Nat.le_of_ble_eq_true rfl, Nat.le_of_ble_eq_true rfl⟩) (fun H locs ws_174 h u_175 p_176 => ?_)
      have e_177 := p_176
      replace HE : FT = g47c_X5_atom_0 (xso SC ad ws_174) := HE.trans (by rw [e_177, e_173]; rfl)
      refine lv_goto (tgt := 177) C0.1 C0.2.1 dX5_atom_60 (by decide) ?_
      replace HE : FT = ((xso SC ad ws_174), 0) := HE.trans rfl
      rw [hQ]
      exact y_vret C0 h (Fr.tr (Fr.tr (Fr.tr (Fr.mono u_152 (by decide)) (Fr.mono u_161 (by decide))) u_169) (Fr.mono u_175 (by decide))) (congrArg Prod.fst (HE.symm.trans hFT)) dX5_atom_177
  · -- 5
    replace HE : FT = g3_X5_atom_0 (xso SC ad ws0) := HE.trans (if_pos (o24_7 e_6 c_7))
    refine lv_aload_n C0.1 C0.2.1 dX5_atom_8 rfl (lv_at hl 0 rfl) ?_
    refine tg_X5_law C0 h kSC_77 q_380 dX5_atom_9 (fun i_178 hi_178 ei_178 => ?_)
    refine lv_aload_n C0.1 C0.2.1 dX5_atom_12 rfl (lv_at hl 0 rfl) ?_
    refine tg_X5_number C0 h kSC_77 q_377 dX5_atom_13 (fun v_179 e_180 e_181 e_182 => ?_)
    refine y_cv h (y_rV (As := [.int v_179]) (rest := []) C0 hZ h (c_X4_add l G Z ad _ h.2 i_178 hi_178 v_179) k_X4_add q_827 q_828 q_826 hi_178 rfl rfl rfl hl.1 rfl rfl (Nat.le_of_ble_eq_true rfl) dX5_atom_16 ⟨Nat.le_of_ble_eq_true rfl, Nat.le_of_ble_eq_true rfl⟩ ⟨Nat.le_of_ble_eq_true rfl, Nat.le_of_ble_eq_true rfl⟩) (fun H locs ws_183 h u_184 p_185 => ?_)
    have e_186 := p_185
    replace HE : FT = g48c_X5_atom_0 (xso SC ad ws_183) := HE.trans (by rw [e_186, (xg0 e_180 : v_179.toInt = (xso SC ad ws0) 0 77 7), ei_178]; rfl)
    refine lv_aload_n C0.1 C0.2.1 dX5_atom_19 rfl (lv_at hl 0 rfl) ?_
    refine y_cv h (y_rV (As := []) (rest := []) C0 hZ h (c_X5_advance l G Z ad _ h.2) k_X5_advance q_616 q_0 q_614 kSC_77 rfl rfl rfl hl.1 rfl rfl (Nat.le_of_ble_eq_true rfl) dX5_atom_20 ⟨Nat.le_of_ble_eq_true rfl, Nat.le_of_ble_eq_true rfl⟩ ⟨Nat.le_of_ble_eq_true rfl, Nat.le_of_ble_eq_true rfl⟩) (fun H locs ws_187 h u_188 p_189 => ?_)
    have e_190 := p_189
    replace HE : FT = g49c_X5_atom_0 (xso SC ad ws_187) := HE.trans (by rw [e_190]; rfl)
    refine lv_goto (tgt := 177) C0.1 C0.2.1 dX5_atom_23 (by decide) ?_
    replace HE : FT = ((xso SC ad ws_187), 0) := HE.trans rfl
    rw [hQ]
    exact y_vret C0 h (Fr.tr (Fr.mono u_184 (by decide)) (Fr.mono u_188 (by decide))) (congrArg Prod.fst (HE.symm.trans hFT)) dX5_atom_177
noncomputable def g5_X5_term_0 (s : XS) : XR := (s, 0)
noncomputable def g8_X5_term_0 (s : XS) : XR := (s, 0)
noncomputable def g12c_X5_term_0 (R7 : XS → Int → XR) (s : XS) (x2_7 : Int) : XR := R7 s ((x2_7 + 1))
noncomputable def g11c_X5_term_0 (R7 : XS → Int → XR) (s : XS) (x2_7 : Int) : XR := g12c_X5_term_0 R7 ((f_X4_add s (Int.toNat (s 3 77 10)) 2002).1) x2_7
noncomputable def g10c_X5_term_0 (R7 : XS → Int → XR) (s : XS) (x2_7 : Int) : XR := g11c_X5_term_0 R7 ((f_X5_atom_0 s 0).1) x2_7
noncomputable def g9_X5_term_0 (R7 : XS → Int → XR) (s : XS) (x2_7 : Int) : XR := g10c_X5_term_0 R7 ((f_X5_advance s).1) x2_7
noncomputable def g7b_X5_term_0 (R7 : XS → Int → XR) (s : XS) (v_19 : Int) (x2_7 : Int) : XR := if v_19 = 42 then g9_X5_term_0 R7 s x2_7 else g8_X5_term_0 s
noncomputable def g6_X5_term_0 (R7 : XS → Int → XR) (s : XS) (x2_7 : Int) : XR := g7b_X5_term_0 R7 s ((s 0 77 4)) x2_7
noncomputable def g4b_X5_term_0 (R7 : XS → Int → XR) (s : XS) (x2_7 : Int) : XR := if x2_7 < 900 then g6_X5_term_0 R7 s x2_7 else g5_X5_term_0 s
noncomputable def g3l_X5_term_0 (R7 : XS → Int → XR) (s : XS) (x2_7 : Int) : XR := g4b_X5_term_0 R7 s x2_7
noncomputable def L2_X5_term_0 (n : Nat) : XS → Int → XR := Nat.rec (motive := fun _ => XS → Int → XR) (fun s _ => (s, 0)) (fun _ R7 => g3l_X5_term_0 R7) n
noncomputable def g1c_X5_term_0 (s : XS) : XR := L2_X5_term_0 (Int.toNat (900 - 0 + 1)) s 0
noncomputable def f_X5_term_0 (s : XS) (a1 : Int) : XR := g1c_X5_term_0 ((f_X5_atom_0 s a1).1)
set_option maxHeartbeats 4000000 in
set_option maxRecDepth 100000 in
theorem c_X5_term_0 (l : Launch) (G : GG) (Z : RZ) (ad : Nat → Nat) (ws0 : va_W) (hT : Ty G SC ad ws0) (a1 : Int32) (l1 : 0 ≤ a1.toInt) (u1 : a1.toInt ≤ 0) : Mq l yX5_term cX5_term 3 none 25 G Z [.ref (ad 77), .int a1] ws0 (PV G SC ad [2, 3, 16] ws0 (fun u => (xso SC ad u = (f_X5_term_0 (xso SC ad ws0) a1.toInt).1))) := by
  refine Mq.start (by decide) (Nat.le_of_ble_eq_true rfl) ?_
  intro p e s m below meth c A ls C0 hZ h hl
  have hl : lv_has ls 3 [(0, .ref (ad 77)), (1, .int a1)] := hl
  have h : Wt G SC ad A s s.heap [] ws0 := ⟨h, hT⟩
  obtain ⟨args, hargs⟩ : ∃ z, z = ([.ref (ad 77), .int a1] : List Value).toArray := ⟨_, rfl⟩
  rw [← hargs] at C0 ⊢
  have C0 : Cx p s m args meth c RX5 cX5_term 3 none := C0
  obtain ⟨Q, hQ⟩ : ∃ z, z = MQ below ((PV G SC ad [2, 3, 16] ws0 (fun u => (xso SC ad u = (f_X5_term_0 (xso SC ad ws0) a1.toInt).1))) A) args s 0 0 A := ⟨_, rfl⟩
  rw [← hQ]
  obtain ⟨FT, hFT⟩ : ∃ z, z = f_X5_term_0 (xso SC ad ws0) a1.toInt := ⟨_, rfl⟩
  have HE : FT = f_X5_term_0 (xso SC ad ws0) a1.toInt := hFT
  refine lv_aload_n C0.1 C0.2.1 dX5_term_0 rfl (lv_at hl 0 rfl) ?_
  refine lv_iload_n C0.1 C0.2.1 dX5_term_1 rfl (lv_at hl 1 rfl) ?_
  refine y_cv h (y_rV (As := [.int a1]) (rest := []) C0 hZ h (c_X5_atom_0 l G Z ad _ h.2 a1 (o24_118 l1 u1) (o24_119 l1 u1)) k_X5_atom q_824 q_17 q_822 kSC_77 rfl rfl rfl hl.1 rfl rfl (Nat.le_of_ble_eq_true rfl) dX5_term_2 ⟨Nat.le_of_ble_eq_true rfl, Nat.le_of_ble_eq_true rfl⟩ ⟨Nat.le_of_ble_eq_true rfl, Nat.le_of_ble_eq_true rfl⟩) (fun H locs ws_1 h u_2 p_3 => ?_)
  have e_4 := p_3
  replace HE : FT = g1c_X5_term_0 (xso SC ad ws_1) := HE.trans (by rw [e_4]; rfl)
  refine y_c1 (n := 0) C0 (by decide) dX5_term_5 (fun v_5 e_6 => ?_)
  refine lv_istore_n (lv' := [(2, .int v_5), (0, .ref (ad 77)), (1, .int a1)]) C0.1 C0.2.1 dX5_term_6 rfl hl (by decide) rfl (fun ls hl => ?_)
  have lp_10 : ∀ (n_12 : Nat) (x2_7 : Int32) (H : Heap) (locs : List Loc) (ls : Array Slot) (ws_8 : va_W), 900 - x2_7.toInt < (n_12 : Int) → 0 ≤ x2_7.toInt → x2_7.toInt ≤ 900 → (FT = L2_X5_term_0 n_12 (xso SC ad ws_8) x2_7.toInt) → Wt G SC ad A s H locs ws_8 → Fr SC [2, 3, 16] ws_1 ws_8 → lv_has ls 3 [(2, .int x2_7), (0, .ref (ad 77)), (1, .int a1)] → W p l e (rmd 25 0 0) s m args below meth c H locs 0 0 Q (F0 m 7 ls []) := by
    intro n_12
    induction n_12 with
    | zero => intro x2_7 H locs ls ws_8 hn_13 b_14 b_15 HE h hF_9 hl; exact ((o24_22 b_14 b_15 hn_13)).elim
    | succ n_12 ih_11 =>
      intro x2_7 H locs ls ws_8 hn_13 b_14 b_15 HE h hF_9 hl
      obtain ⟨R7, hR7⟩ : ∃ z, z = L2_X5_term_0 n_12 := ⟨_, rfl⟩
      replace HE : FT = g3l_X5_term_0 R7 (xso SC ad ws_8) x2_7.toInt := HE.trans (by rw [hR7]; rfl)
      refine lv_iload_n C0.1 C0.2.1 dX5_term_7 rfl (lv_at hl 0 rfl) ?_
      refine y_c3 (n := 900) C0 (by decide) dX5_term_8 (fun v_16 e_17 => ?_)
      replace HE : FT = g4b_X5_term_0 R7 (xso SC ad ws_8) x2_7.toInt := HE.trans rfl
      refine y_icmp_ge (tgt := 48) C0 dX5_term_11 (by decide) (fun c_18 => ?_) (fun c_18 => ?_)
      · -- 11
        replace HE : FT = g5_X5_term_0 (xso SC ad ws_8) := HE.trans (if_neg (o24_24 b_14 b_15 hn_13 e_17 c_18))
        replace HE : FT = ((xso SC ad ws_8), 0) := HE.trans rfl
        rw [hQ]
        exact y_vret C0 h (Fr.tr u_2 hF_9) (congrArg Prod.fst (HE.symm.trans hFT)) dX5_term_48
      · -- 11
        replace HE : FT = g6_X5_term_0 R7 (xso SC ad ws_8) x2_7.toInt := HE.trans (if_pos (o24_25 b_14 b_15 hn_13 e_17 c_18))
        refine lv_aload_n C0.1 C0.2.1 dX5_term_14 rfl (lv_at hl 1 rfl) ?_
        refine tg_X5_kind C0 h kSC_77 q_374 dX5_term_15 (fun v_19 e_20 e_21 e_22 => ?_)
        refine y_c2 (n := 42) C0 (by decide) dX5_term_18 (fun v_23 e_24 => ?_)
        replace HE : FT = g7b_X5_term_0 R7 (xso SC ad ws_8) v_19.toInt x2_7.toInt := HE.trans (by rw [(xg0 e_20 : v_19.toInt = (xso SC ad ws_8) 0 77 4)]; rfl)
        refine y_icmp_ne (tgt := 48) C0 dX5_term_20 (by decide) (fun c_25 => ?_) (fun c_25 => ?_)
        · -- 20
          replace HE : FT = g8_X5_term_0 (xso SC ad ws_8) := HE.trans (if_neg (o24_27 e_24 c_25))
          replace HE : FT = ((xso SC ad ws_8), 0) := HE.trans rfl
          rw [hQ]
          exact y_vret C0 h (Fr.tr u_2 hF_9) (congrArg Prod.fst (HE.symm.trans hFT)) dX5_term_48
        · -- 20
          replace HE : FT = g9_X5_term_0 R7 (xso SC ad ws_8) x2_7.toInt := HE.trans (if_pos (o24_28 e_24 c_25))
          refine lv_aload_n C0.1 C0.2.1 dX5_term_23 rfl (lv_at hl 1 rfl) ?_
          refine y_cv h (y_rV (As := []) (rest := []) C0 hZ h (c_X5_advance l G Z ad _ h.2) k_X5_advance q_616 q_0 q_614 kSC_77 rfl rfl rfl hl.1 rfl rfl (Nat.le_of_ble_eq_true rfl) dX5_term_24 ⟨Nat.le_of_ble_eq_true rfl, Nat.le_of_ble_eq_true rfl⟩ ⟨Nat.le_of_ble_eq_true rfl, Nat.le_of_ble_eq_true rfl⟩) (fun H locs ws_26 h u_27 p_28 => ?_)
          have e_29 := p_28
          replace HE : FT = g10c_X5_term_0 R7 (xso SC ad ws_26) x2_7.toInt := HE.trans (by rw [e_29]; rfl)
          refine lv_aload_n C0.1 C0.2.1 dX5_term_27 rfl (lv_at hl 1 rfl) ?_
          refine lv_iload_n C0.1 C0.2.1 dX5_term_28 rfl (lv_at hl 2 rfl) ?_
          refine y_cv h (y_rV (As := [.int a1]) (rest := []) C0 hZ h (c_X5_atom_0 l G Z ad _ h.2 a1 (o24_118 l1 u1) (o24_119 l1 u1)) k_X5_atom q_824 q_17 q_822 kSC_77 rfl rfl rfl hl.1 rfl rfl (Nat.le_of_ble_eq_true rfl) dX5_term_29 ⟨Nat.le_of_ble_eq_true rfl, Nat.le_of_ble_eq_true rfl⟩ ⟨Nat.le_of_ble_eq_true rfl, Nat.le_of_ble_eq_true rfl⟩) (fun H locs ws_30 h u_31 p_32 => ?_)
          have e_33 := p_32
          replace HE : FT = g11c_X5_term_0 R7 (xso SC ad ws_30) x2_7.toInt := HE.trans (by rw [e_33, (o24_120 l1 u1)]; rfl)
          refine lv_aload_n C0.1 C0.2.1 dX5_term_32 rfl (lv_at hl 1 rfl) ?_
          refine tg_X5_law C0 h kSC_77 q_380 dX5_term_33 (fun i_34 hi_34 ei_34 => ?_)
          refine y_c3 (n := 2002) C0 (by decide) dX5_term_36 (fun v_35 e_36 => ?_)
          refine y_cv h (y_rV (As := [.int v_35]) (rest := []) C0 hZ h (c_X4_add l G Z ad _ h.2 i_34 hi_34 v_35) k_X4_add q_827 q_828 q_826 hi_34 rfl rfl rfl hl.1 rfl rfl (Nat.le_of_ble_eq_true rfl) dX5_term_39 ⟨Nat.le_of_ble_eq_true rfl, Nat.le_of_ble_eq_true rfl⟩ ⟨Nat.le_of_ble_eq_true rfl, Nat.le_of_ble_eq_true rfl⟩) (fun H locs ws_37 h u_38 p_39 => ?_)
          have e_40 := p_39
          replace HE : FT = g12c_X5_term_0 R7 (xso SC ad ws_37) x2_7.toInt := HE.trans (by rw [e_40, e_36, ei_34]; rfl)
          refine y_inc (kp := 0) (n := 1) (fun v_41 => [(2, .int v_41), (0, .ref (ad 77)), (1, .int a1)]) C0 hl rfl (by decide) (by decide) (fun _ => rfl) (o24_29 b_14 b_15 hn_13 e_17 c_18 (le_min x2_7) (le_max x2_7) (le_min v_16) (le_max v_16)) (o24_30 b_14 b_15 hn_13 e_17 c_18 (le_min x2_7) (le_max x2_7) (le_min v_16) (le_max v_16)) dX5_term_42 (fun v_41 ls e_42 hl => ?_)
          refine lv_goto (tgt := 7) C0.1 C0.2.1 dX5_term_45 (by decide) ?_
          exact ih_11 v_41 _ _ _ _ (o24_31 b_14 b_15 hn_13 e_17 c_18 e_42) (o24_32 b_14 b_15 hn_13 e_17 c_18 e_42) (o24_33 b_14 b_15 hn_13 e_17 c_18 e_42) (((show FT = R7 (xso SC ad ws_37) v_41.toInt from HE.trans (by rw [e_42]; rfl)).trans (by rw [hR7]))) h (Fr.tr (Fr.tr (Fr.tr hF_9 (Fr.mono u_27 (by decide))) u_31) (Fr.mono u_38 (by decide))) (lv_sub hl [0, 1, 2] rfl)
  exact lp_10 ((900 - v_5.toInt + 1).toNat) v_5 _ _ _ _ (o24_34 e_6) (o24_35 e_6) (o24_36 e_6) ((show FT = L2_X5_term_0 (Int.toNat (900 - v_5.toInt + 1)) (xso SC ad ws_1) v_5.toInt from HE.trans (by rw [e_6]; rfl))) h Fr.rf (lv_sub hl [0, 1, 2] rfl)
noncomputable def g5_X5_sum_0 (s : XS) : XR := (s, 0)
noncomputable def g12c_X5_sum_0 (R7 : XS → Int → XR) (s : XS) (x2_7 : Int) : XR := R7 s ((x2_7 + 1))
noncomputable def g11c_X5_sum_0 (R7 : XS → Int → XR) (s : XS) (x2_7 : Int) : XR := g12c_X5_sum_0 R7 ((f_X4_add s (Int.toNat (s 3 77 10)) 2000).1) x2_7
noncomputable def g10c_X5_sum_0 (R7 : XS → Int → XR) (s : XS) (x2_7 : Int) : XR := g11c_X5_sum_0 R7 ((f_X5_term_0 s 0).1) x2_7
noncomputable def g8_X5_sum_0 (R7 : XS → Int → XR) (s : XS) (x2_7 : Int) : XR := g10c_X5_sum_0 R7 ((f_X5_advance s).1) x2_7
noncomputable def g14_X5_sum_0 (s : XS) : XR := (s, 0)
noncomputable def g18c_X5_sum_0 (R7 : XS → Int → XR) (s : XS) (x2_7 : Int) : XR := R7 s ((x2_7 + 1))
noncomputable def g17c_X5_sum_0 (R7 : XS → Int → XR) (s : XS) (x2_7 : Int) : XR := g18c_X5_sum_0 R7 ((f_X4_add s (Int.toNat (s 3 77 10)) 2001).1) x2_7
noncomputable def g16c_X5_sum_0 (R7 : XS → Int → XR) (s : XS) (x2_7 : Int) : XR := g17c_X5_sum_0 R7 ((f_X5_term_0 s 0).1) x2_7
noncomputable def g15_X5_sum_0 (R7 : XS → Int → XR) (s : XS) (x2_7 : Int) : XR := g16c_X5_sum_0 R7 ((f_X5_advance s).1) x2_7
noncomputable def g13b_X5_sum_0 (R7 : XS → Int → XR) (s : XS) (v_51 : Int) (x2_7 : Int) : XR := if v_51 = 45 then g15_X5_sum_0 R7 s x2_7 else g14_X5_sum_0 s
noncomputable def g9_X5_sum_0 (R7 : XS → Int → XR) (s : XS) (x2_7 : Int) : XR := g13b_X5_sum_0 R7 s ((s 0 77 4)) x2_7
noncomputable def g7b_X5_sum_0 (R7 : XS → Int → XR) (s : XS) (v_19 : Int) (x2_7 : Int) : XR := if v_19 = 43 then g8_X5_sum_0 R7 s x2_7 else g9_X5_sum_0 R7 s x2_7
noncomputable def g6_X5_sum_0 (R7 : XS → Int → XR) (s : XS) (x2_7 : Int) : XR := g7b_X5_sum_0 R7 s ((s 0 77 4)) x2_7
noncomputable def g4b_X5_sum_0 (R7 : XS → Int → XR) (s : XS) (x2_7 : Int) : XR := if x2_7 < 900 then g6_X5_sum_0 R7 s x2_7 else g5_X5_sum_0 s
noncomputable def g3l_X5_sum_0 (R7 : XS → Int → XR) (s : XS) (x2_7 : Int) : XR := g4b_X5_sum_0 R7 s x2_7
noncomputable def L2_X5_sum_0 (n : Nat) : XS → Int → XR := Nat.rec (motive := fun _ => XS → Int → XR) (fun s _ => (s, 0)) (fun _ R7 => g3l_X5_sum_0 R7) n
noncomputable def g1c_X5_sum_0 (s : XS) : XR := L2_X5_sum_0 (Int.toNat (900 - 0 + 1)) s 0
noncomputable def f_X5_sum_0 (s : XS) (a1 : Int) : XR := g1c_X5_sum_0 ((f_X5_term_0 s a1).1)
set_option maxHeartbeats 4000000 in
set_option maxRecDepth 100000 in
theorem c_X5_sum_0 (l : Launch) (G : GG) (Z : RZ) (ad : Nat → Nat) (ws0 : va_W) (hT : Ty G SC ad ws0) (a1 : Int32) (l1 : 0 ≤ a1.toInt) (u1 : a1.toInt ≤ 0) : Mq l yX5_sum cX5_sum 4 none 26 G Z [.ref (ad 77), .int a1] ws0 (PV G SC ad [2, 3, 16] ws0 (fun u => (xso SC ad u = (f_X5_sum_0 (xso SC ad ws0) a1.toInt).1))) := by
  refine Mq.start (by decide) (Nat.le_of_ble_eq_true rfl) ?_
  intro p e s m below meth c A ls C0 hZ h hl
  have hl : lv_has ls 4 [(0, .ref (ad 77)), (1, .int a1)] := hl
  have h : Wt G SC ad A s s.heap [] ws0 := ⟨h, hT⟩
  obtain ⟨args, hargs⟩ : ∃ z, z = ([.ref (ad 77), .int a1] : List Value).toArray := ⟨_, rfl⟩
  rw [← hargs] at C0 ⊢
  have C0 : Cx p s m args meth c RX5 cX5_sum 4 none := C0
  obtain ⟨Q, hQ⟩ : ∃ z, z = MQ below ((PV G SC ad [2, 3, 16] ws0 (fun u => (xso SC ad u = (f_X5_sum_0 (xso SC ad ws0) a1.toInt).1))) A) args s 0 0 A := ⟨_, rfl⟩
  rw [← hQ]
  obtain ⟨FT, hFT⟩ : ∃ z, z = f_X5_sum_0 (xso SC ad ws0) a1.toInt := ⟨_, rfl⟩
  have HE : FT = f_X5_sum_0 (xso SC ad ws0) a1.toInt := hFT
  refine lv_aload_n C0.1 C0.2.1 dX5_sum_0 rfl (lv_at hl 0 rfl) ?_
  refine lv_iload_n C0.1 C0.2.1 dX5_sum_1 rfl (lv_at hl 1 rfl) ?_
  refine y_cv h (y_rV (As := [.int a1]) (rest := []) C0 hZ h (c_X5_term_0 l G Z ad _ h.2 a1 (o24_118 l1 u1) (o24_119 l1 u1)) k_X5_term q_820 q_16 q_818 kSC_77 rfl rfl rfl hl.1 rfl rfl (Nat.le_of_ble_eq_true rfl) dX5_sum_2 ⟨Nat.le_of_ble_eq_true rfl, Nat.le_of_ble_eq_true rfl⟩ ⟨Nat.le_of_ble_eq_true rfl, Nat.le_of_ble_eq_true rfl⟩) (fun H locs ws_1 h u_2 p_3 => ?_)
  have e_4 := p_3
  replace HE : FT = g1c_X5_sum_0 (xso SC ad ws_1) := HE.trans (by rw [e_4]; rfl)
  refine y_c1 (n := 0) C0 (by decide) dX5_sum_5 (fun v_5 e_6 => ?_)
  refine lv_istore_n (lv' := [(2, .int v_5), (0, .ref (ad 77)), (1, .int a1)]) C0.1 C0.2.1 dX5_sum_6 rfl hl (by decide) rfl (fun ls hl => ?_)
  have lp_10 : ∀ (n_12 : Nat) (x2_7 : Int32) (H : Heap) (locs : List Loc) (ls : Array Slot) (ws_8 : va_W), 900 - x2_7.toInt < (n_12 : Int) → 0 ≤ x2_7.toInt → x2_7.toInt ≤ 900 → (FT = L2_X5_sum_0 n_12 (xso SC ad ws_8) x2_7.toInt) → Wt G SC ad A s H locs ws_8 → Fr SC [2, 3, 16] ws_1 ws_8 → lv_has ls 4 [(2, .int x2_7), (0, .ref (ad 77)), (1, .int a1)] → W p l e (rmd 26 0 0) s m args below meth c H locs 0 0 Q (F0 m 7 ls []) := by
    intro n_12
    induction n_12 with
    | zero => intro x2_7 H locs ls ws_8 hn_13 b_14 b_15 HE h hF_9 hl; exact ((o24_22 b_14 b_15 hn_13)).elim
    | succ n_12 ih_11 =>
      intro x2_7 H locs ls ws_8 hn_13 b_14 b_15 HE h hF_9 hl
      obtain ⟨R7, hR7⟩ : ∃ z, z = L2_X5_sum_0 n_12 := ⟨_, rfl⟩
      replace HE : FT = g3l_X5_sum_0 R7 (xso SC ad ws_8) x2_7.toInt := HE.trans (by rw [hR7]; rfl)
      refine lv_iload_n C0.1 C0.2.1 dX5_sum_7 rfl (lv_at hl 0 rfl) ?_
      refine y_c3 (n := 900) C0 (by decide) dX5_sum_8 (fun v_16 e_17 => ?_)
      replace HE : FT = g4b_X5_sum_0 R7 (xso SC ad ws_8) x2_7.toInt := HE.trans rfl
      refine y_icmp_ge (tgt := 74) C0 dX5_sum_11 (by decide) (fun c_18 => ?_) (fun c_18 => ?_)
      · -- 11
        replace HE : FT = g5_X5_sum_0 (xso SC ad ws_8) := HE.trans (if_neg (o24_24 b_14 b_15 hn_13 e_17 c_18))
        replace HE : FT = ((xso SC ad ws_8), 0) := HE.trans rfl
        rw [hQ]
        exact y_vret C0 h (Fr.tr u_2 hF_9) (congrArg Prod.fst (HE.symm.trans hFT)) dX5_sum_74
      · -- 11
        replace HE : FT = g6_X5_sum_0 R7 (xso SC ad ws_8) x2_7.toInt := HE.trans (if_pos (o24_25 b_14 b_15 hn_13 e_17 c_18))
        refine lv_aload_n C0.1 C0.2.1 dX5_sum_14 rfl (lv_at hl 1 rfl) ?_
        refine tg_X5_kind C0 h kSC_77 q_374 dX5_sum_15 (fun v_19 e_20 e_21 e_22 => ?_)
        refine y_c2 (n := 43) C0 (by decide) dX5_sum_18 (fun v_23 e_24 => ?_)
        replace HE : FT = g7b_X5_sum_0 R7 (xso SC ad ws_8) v_19.toInt x2_7.toInt := HE.trans (by rw [(xg0 e_20 : v_19.toInt = (xso SC ad ws_8) 0 77 4)]; rfl)
        refine y_icmp_eq (tgt := 32) C0 dX5_sum_20 (by decide) (fun c_25 => ?_) (fun c_25 => ?_)
        · -- 20
          replace HE : FT = g8_X5_sum_0 R7 (xso SC ad ws_8) x2_7.toInt := HE.trans (if_pos (o24_38 e_24 c_25))
          refine lv_aload_n C0.1 C0.2.1 dX5_sum_32 rfl (lv_at hl 1 rfl) ?_
          refine tg_X5_kind C0 h kSC_77 q_374 dX5_sum_33 (fun v_26 e_27 e_28 e_29 => ?_)
          have qh_30 : v_26.toInt = v_19.toInt := congrArg Int32.toInt (e_27.symm.trans (Eq.trans rfl e_20))
          refine y_c2 (n := 43) C0 (by decide) dX5_sum_36 (fun v_31 e_32 => ?_)
          refine y_icmp_ne (tgt := 47) C0 dX5_sum_38 (by decide) (fun c_33 => ((o24_40 e_24 c_25 qh_30 e_32 c_33)).elim) (fun c_33 => ?_)
          refine y_c3 (n := 2000) C0 (by decide) dX5_sum_41 (fun v_34 e_35 => ?_)
          refine lv_goto (tgt := 50) C0.1 C0.2.1 dX5_sum_44 (by decide) ?_
          refine lv_istore_n (lv' := [(3, .int v_34), (2, .int x2_7), (0, .ref (ad 77)), (1, .int a1)]) C0.1 C0.2.1 dX5_sum_50 rfl hl (by decide) rfl (fun ls hl => ?_)
          refine lv_aload_n C0.1 C0.2.1 dX5_sum_51 rfl (lv_at hl 2 rfl) ?_
          refine y_cv h (y_rV (As := []) (rest := []) C0 hZ h (c_X5_advance l G Z ad _ h.2) k_X5_advance q_616 q_0 q_614 kSC_77 rfl rfl rfl hl.1 rfl rfl (Nat.le_of_ble_eq_true rfl) dX5_sum_52 ⟨Nat.le_of_ble_eq_true rfl, Nat.le_of_ble_eq_true rfl⟩ ⟨Nat.le_of_ble_eq_true rfl, Nat.le_of_ble_eq_true rfl⟩) (fun H locs ws_36 h u_37 p_38 => ?_)
          have e_39 := p_38
          replace HE : FT = g10c_X5_sum_0 R7 (xso SC ad ws_36) x2_7.toInt := HE.trans (by rw [e_39]; rfl)
          refine lv_aload_n C0.1 C0.2.1 dX5_sum_55 rfl (lv_at hl 2 rfl) ?_
          refine lv_iload_n C0.1 C0.2.1 dX5_sum_56 rfl (lv_at hl 3 rfl) ?_
          refine y_cv h (y_rV (As := [.int a1]) (rest := []) C0 hZ h (c_X5_term_0 l G Z ad _ h.2 a1 (o24_118 l1 u1) (o24_119 l1 u1)) k_X5_term q_820 q_16 q_818 kSC_77 rfl rfl rfl hl.1 rfl rfl (Nat.le_of_ble_eq_true rfl) dX5_sum_57 ⟨Nat.le_of_ble_eq_true rfl, Nat.le_of_ble_eq_true rfl⟩ ⟨Nat.le_of_ble_eq_true rfl, Nat.le_of_ble_eq_true rfl⟩) (fun H locs ws_40 h u_41 p_42 => ?_)
          have e_43 := p_42
          replace HE : FT = g11c_X5_sum_0 R7 (xso SC ad ws_40) x2_7.toInt := HE.trans (by rw [e_43, (o24_120 l1 u1)]; rfl)
          refine lv_aload_n C0.1 C0.2.1 dX5_sum_60 rfl (lv_at hl 2 rfl) ?_
          refine tg_X5_law C0 h kSC_77 q_380 dX5_sum_61 (fun i_44 hi_44 ei_44 => ?_)
          refine lv_iload_n C0.1 C0.2.1 dX5_sum_64 rfl (lv_at hl 0 rfl) ?_
          refine y_cv h (y_rV (As := [.int v_34]) (rest := []) C0 hZ h (c_X4_add l G Z ad _ h.2 i_44 hi_44 v_34) k_X4_add q_827 q_828 q_826 hi_44 rfl rfl rfl hl.1 rfl rfl (Nat.le_of_ble_eq_true rfl) dX5_sum_65 ⟨Nat.le_of_ble_eq_true rfl, Nat.le_of_ble_eq_true rfl⟩ ⟨Nat.le_of_ble_eq_true rfl, Nat.le_of_ble_eq_true rfl⟩) (fun H locs ws_45 h u_46 p_47 => ?_)
          have e_48 := p_47
          replace HE : FT = g12c_X5_sum_0 R7 (xso SC ad ws_45) x2_7.toInt := HE.trans (by rw [e_48, (o24_41 e_35), ei_44]; rfl)
          refine y_inc (kp := 1) (n := 1) (fun v_49 => [(2, .int v_49), (3, .int v_34), (0, .ref (ad 77)), (1, .int a1)]) C0 hl rfl (by decide) (by decide) (fun _ => rfl) (o24_29 b_14 b_15 hn_13 e_17 c_18 (le_min x2_7) (le_max x2_7) (le_min v_16) (le_max v_16)) (o24_30 b_14 b_15 hn_13 e_17 c_18 (le_min x2_7) (le_max x2_7) (le_min v_16) (le_max v_16)) dX5_sum_68 (fun v_49 ls e_50 hl => ?_)
          refine lv_goto (tgt := 7) C0.1 C0.2.1 dX5_sum_71 (by decide) ?_
          exact ih_11 v_49 _ _ _ _ (o24_31 b_14 b_15 hn_13 e_17 c_18 e_50) (o24_32 b_14 b_15 hn_13 e_17 c_18 e_50) (o24_33 b_14 b_15 hn_13 e_17 c_18 e_50) (((show FT = R7 (xso SC ad ws_45) v_49.toInt from HE.trans (by rw [e_50]; rfl)).trans (by rw [hR7]))) h (Fr.tr (Fr.tr (Fr.tr hF_9 (Fr.mono u_37 (by decide))) u_41) (Fr.mono u_46 (by decide))) (lv_sub hl [0, 2, 3] rfl)
        · -- 20
          replace HE : FT = g9_X5_sum_0 R7 (xso SC ad ws_8) x2_7.toInt := HE.trans (if_neg (o24_39 e_24 c_25))
          refine lv_aload_n C0.1 C0.2.1 dX5_sum_23 rfl (lv_at hl 1 rfl) ?_
          refine tg_X5_kind C0 h kSC_77 q_374 dX5_sum_24 (fun v_51 e_52 e_53 e_54 => ?_)
          have qh_55 : v_51.toInt = v_19.toInt := congrArg Int32.toInt (e_52.symm.trans (Eq.trans rfl e_20))
          refine y_c2 (n := 45) C0 (by decide) dX5_sum_27 (fun v_56 e_57 => ?_)
          replace HE : FT = g13b_X5_sum_0 R7 (xso SC ad ws_8) v_51.toInt x2_7.toInt := HE.trans (by rw [(xg0 e_52 : v_51.toInt = (xso SC ad ws_8) 0 77 4)]; rfl)
          refine y_icmp_ne (tgt := 74) C0 dX5_sum_29 (by decide) (fun c_58 => ?_) (fun c_58 => ?_)
          · -- 29
            replace HE : FT = g14_X5_sum_0 (xso SC ad ws_8) := HE.trans (if_neg (o24_43 e_24 c_25 qh_55 e_57 c_58))
            replace HE : FT = ((xso SC ad ws_8), 0) := HE.trans rfl
            rw [hQ]
            exact y_vret C0 h (Fr.tr u_2 hF_9) (congrArg Prod.fst (HE.symm.trans hFT)) dX5_sum_74
          · -- 29
            replace HE : FT = g15_X5_sum_0 R7 (xso SC ad ws_8) x2_7.toInt := HE.trans (if_pos (o24_44 e_24 c_25 qh_55 e_57 c_58))
            refine lv_aload_n C0.1 C0.2.1 dX5_sum_32 rfl (lv_at hl 1 rfl) ?_
            refine tg_X5_kind C0 h kSC_77 q_374 dX5_sum_33 (fun v_59 e_60 e_61 e_62 => ?_)
            have qh_63 : v_59.toInt = v_19.toInt := congrArg Int32.toInt (e_60.symm.trans (Eq.trans rfl e_20))
            refine y_c2 (n := 43) C0 (by decide) dX5_sum_36 (fun v_64 e_65 => ?_)
            refine y_icmp_ne (tgt := 47) C0 dX5_sum_38 (by decide) (fun c_66 => ?_) (fun c_66 => ((o24_45 e_24 c_25 qh_55 e_57 c_58 qh_63 e_65 c_66)).elim)
            refine y_c3 (n := 2001) C0 (by decide) dX5_sum_47 (fun v_67 e_68 => ?_)
            refine lv_istore_n (lv' := [(3, .int v_67), (2, .int x2_7), (0, .ref (ad 77)), (1, .int a1)]) C0.1 C0.2.1 dX5_sum_50 rfl hl (by decide) rfl (fun ls hl => ?_)
            refine lv_aload_n C0.1 C0.2.1 dX5_sum_51 rfl (lv_at hl 2 rfl) ?_
            refine y_cv h (y_rV (As := []) (rest := []) C0 hZ h (c_X5_advance l G Z ad _ h.2) k_X5_advance q_616 q_0 q_614 kSC_77 rfl rfl rfl hl.1 rfl rfl (Nat.le_of_ble_eq_true rfl) dX5_sum_52 ⟨Nat.le_of_ble_eq_true rfl, Nat.le_of_ble_eq_true rfl⟩ ⟨Nat.le_of_ble_eq_true rfl, Nat.le_of_ble_eq_true rfl⟩) (fun H locs ws_69 h u_70 p_71 => ?_)
            have e_72 := p_71
            replace HE : FT = g16c_X5_sum_0 R7 (xso SC ad ws_69) x2_7.toInt := HE.trans (by rw [e_72]; rfl)
            refine lv_aload_n C0.1 C0.2.1 dX5_sum_55 rfl (lv_at hl 2 rfl) ?_
            refine lv_iload_n C0.1 C0.2.1 dX5_sum_56 rfl (lv_at hl 3 rfl) ?_
            refine y_cv h (y_rV (As := [.int a1]) (rest := []) C0 hZ h (c_X5_term_0 l G Z ad _ h.2 a1 (o24_118 l1 u1) (o24_119 l1 u1)) k_X5_term q_820 q_16 q_818 kSC_77 rfl rfl rfl hl.1 rfl rfl (Nat.le_of_ble_eq_true rfl) dX5_sum_57 ⟨Nat.le_of_ble_eq_true rfl, Nat.le_of_ble_eq_true rfl⟩ ⟨Nat.le_of_ble_eq_true rfl, Nat.le_of_ble_eq_true rfl⟩) (fun H locs ws_73 h u_74 p_75 => ?_)
            have e_76 := p_75
            replace HE : FT = g17c_X5_sum_0 R7 (xso SC ad ws_73) x2_7.toInt := HE.trans (by rw [e_76, (o24_120 l1 u1)]; rfl)
            refine lv_aload_n C0.1 C0.2.1 dX5_sum_60 rfl (lv_at hl 2 rfl) ?_
            refine tg_X5_law C0 h kSC_77 q_380 dX5_sum_61 (fun i_77 hi_77 ei_77 => ?_)
            refine lv_iload_n C0.1 C0.2.1 dX5_sum_64 rfl (lv_at hl 0 rfl) ?_
            refine y_cv h (y_rV (As := [.int v_67]) (rest := []) C0 hZ h (c_X4_add l G Z ad _ h.2 i_77 hi_77 v_67) k_X4_add q_827 q_828 q_826 hi_77 rfl rfl rfl hl.1 rfl rfl (Nat.le_of_ble_eq_true rfl) dX5_sum_65 ⟨Nat.le_of_ble_eq_true rfl, Nat.le_of_ble_eq_true rfl⟩ ⟨Nat.le_of_ble_eq_true rfl, Nat.le_of_ble_eq_true rfl⟩) (fun H locs ws_78 h u_79 p_80 => ?_)
            have e_81 := p_80
            replace HE : FT = g18c_X5_sum_0 R7 (xso SC ad ws_78) x2_7.toInt := HE.trans (by rw [e_81, (o24_46 e_68), ei_77]; rfl)
            refine y_inc (kp := 1) (n := 1) (fun v_82 => [(2, .int v_82), (3, .int v_67), (0, .ref (ad 77)), (1, .int a1)]) C0 hl rfl (by decide) (by decide) (fun _ => rfl) (o24_29 b_14 b_15 hn_13 e_17 c_18 (le_min x2_7) (le_max x2_7) (le_min v_16) (le_max v_16)) (o24_30 b_14 b_15 hn_13 e_17 c_18 (le_min x2_7) (le_max x2_7) (le_min v_16) (le_max v_16)) dX5_sum_68 (fun v_82 ls e_83 hl => ?_)
            refine lv_goto (tgt := 7) C0.1 C0.2.1 dX5_sum_71 (by decide) ?_
            exact ih_11 v_82 _ _ _ _ (o24_31 b_14 b_15 hn_13 e_17 c_18 e_83) (o24_32 b_14 b_15 hn_13 e_17 c_18 e_83) (o24_33 b_14 b_15 hn_13 e_17 c_18 e_83) (((show FT = R7 (xso SC ad ws_78) v_82.toInt from HE.trans (by rw [e_83]; rfl)).trans (by rw [hR7]))) h (Fr.tr (Fr.tr (Fr.tr hF_9 (Fr.mono u_70 (by decide))) u_74) (Fr.mono u_79 (by decide))) (lv_sub hl [0, 2, 3] rfl)
  exact lp_10 ((900 - v_5.toInt + 1).toNat) v_5 _ _ _ _ (o24_34 e_6) (o24_35 e_6) (o24_36 e_6) ((show FT = L2_X5_sum_0 (Int.toNat (900 - v_5.toInt + 1)) (xso SC ad ws_1) v_5.toInt from HE.trans (by rw [e_6]; rfl))) h Fr.rf (lv_sub hl [0, 1, 2] rfl)
noncomputable def g18c_X5_unit_0 (s : XS) : XR := (s, 0)
noncomputable def g16_X5_unit_0 (s : XS) : XR := g18c_X5_unit_0 ((f_X5_fail s 2).1)
noncomputable def g21c_X5_unit_0 (s : XS) : XR := (s, 0)
noncomputable def g20c_X5_unit_0 (s : XS) : XR := g21c_X5_unit_0 ((f_X4_add s (Int.toNat (s 3 77 10)) 2005).1)
noncomputable def g19c_X5_unit_0 (s : XS) : XR := g20c_X5_unit_0 ((f_X5_sum_0 s 0).1)
noncomputable def g17_X5_unit_0 (s : XS) : XR := g19c_X5_unit_0 ((f_X5_advance s).1)
noncomputable def g15b_X5_unit_0 (s : XS) (v_36 : Int) : XR := if v_36 = 62 then g17_X5_unit_0 s else g16_X5_unit_0 s
noncomputable def g13_X5_unit_0 (s : XS) : XR := g15b_X5_unit_0 s ((s 0 77 4))
noncomputable def g24c_X5_unit_0 (s : XS) : XR := (s, 0)
noncomputable def g23c_X5_unit_0 (s : XS) : XR := g24c_X5_unit_0 ((f_X4_add s (Int.toNat (s 3 77 10)) 2004).1)
noncomputable def g22c_X5_unit_0 (s : XS) : XR := g23c_X5_unit_0 ((f_X5_sum_0 s 0).1)
noncomputable def g14_X5_unit_0 (s : XS) : XR := g22c_X5_unit_0 ((f_X5_advance s).1)
noncomputable def g12b_X5_unit_0 (s : XS) (v_28 : Int) : XR := if v_28 = 60 then g14_X5_unit_0 s else g13_X5_unit_0 s
noncomputable def g10_X5_unit_0 (s : XS) : XR := g12b_X5_unit_0 s ((s 0 77 4))
noncomputable def g27c_X5_unit_0 (s : XS) : XR := (s, 0)
noncomputable def g26c_X5_unit_0 (s : XS) : XR := g27c_X5_unit_0 ((f_X4_add s (Int.toNat (s 3 77 10)) 2003).1)
noncomputable def g25c_X5_unit_0 (s : XS) : XR := g26c_X5_unit_0 ((f_X5_sum_0 s 0).1)
noncomputable def g11_X5_unit_0 (s : XS) : XR := g25c_X5_unit_0 ((f_X5_advance s).1)
noncomputable def g9b_X5_unit_0 (s : XS) (v_21 : Int) : XR := if v_21 = 61 then g11_X5_unit_0 s else g10_X5_unit_0 s
noncomputable def g8c_X5_unit_0 (s : XS) : XR := g9b_X5_unit_0 s ((s 0 77 4))
noncomputable def g6_X5_unit_0 (s : XS) : XR := g8c_X5_unit_0 ((f_X5_sum_0 s 0).1)
noncomputable def g31c_X5_unit_0 (s : XS) : XR := (s, 0)
noncomputable def g30c_X5_unit_0 (s : XS) : XR := g31c_X5_unit_0 ((f_X5_sign s 93).1)
noncomputable def g29c_X5_unit_0 (s : XS) : XR := g30c_X5_unit_0 ((f_X5_truth_1 s (0 + 1)).1)
noncomputable def g28c_X5_unit_0 (s : XS) : XR := g29c_X5_unit_0 ((f_X5_advance s).1)
noncomputable def g7_X5_unit_0 (s : XS) : XR := g28c_X5_unit_0 ((f_X5_tooDeep_0 s 0).1)
noncomputable def g5b_X5_unit_0 (s : XS) (v_10 : Int) : XR := if v_10 = 91 then g7_X5_unit_0 s else g6_X5_unit_0 s
noncomputable def g3_X5_unit_0 (s : XS) : XR := g5b_X5_unit_0 s ((s 0 77 4))
noncomputable def g36c_X5_unit_0 (s : XS) : XR := (s, 0)
noncomputable def g35c_X5_unit_0 (s : XS) : XR := g36c_X5_unit_0 ((f_X4_add s (Int.toNat (s 3 77 10)) 2003).1)
noncomputable def g34c_X5_unit_0 (s : XS) : XR := g35c_X5_unit_0 ((f_X4_add s (Int.toNat (s 3 77 10)) 0).1)
noncomputable def g33c_X5_unit_0 (s : XS) : XR := g34c_X5_unit_0 ((f_X5_unit_1 s (0 + 1)).1)
noncomputable def g32c_X5_unit_0 (s : XS) : XR := g33c_X5_unit_0 ((f_X5_advance s).1)
noncomputable def g4_X5_unit_0 (s : XS) : XR := g32c_X5_unit_0 ((f_X5_tooDeep_0 s 0).1)
noncomputable def g2b_X5_unit_0 (s : XS) (r_4 : Int) : XR := if r_4 = 0 then g3_X5_unit_0 s else g4_X5_unit_0 s
noncomputable def g1c_X5_unit_0 (s : XS) (r_4 : Int) : XR := g2b_X5_unit_0 s r_4
noncomputable def f_X5_unit_0 (s : XS) (a1 : Int) : XR := g1c_X5_unit_0 ((f_X5_isWord s 19).1) (((f_X5_isWord s 19).2))
set_option maxHeartbeats 4000000 in
set_option maxRecDepth 100000 in
theorem c_X5_unit_0 (l : Launch) (G : GG) (Z : RZ) (ad : Nat → Nat) (ws0 : va_W) (hT : Ty G SC ad ws0) (a1 : Int32) (l1 : 0 ≤ a1.toInt) (u1 : a1.toInt ≤ 0) : Mq l yX5_unit cX5_unit 3 none 27 G Z [.ref (ad 77), .int a1] ws0 (PV G SC ad [2, 3, 16] ws0 (fun u => (xso SC ad u = (f_X5_unit_0 (xso SC ad ws0) a1.toInt).1))) := by
  refine Mq.start (by decide) (Nat.le_of_ble_eq_true rfl) ?_
  intro p e s m below meth c A ls C0 hZ h hl
  have hl : lv_has ls 3 [(0, .ref (ad 77)), (1, .int a1)] := hl
  have h : Wt G SC ad A s s.heap [] ws0 := ⟨h, hT⟩
  obtain ⟨args, hargs⟩ : ∃ z, z = ([.ref (ad 77), .int a1] : List Value).toArray := ⟨_, rfl⟩
  rw [← hargs] at C0 ⊢
  have C0 : Cx p s m args meth c RX5 cX5_unit 3 none := C0
  obtain ⟨Q, hQ⟩ : ∃ z, z = MQ below ((PV G SC ad [2, 3, 16] ws0 (fun u => (xso SC ad u = (f_X5_unit_0 (xso SC ad ws0) a1.toInt).1))) A) args s 0 0 A := ⟨_, rfl⟩
  rw [← hQ]
  obtain ⟨FT, hFT⟩ : ∃ z, z = f_X5_unit_0 (xso SC ad ws0) a1.toInt := ⟨_, rfl⟩
  have HE : FT = f_X5_unit_0 (xso SC ad ws0) a1.toInt := hFT
  refine lv_aload_n C0.1 C0.2.1 dX5_unit_0 rfl (lv_at hl 0 rfl) ?_
  refine va_ldcS C0.1 C0.2.1 C0.2.2.2.1 (sr_19 hZ) dX5_unit_1 ?_
  refine y_ci h (y_rV (As := [.ref (Z.2.1 19)]) (rest := []) C0 hZ h (c_X5_isWord l G Z ad _ h.2 19 (by decide)) k_X5_isWord q_724 q_5 q_722 kSC_77 rfl rfl rfl hl.1 rfl rfl (Nat.le_of_ble_eq_true rfl) dX5_unit_3 ⟨Nat.le_of_ble_eq_true rfl, Nat.le_of_ble_eq_true rfl⟩ ⟨Nat.le_of_ble_eq_true rfl, Nat.le_of_ble_eq_true rfl⟩) (fun r_4 H locs ws_1 h u_2 p_3 => ?_)
  obtain ⟨e_5, e_6, e_7, e_8⟩ := p_3
  replace HE : FT = g1c_X5_unit_0 (xso SC ad ws_1) r_4.toInt := HE.trans (by rw [e_5, e_6]; rfl)
  replace HE : FT = g2b_X5_unit_0 (xso SC ad ws_1) r_4.toInt := HE.trans rfl
  refine y_if_eq (tgt := 49) C0 dX5_unit_6 (by decide) (fun c_9 => ?_) (fun c_9 => ?_)
  · -- 6
    replace HE : FT = g3_X5_unit_0 (xso SC ad ws_1) := HE.trans (if_pos c_9)
    refine lv_aload_n C0.1 C0.2.1 dX5_unit_49 rfl (lv_at hl 0 rfl) ?_
    refine tg_X5_kind C0 h kSC_77 q_374 dX5_unit_50 (fun v_10 e_11 e_12 e_13 => ?_)
    refine y_c2 (n := 91) C0 (by decide) dX5_unit_53 (fun v_14 e_15 => ?_)
    replace HE : FT = g5b_X5_unit_0 (xso SC ad ws_1) v_10.toInt := HE.trans (by rw [(xg0 e_11 : v_10.toInt = (xso SC ad ws_1) 0 77 4)]; rfl)
    refine y_icmp_ne (tgt := 86) C0 dX5_unit_55 (by decide) (fun c_16 => ?_) (fun c_16 => ?_)
    · -- 55
      replace HE : FT = g6_X5_unit_0 (xso SC ad ws_1) := HE.trans (if_neg (o24_48 e_15 c_16))
      refine lv_aload_n C0.1 C0.2.1 dX5_unit_86 rfl (lv_at hl 0 rfl) ?_
      refine lv_iload_n C0.1 C0.2.1 dX5_unit_87 rfl (lv_at hl 1 rfl) ?_
      refine y_cv h (y_rV (As := [.int a1]) (rest := []) C0 hZ h (c_X5_sum_0 l G Z ad _ h.2 a1 (o24_118 l1 u1) (o24_119 l1 u1)) k_X5_sum q_816 q_15 q_814 kSC_77 rfl rfl rfl hl.1 rfl rfl (Nat.le_of_ble_eq_true rfl) dX5_unit_88 ⟨Nat.le_of_ble_eq_true rfl, Nat.le_of_ble_eq_true rfl⟩ ⟨Nat.le_of_ble_eq_true rfl, Nat.le_of_ble_eq_true rfl⟩) (fun H locs ws_17 h u_18 p_19 => ?_)
      have e_20 := p_19
      replace HE : FT = g8c_X5_unit_0 (xso SC ad ws_17) := HE.trans (by rw [e_20, (o24_120 l1 u1)]; rfl)
      refine lv_aload_n C0.1 C0.2.1 dX5_unit_91 rfl (lv_at hl 0 rfl) ?_
      refine tg_X5_kind C0 h kSC_77 q_374 dX5_unit_92 (fun v_21 e_22 e_23 e_24 => ?_)
      refine y_c2 (n := 61) C0 (by decide) dX5_unit_95 (fun v_25 e_26 => ?_)
      replace HE : FT = g9b_X5_unit_0 (xso SC ad ws_17) v_21.toInt := HE.trans (by rw [(xg0 e_22 : v_21.toInt = (xso SC ad ws_17) 0 77 4)]; rfl)
      refine y_icmp_ne (tgt := 106) C0 dX5_unit_97 (by decide) (fun c_27 => ?_) (fun c_27 => ?_)
      · -- 97
        replace HE : FT = g10_X5_unit_0 (xso SC ad ws_17) := HE.trans (if_neg (o24_51 e_26 c_27))
        refine lv_aload_n C0.1 C0.2.1 dX5_unit_106 rfl (lv_at hl 0 rfl) ?_
        refine tg_X5_kind C0 h kSC_77 q_374 dX5_unit_107 (fun v_28 e_29 e_30 e_31 => ?_)
        have qh_32 : v_28.toInt = v_21.toInt := congrArg Int32.toInt (e_29.symm.trans (Eq.trans rfl e_22))
        refine y_c2 (n := 60) C0 (by decide) dX5_unit_110 (fun v_33 e_34 => ?_)
        replace HE : FT = g12b_X5_unit_0 (xso SC ad ws_17) v_28.toInt := HE.trans (by rw [(xg0 e_29 : v_28.toInt = (xso SC ad ws_17) 0 77 4)]; rfl)
        refine y_icmp_ne (tgt := 121) C0 dX5_unit_112 (by decide) (fun c_35 => ?_) (fun c_35 => ?_)
        · -- 112
          replace HE : FT = g13_X5_unit_0 (xso SC ad ws_17) := HE.trans (if_neg (o24_54 e_26 c_27 qh_32 e_34 c_35))
          refine lv_aload_n C0.1 C0.2.1 dX5_unit_121 rfl (lv_at hl 0 rfl) ?_
          refine tg_X5_kind C0 h kSC_77 q_374 dX5_unit_122 (fun v_36 e_37 e_38 e_39 => ?_)
          have qh_40 : v_36.toInt = v_21.toInt := congrArg Int32.toInt (e_37.symm.trans (Eq.trans rfl e_22))
          refine y_c2 (n := 62) C0 (by decide) dX5_unit_125 (fun v_41 e_42 => ?_)
          replace HE : FT = g15b_X5_unit_0 (xso SC ad ws_17) v_36.toInt := HE.trans (by rw [(xg0 e_37 : v_36.toInt = (xso SC ad ws_17) 0 77 4)]; rfl)
          refine y_icmp_ne (tgt := 136) C0 dX5_unit_127 (by decide) (fun c_43 => ?_) (fun c_43 => ?_)
          · -- 127
            replace HE : FT = g16_X5_unit_0 (xso SC ad ws_17) := HE.trans (if_neg (o24_57 e_26 c_27 qh_32 e_34 c_35 qh_40 e_42 c_43))
            refine y_c1 (n := (-1)) C0 (by decide) dX5_unit_136 (fun v_44 e_45 => ?_)
            refine lv_istore_n (lv' := [(2, .int v_44), (0, .ref (ad 77)), (1, .int a1)]) C0.1 C0.2.1 dX5_unit_137 rfl hl (by decide) rfl (fun ls hl => ?_)
            refine lv_iload_n C0.1 C0.2.1 dX5_unit_138 rfl (lv_at hl 0 rfl) ?_
            refine y_if_ge (tgt := 148) C0 dX5_unit_139 (by decide) (fun c_46 => ((o24_11 e_45 c_46)).elim) (fun c_46 => ?_)
            refine lv_aload_n C0.1 C0.2.1 dX5_unit_142 rfl (lv_at hl 1 rfl) ?_
            refine y_c1 (n := 2) C0 (by decide) dX5_unit_143 (fun v_47 e_48 => ?_)
            refine y_cv h (y_rV (As := [.int v_47]) (rest := []) C0 hZ h (c_X5_fail l G Z ad _ h.2 v_47) k_X5_fail q_628 q_3 q_626 kSC_77 rfl rfl rfl hl.1 rfl rfl (Nat.le_of_ble_eq_true rfl) dX5_unit_144 ⟨Nat.le_of_ble_eq_true rfl, Nat.le_of_ble_eq_true rfl⟩ ⟨Nat.le_of_ble_eq_true rfl, Nat.le_of_ble_eq_true rfl⟩) (fun H locs ws_49 h u_50 p_51 => ?_)
            have e_52 := p_51
            replace HE : FT = g18c_X5_unit_0 (xso SC ad ws_49) := HE.trans (by rw [e_52, e_48]; rfl)
            replace HE : FT = ((xso SC ad ws_49), 0) := HE.trans rfl
            rw [hQ]
            exact y_vret C0 h (Fr.tr (Fr.tr (Fr.mono u_2 (by decide)) u_18) (Fr.mono u_50 (by decide))) (congrArg Prod.fst (HE.symm.trans hFT)) dX5_unit_147
          · -- 127
            replace HE : FT = g17_X5_unit_0 (xso SC ad ws_17) := HE.trans (if_pos (o24_58 e_26 c_27 qh_32 e_34 c_35 qh_40 e_42 c_43))
            refine y_c3 (n := 2005) C0 (by decide) dX5_unit_130 (fun v_53 e_54 => ?_)
            refine lv_goto (tgt := 137) C0.1 C0.2.1 dX5_unit_133 (by decide) ?_
            refine lv_istore_n (lv' := [(2, .int v_53), (0, .ref (ad 77)), (1, .int a1)]) C0.1 C0.2.1 dX5_unit_137 rfl hl (by decide) rfl (fun ls hl => ?_)
            refine lv_iload_n C0.1 C0.2.1 dX5_unit_138 rfl (lv_at hl 0 rfl) ?_
            refine y_if_ge (tgt := 148) C0 dX5_unit_139 (by decide) (fun c_55 => ?_) (fun c_55 => ((o24_59 e_54 c_55)).elim)
            refine lv_aload_n C0.1 C0.2.1 dX5_unit_148 rfl (lv_at hl 1 rfl) ?_
            refine y_cv h (y_rV (As := []) (rest := []) C0 hZ h (c_X5_advance l G Z ad _ h.2) k_X5_advance q_616 q_0 q_614 kSC_77 rfl rfl rfl hl.1 rfl rfl (Nat.le_of_ble_eq_true rfl) dX5_unit_149 ⟨Nat.le_of_ble_eq_true rfl, Nat.le_of_ble_eq_true rfl⟩ ⟨Nat.le_of_ble_eq_true rfl, Nat.le_of_ble_eq_true rfl⟩) (fun H locs ws_56 h u_57 p_58 => ?_)
            have e_59 := p_58
            replace HE : FT = g19c_X5_unit_0 (xso SC ad ws_56) := HE.trans (by rw [e_59]; rfl)
            refine lv_aload_n C0.1 C0.2.1 dX5_unit_152 rfl (lv_at hl 1 rfl) ?_
            refine lv_iload_n C0.1 C0.2.1 dX5_unit_153 rfl (lv_at hl 2 rfl) ?_
            refine y_cv h (y_rV (As := [.int a1]) (rest := []) C0 hZ h (c_X5_sum_0 l G Z ad _ h.2 a1 (o24_118 l1 u1) (o24_119 l1 u1)) k_X5_sum q_816 q_15 q_814 kSC_77 rfl rfl rfl hl.1 rfl rfl (Nat.le_of_ble_eq_true rfl) dX5_unit_154 ⟨Nat.le_of_ble_eq_true rfl, Nat.le_of_ble_eq_true rfl⟩ ⟨Nat.le_of_ble_eq_true rfl, Nat.le_of_ble_eq_true rfl⟩) (fun H locs ws_60 h u_61 p_62 => ?_)
            have e_63 := p_62
            replace HE : FT = g20c_X5_unit_0 (xso SC ad ws_60) := HE.trans (by rw [e_63, (o24_120 l1 u1)]; rfl)
            refine lv_aload_n C0.1 C0.2.1 dX5_unit_157 rfl (lv_at hl 1 rfl) ?_
            refine tg_X5_law C0 h kSC_77 q_380 dX5_unit_158 (fun i_64 hi_64 ei_64 => ?_)
            refine lv_iload_n C0.1 C0.2.1 dX5_unit_161 rfl (lv_at hl 0 rfl) ?_
            refine y_cv h (y_rV (As := [.int v_53]) (rest := []) C0 hZ h (c_X4_add l G Z ad _ h.2 i_64 hi_64 v_53) k_X4_add q_827 q_828 q_826 hi_64 rfl rfl rfl hl.1 rfl rfl (Nat.le_of_ble_eq_true rfl) dX5_unit_162 ⟨Nat.le_of_ble_eq_true rfl, Nat.le_of_ble_eq_true rfl⟩ ⟨Nat.le_of_ble_eq_true rfl, Nat.le_of_ble_eq_true rfl⟩) (fun H locs ws_65 h u_66 p_67 => ?_)
            have e_68 := p_67
            replace HE : FT = g21c_X5_unit_0 (xso SC ad ws_65) := HE.trans (by rw [e_68, (o24_60 e_54 c_55), ei_64]; rfl)
            replace HE : FT = ((xso SC ad ws_65), 0) := HE.trans rfl
            rw [hQ]
            exact y_vret C0 h (Fr.tr (Fr.tr (Fr.tr (Fr.tr (Fr.mono u_2 (by decide)) u_18) (Fr.mono u_57 (by decide))) u_61) (Fr.mono u_66 (by decide))) (congrArg Prod.fst (HE.symm.trans hFT)) dX5_unit_165
        · -- 112
          replace HE : FT = g14_X5_unit_0 (xso SC ad ws_17) := HE.trans (if_pos (o24_55 e_26 c_27 qh_32 e_34 c_35))
          refine y_c3 (n := 2004) C0 (by decide) dX5_unit_115 (fun v_69 e_70 => ?_)
          refine lv_goto (tgt := 137) C0.1 C0.2.1 dX5_unit_118 (by decide) ?_
          refine lv_istore_n (lv' := [(2, .int v_69), (0, .ref (ad 77)), (1, .int a1)]) C0.1 C0.2.1 dX5_unit_137 rfl hl (by decide) rfl (fun ls hl => ?_)
          refine lv_iload_n C0.1 C0.2.1 dX5_unit_138 rfl (lv_at hl 0 rfl) ?_
          refine y_if_ge (tgt := 148) C0 dX5_unit_139 (by decide) (fun c_71 => ?_) (fun c_71 => ((o24_61 e_70 c_71)).elim)
          refine lv_aload_n C0.1 C0.2.1 dX5_unit_148 rfl (lv_at hl 1 rfl) ?_
          refine y_cv h (y_rV (As := []) (rest := []) C0 hZ h (c_X5_advance l G Z ad _ h.2) k_X5_advance q_616 q_0 q_614 kSC_77 rfl rfl rfl hl.1 rfl rfl (Nat.le_of_ble_eq_true rfl) dX5_unit_149 ⟨Nat.le_of_ble_eq_true rfl, Nat.le_of_ble_eq_true rfl⟩ ⟨Nat.le_of_ble_eq_true rfl, Nat.le_of_ble_eq_true rfl⟩) (fun H locs ws_72 h u_73 p_74 => ?_)
          have e_75 := p_74
          replace HE : FT = g22c_X5_unit_0 (xso SC ad ws_72) := HE.trans (by rw [e_75]; rfl)
          refine lv_aload_n C0.1 C0.2.1 dX5_unit_152 rfl (lv_at hl 1 rfl) ?_
          refine lv_iload_n C0.1 C0.2.1 dX5_unit_153 rfl (lv_at hl 2 rfl) ?_
          refine y_cv h (y_rV (As := [.int a1]) (rest := []) C0 hZ h (c_X5_sum_0 l G Z ad _ h.2 a1 (o24_118 l1 u1) (o24_119 l1 u1)) k_X5_sum q_816 q_15 q_814 kSC_77 rfl rfl rfl hl.1 rfl rfl (Nat.le_of_ble_eq_true rfl) dX5_unit_154 ⟨Nat.le_of_ble_eq_true rfl, Nat.le_of_ble_eq_true rfl⟩ ⟨Nat.le_of_ble_eq_true rfl, Nat.le_of_ble_eq_true rfl⟩) (fun H locs ws_76 h u_77 p_78 => ?_)
          have e_79 := p_78
          replace HE : FT = g23c_X5_unit_0 (xso SC ad ws_76) := HE.trans (by rw [e_79, (o24_120 l1 u1)]; rfl)
          refine lv_aload_n C0.1 C0.2.1 dX5_unit_157 rfl (lv_at hl 1 rfl) ?_
          refine tg_X5_law C0 h kSC_77 q_380 dX5_unit_158 (fun i_80 hi_80 ei_80 => ?_)
          refine lv_iload_n C0.1 C0.2.1 dX5_unit_161 rfl (lv_at hl 0 rfl) ?_
          refine y_cv h (y_rV (As := [.int v_69]) (rest := []) C0 hZ h (c_X4_add l G Z ad _ h.2 i_80 hi_80 v_69) k_X4_add q_827 q_828 q_826 hi_80 rfl rfl rfl hl.1 rfl rfl (Nat.le_of_ble_eq_true rfl) dX5_unit_162 ⟨Nat.le_of_ble_eq_true rfl, Nat.le_of_ble_eq_true rfl⟩ ⟨Nat.le_of_ble_eq_true rfl, Nat.le_of_ble_eq_true rfl⟩) (fun H locs ws_81 h u_82 p_83 => ?_)
          have e_84 := p_83
          replace HE : FT = g24c_X5_unit_0 (xso SC ad ws_81) := HE.trans (by rw [e_84, (o24_62 e_70 c_71), ei_80]; rfl)
          replace HE : FT = ((xso SC ad ws_81), 0) := HE.trans rfl
          rw [hQ]
          exact y_vret C0 h (Fr.tr (Fr.tr (Fr.tr (Fr.tr (Fr.mono u_2 (by decide)) u_18) (Fr.mono u_73 (by decide))) u_77) (Fr.mono u_82 (by decide))) (congrArg Prod.fst (HE.symm.trans hFT)) dX5_unit_165
      · -- 97
        replace HE : FT = g11_X5_unit_0 (xso SC ad ws_17) := HE.trans (if_pos (o24_52 e_26 c_27))
        refine y_c3 (n := 2003) C0 (by decide) dX5_unit_100 (fun v_85 e_86 => ?_)
        refine lv_goto (tgt := 137) C0.1 C0.2.1 dX5_unit_103 (by decide) ?_
        refine lv_istore_n (lv' := [(2, .int v_85), (0, .ref (ad 77)), (1, .int a1)]) C0.1 C0.2.1 dX5_unit_137 rfl hl (by decide) rfl (fun ls hl => ?_)
        refine lv_iload_n C0.1 C0.2.1 dX5_unit_138 rfl (lv_at hl 0 rfl) ?_
        refine y_if_ge (tgt := 148) C0 dX5_unit_139 (by decide) (fun c_87 => ?_) (fun c_87 => ((o24_63 e_86 c_87)).elim)
        refine lv_aload_n C0.1 C0.2.1 dX5_unit_148 rfl (lv_at hl 1 rfl) ?_
        refine y_cv h (y_rV (As := []) (rest := []) C0 hZ h (c_X5_advance l G Z ad _ h.2) k_X5_advance q_616 q_0 q_614 kSC_77 rfl rfl rfl hl.1 rfl rfl (Nat.le_of_ble_eq_true rfl) dX5_unit_149 ⟨Nat.le_of_ble_eq_true rfl, Nat.le_of_ble_eq_true rfl⟩ ⟨Nat.le_of_ble_eq_true rfl, Nat.le_of_ble_eq_true rfl⟩) (fun H locs ws_88 h u_89 p_90 => ?_)
        have e_91 := p_90
        replace HE : FT = g25c_X5_unit_0 (xso SC ad ws_88) := HE.trans (by rw [e_91]; rfl)
        refine lv_aload_n C0.1 C0.2.1 dX5_unit_152 rfl (lv_at hl 1 rfl) ?_
        refine lv_iload_n C0.1 C0.2.1 dX5_unit_153 rfl (lv_at hl 2 rfl) ?_
        refine y_cv h (y_rV (As := [.int a1]) (rest := []) C0 hZ h (c_X5_sum_0 l G Z ad _ h.2 a1 (o24_118 l1 u1) (o24_119 l1 u1)) k_X5_sum q_816 q_15 q_814 kSC_77 rfl rfl rfl hl.1 rfl rfl (Nat.le_of_ble_eq_true rfl) dX5_unit_154 ⟨Nat.le_of_ble_eq_true rfl, Nat.le_of_ble_eq_true rfl⟩ ⟨Nat.le_of_ble_eq_true rfl, Nat.le_of_ble_eq_true rfl⟩) (fun H locs ws_92 h u_93 p_94 => ?_)
        have e_95 := p_94
        replace HE : FT = g26c_X5_unit_0 (xso SC ad ws_92) := HE.trans (by rw [e_95, (o24_120 l1 u1)]; rfl)
        refine lv_aload_n C0.1 C0.2.1 dX5_unit_157 rfl (lv_at hl 1 rfl) ?_
        refine tg_X5_law C0 h kSC_77 q_380 dX5_unit_158 (fun i_96 hi_96 ei_96 => ?_)
        refine lv_iload_n C0.1 C0.2.1 dX5_unit_161 rfl (lv_at hl 0 rfl) ?_
        refine y_cv h (y_rV (As := [.int v_85]) (rest := []) C0 hZ h (c_X4_add l G Z ad _ h.2 i_96 hi_96 v_85) k_X4_add q_827 q_828 q_826 hi_96 rfl rfl rfl hl.1 rfl rfl (Nat.le_of_ble_eq_true rfl) dX5_unit_162 ⟨Nat.le_of_ble_eq_true rfl, Nat.le_of_ble_eq_true rfl⟩ ⟨Nat.le_of_ble_eq_true rfl, Nat.le_of_ble_eq_true rfl⟩) (fun H locs ws_97 h u_98 p_99 => ?_)
        have e_100 := p_99
        replace HE : FT = g27c_X5_unit_0 (xso SC ad ws_97) := HE.trans (by rw [e_100, (o24_64 e_86 c_87), ei_96]; rfl)
        replace HE : FT = ((xso SC ad ws_97), 0) := HE.trans rfl
        rw [hQ]
        exact y_vret C0 h (Fr.tr (Fr.tr (Fr.tr (Fr.tr (Fr.mono u_2 (by decide)) u_18) (Fr.mono u_89 (by decide))) u_93) (Fr.mono u_98 (by decide))) (congrArg Prod.fst (HE.symm.trans hFT)) dX5_unit_165
    · -- 55
      replace HE : FT = g7_X5_unit_0 (xso SC ad ws_1) := HE.trans (if_pos (o24_49 e_15 c_16))
      refine lv_aload_n C0.1 C0.2.1 dX5_unit_58 rfl (lv_at hl 0 rfl) ?_
      refine lv_iload_n C0.1 C0.2.1 dX5_unit_59 rfl (lv_at hl 1 rfl) ?_
      refine y_ci h (y_rV (As := [.int a1]) (rest := []) C0 hZ h (c_X5_tooDeep_0 l G Z ad _ h.2 a1 (o24_118 l1 u1) (o24_119 l1 u1)) k_X5_tooDeep q_832 q_18 q_830 kSC_77 rfl rfl rfl hl.1 rfl rfl (Nat.le_of_ble_eq_true rfl) dX5_unit_60 ⟨Nat.le_of_ble_eq_true rfl, Nat.le_of_ble_eq_true rfl⟩ ⟨Nat.le_of_ble_eq_true rfl, Nat.le_of_ble_eq_true rfl⟩) (fun r_104 H locs ws_101 h u_102 p_103 => ?_)
      obtain ⟨e_105, e_106, e_107, e_108⟩ := p_103
      replace HE : FT = g28c_X5_unit_0 (xso SC ad ws_101) := HE.trans (by rw [e_105, (o24_120 l1 u1)]; rfl)
      refine y_if_ne (tgt := 165) C0 dX5_unit_63 (by decide) (fun c_109 => ((o24_71 e_107 e_108 c_109)).elim) (fun c_109 => ?_)
      refine lv_aload_n C0.1 C0.2.1 dX5_unit_66 rfl (lv_at hl 0 rfl) ?_
      refine y_cv h (y_rV (As := []) (rest := []) C0 hZ h (c_X5_advance l G Z ad _ h.2) k_X5_advance q_616 q_0 q_614 kSC_77 rfl rfl rfl hl.1 rfl rfl (Nat.le_of_ble_eq_true rfl) dX5_unit_67 ⟨Nat.le_of_ble_eq_true rfl, Nat.le_of_ble_eq_true rfl⟩ ⟨Nat.le_of_ble_eq_true rfl, Nat.le_of_ble_eq_true rfl⟩) (fun H locs ws_110 h u_111 p_112 => ?_)
      have e_113 := p_112
      replace HE : FT = g29c_X5_unit_0 (xso SC ad ws_110) := HE.trans (by rw [e_113]; rfl)
      refine lv_aload_n C0.1 C0.2.1 dX5_unit_70 rfl (lv_at hl 0 rfl) ?_
      refine lv_iload_n C0.1 C0.2.1 dX5_unit_71 rfl (lv_at hl 1 rfl) ?_
      refine y_c1 (n := 1) C0 (by decide) dX5_unit_72 (fun v_114 e_115 => ?_)
      refine y_add C0 (o24_121 l1 u1 e_115 (le_min a1) (le_max a1) (le_min v_114) (le_max v_114)) (o24_122 l1 u1 e_115 (le_min a1) (le_max a1) (le_min v_114) (le_max v_114)) dX5_unit_73 (fun v_116 e_117 => ?_)
      refine y_cv h (y_rV (As := [.int v_116]) (rest := []) C0 hZ h (c_X5_truth_1 l G Z ad _ h.2 v_116 (o24_123 l1 u1 e_115 e_117) (o24_124 l1 u1 e_115 e_117)) k_X5_truth q_843 q_19 q_841 kSC_77 rfl rfl rfl hl.1 rfl rfl (Nat.le_of_ble_eq_true rfl) dX5_unit_74 ⟨Nat.le_of_ble_eq_true rfl, Nat.le_of_ble_eq_true rfl⟩ ⟨Nat.le_of_ble_eq_true rfl, Nat.le_of_ble_eq_true rfl⟩) (fun H locs ws_118 h u_119 p_120 => ?_)
      have e_121 := p_120
      replace HE : FT = g30c_X5_unit_0 (xso SC ad ws_118) := HE.trans (by rw [e_121, e_117, e_115, (o24_125 l1 u1 e_115 e_117)]; rfl)
      refine lv_aload_n C0.1 C0.2.1 dX5_unit_77 rfl (lv_at hl 0 rfl) ?_
      refine y_c2 (n := 93) C0 (by decide) dX5_unit_78 (fun v_122 e_123 => ?_)
      refine y_cv h (y_rV (As := [.int v_122]) (rest := []) C0 hZ h (c_X5_sign l G Z ad _ h.2 v_122 (o24_79 e_123) (o24_80 e_123)) k_X5_sign q_812 q_14 q_810 kSC_77 rfl rfl rfl hl.1 rfl rfl (Nat.le_of_ble_eq_true rfl) dX5_unit_80 ⟨Nat.le_of_ble_eq_true rfl, Nat.le_of_ble_eq_true rfl⟩ ⟨Nat.le_of_ble_eq_true rfl, Nat.le_of_ble_eq_true rfl⟩) (fun H locs ws_124 h u_125 p_126 => ?_)
      have e_127 := p_126
      replace HE : FT = g31c_X5_unit_0 (xso SC ad ws_124) := HE.trans (by rw [e_127, e_123]; rfl)
      refine lv_goto (tgt := 165) C0.1 C0.2.1 dX5_unit_83 (by decide) ?_
      replace HE : FT = ((xso SC ad ws_124), 0) := HE.trans rfl
      rw [hQ]
      exact y_vret C0 h (Fr.tr (Fr.tr (Fr.tr (Fr.tr (Fr.mono u_2 (by decide)) (Fr.mono u_102 (by decide))) (Fr.mono u_111 (by decide))) u_119) (Fr.mono u_125 (by decide))) (congrArg Prod.fst (HE.symm.trans hFT)) dX5_unit_165
  · -- 6
    replace HE : FT = g4_X5_unit_0 (xso SC ad ws_1) := HE.trans (if_neg c_9)
    refine lv_aload_n C0.1 C0.2.1 dX5_unit_9 rfl (lv_at hl 0 rfl) ?_
    refine lv_iload_n C0.1 C0.2.1 dX5_unit_10 rfl (lv_at hl 1 rfl) ?_
    refine y_ci h (y_rV (As := [.int a1]) (rest := []) C0 hZ h (c_X5_tooDeep_0 l G Z ad _ h.2 a1 (o24_118 l1 u1) (o24_119 l1 u1)) k_X5_tooDeep q_832 q_18 q_830 kSC_77 rfl rfl rfl hl.1 rfl rfl (Nat.le_of_ble_eq_true rfl) dX5_unit_11 ⟨Nat.le_of_ble_eq_true rfl, Nat.le_of_ble_eq_true rfl⟩ ⟨Nat.le_of_ble_eq_true rfl, Nat.le_of_ble_eq_true rfl⟩) (fun r_131 H locs ws_128 h u_129 p_130 => ?_)
    obtain ⟨e_132, e_133, e_134, e_135⟩ := p_130
    replace HE : FT = g32c_X5_unit_0 (xso SC ad ws_128) := HE.trans (by rw [e_132, (o24_120 l1 u1)]; rfl)
    refine y_if_ne (tgt := 165) C0 dX5_unit_14 (by decide) (fun c_136 => ((o24_71 e_134 e_135 c_136)).elim) (fun c_136 => ?_)
    refine lv_aload_n C0.1 C0.2.1 dX5_unit_17 rfl (lv_at hl 0 rfl) ?_
    refine y_cv h (y_rV (As := []) (rest := []) C0 hZ h (c_X5_advance l G Z ad _ h.2) k_X5_advance q_616 q_0 q_614 kSC_77 rfl rfl rfl hl.1 rfl rfl (Nat.le_of_ble_eq_true rfl) dX5_unit_18 ⟨Nat.le_of_ble_eq_true rfl, Nat.le_of_ble_eq_true rfl⟩ ⟨Nat.le_of_ble_eq_true rfl, Nat.le_of_ble_eq_true rfl⟩) (fun H locs ws_137 h u_138 p_139 => ?_)
    have e_140 := p_139
    replace HE : FT = g33c_X5_unit_0 (xso SC ad ws_137) := HE.trans (by rw [e_140]; rfl)
    refine lv_aload_n C0.1 C0.2.1 dX5_unit_21 rfl (lv_at hl 0 rfl) ?_
    refine lv_iload_n C0.1 C0.2.1 dX5_unit_22 rfl (lv_at hl 1 rfl) ?_
    refine y_c1 (n := 1) C0 (by decide) dX5_unit_23 (fun v_141 e_142 => ?_)
    refine y_add C0 (o24_121 l1 u1 e_142 (le_min a1) (le_max a1) (le_min v_141) (le_max v_141)) (o24_122 l1 u1 e_142 (le_min a1) (le_max a1) (le_min v_141) (le_max v_141)) dX5_unit_24 (fun v_143 e_144 => ?_)
    refine y_cv h (y_rV (As := [.int v_143]) (rest := []) C0 hZ h (c_X5_unit_1 l G Z ad _ h.2 v_143 (o24_123 l1 u1 e_142 e_144) (o24_124 l1 u1 e_142 e_144)) k_X5_unit q_851 q_21 q_849 kSC_77 rfl rfl rfl hl.1 rfl rfl (Nat.le_of_ble_eq_true rfl) dX5_unit_25 ⟨Nat.le_of_ble_eq_true rfl, Nat.le_of_ble_eq_true rfl⟩ ⟨Nat.le_of_ble_eq_true rfl, Nat.le_of_ble_eq_true rfl⟩) (fun H locs ws_145 h u_146 p_147 => ?_)
    have e_148 := p_147
    replace HE : FT = g34c_X5_unit_0 (xso SC ad ws_145) := HE.trans (by rw [e_148, e_144, e_142, (o24_125 l1 u1 e_142 e_144)]; rfl)
    refine lv_aload_n C0.1 C0.2.1 dX5_unit_28 rfl (lv_at hl 0 rfl) ?_
    refine tg_X5_law C0 h kSC_77 q_380 dX5_unit_29 (fun i_149 hi_149 ei_149 => ?_)
    refine y_c1 (n := 0) C0 (by decide) dX5_unit_32 (fun v_150 e_151 => ?_)
    refine y_cv h (y_rV (As := [.int v_150]) (rest := []) C0 hZ h (c_X4_add l G Z ad _ h.2 i_149 hi_149 v_150) k_X4_add q_827 q_828 q_826 hi_149 rfl rfl rfl hl.1 rfl rfl (Nat.le_of_ble_eq_true rfl) dX5_unit_33 ⟨Nat.le_of_ble_eq_true rfl, Nat.le_of_ble_eq_true rfl⟩ ⟨Nat.le_of_ble_eq_true rfl, Nat.le_of_ble_eq_true rfl⟩) (fun H locs ws_152 h u_153 p_154 => ?_)
    have e_155 := p_154
    replace HE : FT = g35c_X5_unit_0 (xso SC ad ws_152) := HE.trans (by rw [e_155, e_151, ei_149]; rfl)
    refine lv_aload_n C0.1 C0.2.1 dX5_unit_36 rfl (lv_at hl 0 rfl) ?_
    refine tg_X5_law C0 h kSC_77 q_380 dX5_unit_37 (fun i_156 hi_156 ei_156 => ?_)
    refine y_c3 (n := 2003) C0 (by decide) dX5_unit_40 (fun v_157 e_158 => ?_)
    refine y_cv h (y_rV (As := [.int v_157]) (rest := []) C0 hZ h (c_X4_add l G Z ad _ h.2 i_156 hi_156 v_157) k_X4_add q_827 q_828 q_826 hi_156 rfl rfl rfl hl.1 rfl rfl (Nat.le_of_ble_eq_true rfl) dX5_unit_43 ⟨Nat.le_of_ble_eq_true rfl, Nat.le_of_ble_eq_true rfl⟩ ⟨Nat.le_of_ble_eq_true rfl, Nat.le_of_ble_eq_true rfl⟩) (fun H locs ws_159 h u_160 p_161 => ?_)
    have e_162 := p_161
    replace HE : FT = g36c_X5_unit_0 (xso SC ad ws_159) := HE.trans (by rw [e_162, e_158, ei_156]; rfl)
    refine lv_goto (tgt := 165) C0.1 C0.2.1 dX5_unit_46 (by decide) ?_
    replace HE : FT = ((xso SC ad ws_159), 0) := HE.trans rfl
    rw [hQ]
    exact y_vret C0 h (Fr.tr (Fr.tr (Fr.tr (Fr.tr (Fr.tr (Fr.mono u_2 (by decide)) (Fr.mono u_129 (by decide))) (Fr.mono u_138 (by decide))) u_146) (Fr.mono u_153 (by decide))) (Fr.mono u_160 (by decide))) (congrArg Prod.fst (HE.symm.trans hFT)) dX5_unit_165
noncomputable def g5_X5_both_0 (s : XS) : XR := (s, 0)
noncomputable def g9_X5_both_0 (s : XS) : XR := (s, 0)
noncomputable def g13c_X5_both_0 (R7 : XS → Int → XR) (s : XS) (x2_7 : Int) : XR := R7 s ((x2_7 + 1))
noncomputable def g12c_X5_both_0 (R7 : XS → Int → XR) (s : XS) (x2_7 : Int) : XR := g13c_X5_both_0 R7 ((f_X4_add s (Int.toNat (s 3 77 10)) 2006).1) x2_7
noncomputable def g11c_X5_both_0 (R7 : XS → Int → XR) (s : XS) (x2_7 : Int) : XR := g12c_X5_both_0 R7 ((f_X5_unit_0 s 0).1) x2_7
noncomputable def g10_X5_both_0 (R7 : XS → Int → XR) (s : XS) (x2_7 : Int) : XR := g11c_X5_both_0 R7 ((f_X5_advance s).1) x2_7
noncomputable def g8b_X5_both_0 (R7 : XS → Int → XR) (s : XS) (r_22 : Int) (x2_7 : Int) : XR := if r_22 = 0 then g9_X5_both_0 s else g10_X5_both_0 R7 s x2_7
noncomputable def g7c_X5_both_0 (R7 : XS → Int → XR) (s : XS) (r_22 : Int) (x2_7 : Int) : XR := g8b_X5_both_0 R7 s r_22 x2_7
noncomputable def g6_X5_both_0 (R7 : XS → Int → XR) (s : XS) (x2_7 : Int) : XR := g7c_X5_both_0 R7 ((f_X5_isWord s 20).1) (((f_X5_isWord s 20).2)) x2_7
noncomputable def g4b_X5_both_0 (R7 : XS → Int → XR) (s : XS) (x2_7 : Int) : XR := if x2_7 < 900 then g6_X5_both_0 R7 s x2_7 else g5_X5_both_0 s
noncomputable def g3l_X5_both_0 (R7 : XS → Int → XR) (s : XS) (x2_7 : Int) : XR := g4b_X5_both_0 R7 s x2_7
noncomputable def L2_X5_both_0 (n : Nat) : XS → Int → XR := Nat.rec (motive := fun _ => XS → Int → XR) (fun s _ => (s, 0)) (fun _ R7 => g3l_X5_both_0 R7) n
noncomputable def g1c_X5_both_0 (s : XS) : XR := L2_X5_both_0 (Int.toNat (900 - 0 + 1)) s 0
noncomputable def f_X5_both_0 (s : XS) (a1 : Int) : XR := g1c_X5_both_0 ((f_X5_unit_0 s a1).1)
set_option maxHeartbeats 4000000 in
set_option maxRecDepth 100000 in
theorem c_X5_both_0 (l : Launch) (G : GG) (Z : RZ) (ad : Nat → Nat) (ws0 : va_W) (hT : Ty G SC ad ws0) (a1 : Int32) (l1 : 0 ≤ a1.toInt) (u1 : a1.toInt ≤ 0) : Mq l yX5_both cX5_both 3 none 28 G Z [.ref (ad 77), .int a1] ws0 (PV G SC ad [2, 3, 16] ws0 (fun u => (xso SC ad u = (f_X5_both_0 (xso SC ad ws0) a1.toInt).1))) := by
  refine Mq.start (by decide) (Nat.le_of_ble_eq_true rfl) ?_
  intro p e s m below meth c A ls C0 hZ h hl
  have hl : lv_has ls 3 [(0, .ref (ad 77)), (1, .int a1)] := hl
  have h : Wt G SC ad A s s.heap [] ws0 := ⟨h, hT⟩
  obtain ⟨args, hargs⟩ : ∃ z, z = ([.ref (ad 77), .int a1] : List Value).toArray := ⟨_, rfl⟩
  rw [← hargs] at C0 ⊢
  have C0 : Cx p s m args meth c RX5 cX5_both 3 none := C0
  obtain ⟨Q, hQ⟩ : ∃ z, z = MQ below ((PV G SC ad [2, 3, 16] ws0 (fun u => (xso SC ad u = (f_X5_both_0 (xso SC ad ws0) a1.toInt).1))) A) args s 0 0 A := ⟨_, rfl⟩
  rw [← hQ]
  obtain ⟨FT, hFT⟩ : ∃ z, z = f_X5_both_0 (xso SC ad ws0) a1.toInt := ⟨_, rfl⟩
  have HE : FT = f_X5_both_0 (xso SC ad ws0) a1.toInt := hFT
  refine lv_aload_n C0.1 C0.2.1 dX5_both_0 rfl (lv_at hl 0 rfl) ?_
  refine lv_iload_n C0.1 C0.2.1 dX5_both_1 rfl (lv_at hl 1 rfl) ?_
  refine y_cv h (y_rV (As := [.int a1]) (rest := []) C0 hZ h (c_X5_unit_0 l G Z ad _ h.2 a1 (o24_118 l1 u1) (o24_119 l1 u1)) k_X5_unit q_851 q_21 q_849 kSC_77 rfl rfl rfl hl.1 rfl rfl (Nat.le_of_ble_eq_true rfl) dX5_both_2 ⟨Nat.le_of_ble_eq_true rfl, Nat.le_of_ble_eq_true rfl⟩ ⟨Nat.le_of_ble_eq_true rfl, Nat.le_of_ble_eq_true rfl⟩) (fun H locs ws_1 h u_2 p_3 => ?_)
  have e_4 := p_3
  replace HE : FT = g1c_X5_both_0 (xso SC ad ws_1) := HE.trans (by rw [e_4]; rfl)
  refine y_c1 (n := 0) C0 (by decide) dX5_both_5 (fun v_5 e_6 => ?_)
  refine lv_istore_n (lv' := [(2, .int v_5), (0, .ref (ad 77)), (1, .int a1)]) C0.1 C0.2.1 dX5_both_6 rfl hl (by decide) rfl (fun ls hl => ?_)
  have lp_10 : ∀ (n_12 : Nat) (x2_7 : Int32) (H : Heap) (locs : List Loc) (ls : Array Slot) (ws_8 : va_W), 900 - x2_7.toInt < (n_12 : Int) → 0 ≤ x2_7.toInt → x2_7.toInt ≤ 900 → (FT = L2_X5_both_0 n_12 (xso SC ad ws_8) x2_7.toInt) → Wt G SC ad A s H locs ws_8 → Fr SC [2, 3, 16] ws_1 ws_8 → lv_has ls 3 [(2, .int x2_7), (0, .ref (ad 77)), (1, .int a1)] → W p l e (rmd 28 0 0) s m args below meth c H locs 0 0 Q (F0 m 7 ls []) := by
    intro n_12
    induction n_12 with
    | zero => intro x2_7 H locs ls ws_8 hn_13 b_14 b_15 HE h hF_9 hl; exact ((o24_22 b_14 b_15 hn_13)).elim
    | succ n_12 ih_11 =>
      intro x2_7 H locs ls ws_8 hn_13 b_14 b_15 HE h hF_9 hl
      obtain ⟨R7, hR7⟩ : ∃ z, z = L2_X5_both_0 n_12 := ⟨_, rfl⟩
      replace HE : FT = g3l_X5_both_0 R7 (xso SC ad ws_8) x2_7.toInt := HE.trans (by rw [hR7]; rfl)
      refine lv_iload_n C0.1 C0.2.1 dX5_both_7 rfl (lv_at hl 0 rfl) ?_
      refine y_c3 (n := 900) C0 (by decide) dX5_both_8 (fun v_16 e_17 => ?_)
      replace HE : FT = g4b_X5_both_0 R7 (xso SC ad ws_8) x2_7.toInt := HE.trans rfl
      refine y_icmp_ge (tgt := 48) C0 dX5_both_11 (by decide) (fun c_18 => ?_) (fun c_18 => ?_)
      · -- 11
        replace HE : FT = g5_X5_both_0 (xso SC ad ws_8) := HE.trans (if_neg (o24_24 b_14 b_15 hn_13 e_17 c_18))
        replace HE : FT = ((xso SC ad ws_8), 0) := HE.trans rfl
        rw [hQ]
        exact y_vret C0 h (Fr.tr u_2 hF_9) (congrArg Prod.fst (HE.symm.trans hFT)) dX5_both_48
      · -- 11
        replace HE : FT = g6_X5_both_0 R7 (xso SC ad ws_8) x2_7.toInt := HE.trans (if_pos (o24_25 b_14 b_15 hn_13 e_17 c_18))
        refine lv_aload_n C0.1 C0.2.1 dX5_both_14 rfl (lv_at hl 1 rfl) ?_
        refine va_ldcS C0.1 C0.2.1 C0.2.2.2.1 (sr_20 hZ) dX5_both_15 ?_
        refine y_ci h (y_rV (As := [.ref (Z.2.1 20)]) (rest := []) C0 hZ h (c_X5_isWord l G Z ad _ h.2 20 (by decide)) k_X5_isWord q_724 q_5 q_722 kSC_77 rfl rfl rfl hl.1 rfl rfl (Nat.le_of_ble_eq_true rfl) dX5_both_17 ⟨Nat.le_of_ble_eq_true rfl, Nat.le_of_ble_eq_true rfl⟩ ⟨Nat.le_of_ble_eq_true rfl, Nat.le_of_ble_eq_true rfl⟩) (fun r_22 H locs ws_19 h u_20 p_21 => ?_)
        obtain ⟨e_23, e_24, e_25, e_26⟩ := p_21
        replace HE : FT = g7c_X5_both_0 R7 (xso SC ad ws_19) r_22.toInt x2_7.toInt := HE.trans (by rw [e_23, e_24]; rfl)
        replace HE : FT = g8b_X5_both_0 R7 (xso SC ad ws_19) r_22.toInt x2_7.toInt := HE.trans rfl
        refine y_if_eq (tgt := 48) C0 dX5_both_20 (by decide) (fun c_27 => ?_) (fun c_27 => ?_)
        · -- 20
          replace HE : FT = g9_X5_both_0 (xso SC ad ws_19) := HE.trans (if_pos c_27)
          replace HE : FT = ((xso SC ad ws_19), 0) := HE.trans rfl
          rw [hQ]
          exact y_vret C0 h (Fr.tr (Fr.tr u_2 hF_9) (Fr.mono u_20 (by decide))) (congrArg Prod.fst (HE.symm.trans hFT)) dX5_both_48
        · -- 20
          replace HE : FT = g10_X5_both_0 R7 (xso SC ad ws_19) x2_7.toInt := HE.trans (if_neg c_27)
          refine lv_aload_n C0.1 C0.2.1 dX5_both_23 rfl (lv_at hl 1 rfl) ?_
          refine y_cv h (y_rV (As := []) (rest := []) C0 hZ h (c_X5_advance l G Z ad _ h.2) k_X5_advance q_616 q_0 q_614 kSC_77 rfl rfl rfl hl.1 rfl rfl (Nat.le_of_ble_eq_true rfl) dX5_both_24 ⟨Nat.le_of_ble_eq_true rfl, Nat.le_of_ble_eq_true rfl⟩ ⟨Nat.le_of_ble_eq_true rfl, Nat.le_of_ble_eq_true rfl⟩) (fun H locs ws_28 h u_29 p_30 => ?_)
          have e_31 := p_30
          replace HE : FT = g11c_X5_both_0 R7 (xso SC ad ws_28) x2_7.toInt := HE.trans (by rw [e_31]; rfl)
          refine lv_aload_n C0.1 C0.2.1 dX5_both_27 rfl (lv_at hl 1 rfl) ?_
          refine lv_iload_n C0.1 C0.2.1 dX5_both_28 rfl (lv_at hl 2 rfl) ?_
          refine y_cv h (y_rV (As := [.int a1]) (rest := []) C0 hZ h (c_X5_unit_0 l G Z ad _ h.2 a1 (o24_118 l1 u1) (o24_119 l1 u1)) k_X5_unit q_851 q_21 q_849 kSC_77 rfl rfl rfl hl.1 rfl rfl (Nat.le_of_ble_eq_true rfl) dX5_both_29 ⟨Nat.le_of_ble_eq_true rfl, Nat.le_of_ble_eq_true rfl⟩ ⟨Nat.le_of_ble_eq_true rfl, Nat.le_of_ble_eq_true rfl⟩) (fun H locs ws_32 h u_33 p_34 => ?_)
          have e_35 := p_34
          replace HE : FT = g12c_X5_both_0 R7 (xso SC ad ws_32) x2_7.toInt := HE.trans (by rw [e_35, (o24_120 l1 u1)]; rfl)
          refine lv_aload_n C0.1 C0.2.1 dX5_both_32 rfl (lv_at hl 1 rfl) ?_
          refine tg_X5_law C0 h kSC_77 q_380 dX5_both_33 (fun i_36 hi_36 ei_36 => ?_)
          refine y_c3 (n := 2006) C0 (by decide) dX5_both_36 (fun v_37 e_38 => ?_)
          refine y_cv h (y_rV (As := [.int v_37]) (rest := []) C0 hZ h (c_X4_add l G Z ad _ h.2 i_36 hi_36 v_37) k_X4_add q_827 q_828 q_826 hi_36 rfl rfl rfl hl.1 rfl rfl (Nat.le_of_ble_eq_true rfl) dX5_both_39 ⟨Nat.le_of_ble_eq_true rfl, Nat.le_of_ble_eq_true rfl⟩ ⟨Nat.le_of_ble_eq_true rfl, Nat.le_of_ble_eq_true rfl⟩) (fun H locs ws_39 h u_40 p_41 => ?_)
          have e_42 := p_41
          replace HE : FT = g13c_X5_both_0 R7 (xso SC ad ws_39) x2_7.toInt := HE.trans (by rw [e_42, e_38, ei_36]; rfl)
          refine y_inc (kp := 0) (n := 1) (fun v_43 => [(2, .int v_43), (0, .ref (ad 77)), (1, .int a1)]) C0 hl rfl (by decide) (by decide) (fun _ => rfl) (o24_29 b_14 b_15 hn_13 e_17 c_18 (le_min x2_7) (le_max x2_7) (le_min v_16) (le_max v_16)) (o24_30 b_14 b_15 hn_13 e_17 c_18 (le_min x2_7) (le_max x2_7) (le_min v_16) (le_max v_16)) dX5_both_42 (fun v_43 ls e_44 hl => ?_)
          refine lv_goto (tgt := 7) C0.1 C0.2.1 dX5_both_45 (by decide) ?_
          exact ih_11 v_43 _ _ _ _ (o24_31 b_14 b_15 hn_13 e_17 c_18 e_44) (o24_32 b_14 b_15 hn_13 e_17 c_18 e_44) (o24_33 b_14 b_15 hn_13 e_17 c_18 e_44) (((show FT = R7 (xso SC ad ws_39) v_43.toInt from HE.trans (by rw [e_44]; rfl)).trans (by rw [hR7]))) h (Fr.tr (Fr.tr (Fr.tr (Fr.tr hF_9 (Fr.mono u_20 (by decide))) (Fr.mono u_29 (by decide))) u_33) (Fr.mono u_40 (by decide))) (lv_sub hl [0, 1, 2] rfl)
  exact lp_10 ((900 - v_5.toInt + 1).toNat) v_5 _ _ _ _ (o24_34 e_6) (o24_35 e_6) (o24_36 e_6) ((show FT = L2_X5_both_0 (Int.toNat (900 - v_5.toInt + 1)) (xso SC ad ws_1) v_5.toInt from HE.trans (by rw [e_6]; rfl))) h Fr.rf (lv_sub hl [0, 1, 2] rfl)
noncomputable def g5_X5_truth_0 (s : XS) : XR := (s, 0)
noncomputable def g9_X5_truth_0 (s : XS) : XR := (s, 0)
noncomputable def g13c_X5_truth_0 (R7 : XS → Int → XR) (s : XS) (x2_7 : Int) : XR := R7 s ((x2_7 + 1))
noncomputable def g12c_X5_truth_0 (R7 : XS → Int → XR) (s : XS) (x2_7 : Int) : XR := g13c_X5_truth_0 R7 ((f_X4_add s (Int.toNat (s 3 77 10)) 2007).1) x2_7
noncomputable def g11c_X5_truth_0 (R7 : XS → Int → XR) (s : XS) (x2_7 : Int) : XR := g12c_X5_truth_0 R7 ((f_X5_both_0 s 0).1) x2_7
noncomputable def g10_X5_truth_0 (R7 : XS → Int → XR) (s : XS) (x2_7 : Int) : XR := g11c_X5_truth_0 R7 ((f_X5_advance s).1) x2_7
noncomputable def g8b_X5_truth_0 (R7 : XS → Int → XR) (s : XS) (r_22 : Int) (x2_7 : Int) : XR := if r_22 = 0 then g9_X5_truth_0 s else g10_X5_truth_0 R7 s x2_7
noncomputable def g7c_X5_truth_0 (R7 : XS → Int → XR) (s : XS) (r_22 : Int) (x2_7 : Int) : XR := g8b_X5_truth_0 R7 s r_22 x2_7
noncomputable def g6_X5_truth_0 (R7 : XS → Int → XR) (s : XS) (x2_7 : Int) : XR := g7c_X5_truth_0 R7 ((f_X5_isWord s 21).1) (((f_X5_isWord s 21).2)) x2_7
noncomputable def g4b_X5_truth_0 (R7 : XS → Int → XR) (s : XS) (x2_7 : Int) : XR := if x2_7 < 900 then g6_X5_truth_0 R7 s x2_7 else g5_X5_truth_0 s
noncomputable def g3l_X5_truth_0 (R7 : XS → Int → XR) (s : XS) (x2_7 : Int) : XR := g4b_X5_truth_0 R7 s x2_7
noncomputable def L2_X5_truth_0 (n : Nat) : XS → Int → XR := Nat.rec (motive := fun _ => XS → Int → XR) (fun s _ => (s, 0)) (fun _ R7 => g3l_X5_truth_0 R7) n
noncomputable def g1c_X5_truth_0 (s : XS) : XR := L2_X5_truth_0 (Int.toNat (900 - 0 + 1)) s 0
noncomputable def f_X5_truth_0 (s : XS) (a1 : Int) : XR := g1c_X5_truth_0 ((f_X5_both_0 s a1).1)
set_option maxHeartbeats 4000000 in
set_option maxRecDepth 100000 in
theorem c_X5_truth_0 (l : Launch) (G : GG) (Z : RZ) (ad : Nat → Nat) (ws0 : va_W) (hT : Ty G SC ad ws0) (a1 : Int32) (l1 : 0 ≤ a1.toInt) (u1 : a1.toInt ≤ 0) : Mq l yX5_truth cX5_truth 3 none 29 G Z [.ref (ad 77), .int a1] ws0 (PV G SC ad [2, 3, 16] ws0 (fun u => (xso SC ad u = (f_X5_truth_0 (xso SC ad ws0) a1.toInt).1))) := by
  refine Mq.start (by decide) (Nat.le_of_ble_eq_true rfl) ?_
  intro p e s m below meth c A ls C0 hZ h hl
  have hl : lv_has ls 3 [(0, .ref (ad 77)), (1, .int a1)] := hl
  have h : Wt G SC ad A s s.heap [] ws0 := ⟨h, hT⟩
  obtain ⟨args, hargs⟩ : ∃ z, z = ([.ref (ad 77), .int a1] : List Value).toArray := ⟨_, rfl⟩
  rw [← hargs] at C0 ⊢
  have C0 : Cx p s m args meth c RX5 cX5_truth 3 none := C0
  obtain ⟨Q, hQ⟩ : ∃ z, z = MQ below ((PV G SC ad [2, 3, 16] ws0 (fun u => (xso SC ad u = (f_X5_truth_0 (xso SC ad ws0) a1.toInt).1))) A) args s 0 0 A := ⟨_, rfl⟩
  rw [← hQ]
  obtain ⟨FT, hFT⟩ : ∃ z, z = f_X5_truth_0 (xso SC ad ws0) a1.toInt := ⟨_, rfl⟩
  have HE : FT = f_X5_truth_0 (xso SC ad ws0) a1.toInt := hFT
  refine lv_aload_n C0.1 C0.2.1 dX5_truth_0 rfl (lv_at hl 0 rfl) ?_
  refine lv_iload_n C0.1 C0.2.1 dX5_truth_1 rfl (lv_at hl 1 rfl) ?_
  refine y_cv h (y_rV (As := [.int a1]) (rest := []) C0 hZ h (c_X5_both_0 l G Z ad _ h.2 a1 (o24_118 l1 u1) (o24_119 l1 u1)) k_X5_both q_847 q_20 q_845 kSC_77 rfl rfl rfl hl.1 rfl rfl (Nat.le_of_ble_eq_true rfl) dX5_truth_2 ⟨Nat.le_of_ble_eq_true rfl, Nat.le_of_ble_eq_true rfl⟩ ⟨Nat.le_of_ble_eq_true rfl, Nat.le_of_ble_eq_true rfl⟩) (fun H locs ws_1 h u_2 p_3 => ?_)
  have e_4 := p_3
  replace HE : FT = g1c_X5_truth_0 (xso SC ad ws_1) := HE.trans (by rw [e_4]; rfl)
  refine y_c1 (n := 0) C0 (by decide) dX5_truth_5 (fun v_5 e_6 => ?_)
  refine lv_istore_n (lv' := [(2, .int v_5), (0, .ref (ad 77)), (1, .int a1)]) C0.1 C0.2.1 dX5_truth_6 rfl hl (by decide) rfl (fun ls hl => ?_)
  have lp_10 : ∀ (n_12 : Nat) (x2_7 : Int32) (H : Heap) (locs : List Loc) (ls : Array Slot) (ws_8 : va_W), 900 - x2_7.toInt < (n_12 : Int) → 0 ≤ x2_7.toInt → x2_7.toInt ≤ 900 → (FT = L2_X5_truth_0 n_12 (xso SC ad ws_8) x2_7.toInt) → Wt G SC ad A s H locs ws_8 → Fr SC [2, 3, 16] ws_1 ws_8 → lv_has ls 3 [(2, .int x2_7), (0, .ref (ad 77)), (1, .int a1)] → W p l e (rmd 29 0 0) s m args below meth c H locs 0 0 Q (F0 m 7 ls []) := by
    intro n_12
    induction n_12 with
    | zero => intro x2_7 H locs ls ws_8 hn_13 b_14 b_15 HE h hF_9 hl; exact ((o24_22 b_14 b_15 hn_13)).elim
    | succ n_12 ih_11 =>
      intro x2_7 H locs ls ws_8 hn_13 b_14 b_15 HE h hF_9 hl
      obtain ⟨R7, hR7⟩ : ∃ z, z = L2_X5_truth_0 n_12 := ⟨_, rfl⟩
      replace HE : FT = g3l_X5_truth_0 R7 (xso SC ad ws_8) x2_7.toInt := HE.trans (by rw [hR7]; rfl)
      refine lv_iload_n C0.1 C0.2.1 dX5_truth_7 rfl (lv_at hl 0 rfl) ?_
      refine y_c3 (n := 900) C0 (by decide) dX5_truth_8 (fun v_16 e_17 => ?_)
      replace HE : FT = g4b_X5_truth_0 R7 (xso SC ad ws_8) x2_7.toInt := HE.trans rfl
      refine y_icmp_ge (tgt := 48) C0 dX5_truth_11 (by decide) (fun c_18 => ?_) (fun c_18 => ?_)
      · -- 11
        replace HE : FT = g5_X5_truth_0 (xso SC ad ws_8) := HE.trans (if_neg (o24_24 b_14 b_15 hn_13 e_17 c_18))
        replace HE : FT = ((xso SC ad ws_8), 0) := HE.trans rfl
        rw [hQ]
        exact y_vret C0 h (Fr.tr u_2 hF_9) (congrArg Prod.fst (HE.symm.trans hFT)) dX5_truth_48
      · -- 11
        replace HE : FT = g6_X5_truth_0 R7 (xso SC ad ws_8) x2_7.toInt := HE.trans (if_pos (o24_25 b_14 b_15 hn_13 e_17 c_18))
        refine lv_aload_n C0.1 C0.2.1 dX5_truth_14 rfl (lv_at hl 1 rfl) ?_
        refine va_ldcS C0.1 C0.2.1 C0.2.2.2.1 (sr_21 hZ) dX5_truth_15 ?_
        refine y_ci h (y_rV (As := [.ref (Z.2.1 21)]) (rest := []) C0 hZ h (c_X5_isWord l G Z ad _ h.2 21 (by decide)) k_X5_isWord q_724 q_5 q_722 kSC_77 rfl rfl rfl hl.1 rfl rfl (Nat.le_of_ble_eq_true rfl) dX5_truth_17 ⟨Nat.le_of_ble_eq_true rfl, Nat.le_of_ble_eq_true rfl⟩ ⟨Nat.le_of_ble_eq_true rfl, Nat.le_of_ble_eq_true rfl⟩) (fun r_22 H locs ws_19 h u_20 p_21 => ?_)
        obtain ⟨e_23, e_24, e_25, e_26⟩ := p_21
        replace HE : FT = g7c_X5_truth_0 R7 (xso SC ad ws_19) r_22.toInt x2_7.toInt := HE.trans (by rw [e_23, e_24]; rfl)
        replace HE : FT = g8b_X5_truth_0 R7 (xso SC ad ws_19) r_22.toInt x2_7.toInt := HE.trans rfl
        refine y_if_eq (tgt := 48) C0 dX5_truth_20 (by decide) (fun c_27 => ?_) (fun c_27 => ?_)
        · -- 20
          replace HE : FT = g9_X5_truth_0 (xso SC ad ws_19) := HE.trans (if_pos c_27)
          replace HE : FT = ((xso SC ad ws_19), 0) := HE.trans rfl
          rw [hQ]
          exact y_vret C0 h (Fr.tr (Fr.tr u_2 hF_9) (Fr.mono u_20 (by decide))) (congrArg Prod.fst (HE.symm.trans hFT)) dX5_truth_48
        · -- 20
          replace HE : FT = g10_X5_truth_0 R7 (xso SC ad ws_19) x2_7.toInt := HE.trans (if_neg c_27)
          refine lv_aload_n C0.1 C0.2.1 dX5_truth_23 rfl (lv_at hl 1 rfl) ?_
          refine y_cv h (y_rV (As := []) (rest := []) C0 hZ h (c_X5_advance l G Z ad _ h.2) k_X5_advance q_616 q_0 q_614 kSC_77 rfl rfl rfl hl.1 rfl rfl (Nat.le_of_ble_eq_true rfl) dX5_truth_24 ⟨Nat.le_of_ble_eq_true rfl, Nat.le_of_ble_eq_true rfl⟩ ⟨Nat.le_of_ble_eq_true rfl, Nat.le_of_ble_eq_true rfl⟩) (fun H locs ws_28 h u_29 p_30 => ?_)
          have e_31 := p_30
          replace HE : FT = g11c_X5_truth_0 R7 (xso SC ad ws_28) x2_7.toInt := HE.trans (by rw [e_31]; rfl)
          refine lv_aload_n C0.1 C0.2.1 dX5_truth_27 rfl (lv_at hl 1 rfl) ?_
          refine lv_iload_n C0.1 C0.2.1 dX5_truth_28 rfl (lv_at hl 2 rfl) ?_
          refine y_cv h (y_rV (As := [.int a1]) (rest := []) C0 hZ h (c_X5_both_0 l G Z ad _ h.2 a1 (o24_118 l1 u1) (o24_119 l1 u1)) k_X5_both q_847 q_20 q_845 kSC_77 rfl rfl rfl hl.1 rfl rfl (Nat.le_of_ble_eq_true rfl) dX5_truth_29 ⟨Nat.le_of_ble_eq_true rfl, Nat.le_of_ble_eq_true rfl⟩ ⟨Nat.le_of_ble_eq_true rfl, Nat.le_of_ble_eq_true rfl⟩) (fun H locs ws_32 h u_33 p_34 => ?_)
          have e_35 := p_34
          replace HE : FT = g12c_X5_truth_0 R7 (xso SC ad ws_32) x2_7.toInt := HE.trans (by rw [e_35, (o24_120 l1 u1)]; rfl)
          refine lv_aload_n C0.1 C0.2.1 dX5_truth_32 rfl (lv_at hl 1 rfl) ?_
          refine tg_X5_law C0 h kSC_77 q_380 dX5_truth_33 (fun i_36 hi_36 ei_36 => ?_)
          refine y_c3 (n := 2007) C0 (by decide) dX5_truth_36 (fun v_37 e_38 => ?_)
          refine y_cv h (y_rV (As := [.int v_37]) (rest := []) C0 hZ h (c_X4_add l G Z ad _ h.2 i_36 hi_36 v_37) k_X4_add q_827 q_828 q_826 hi_36 rfl rfl rfl hl.1 rfl rfl (Nat.le_of_ble_eq_true rfl) dX5_truth_39 ⟨Nat.le_of_ble_eq_true rfl, Nat.le_of_ble_eq_true rfl⟩ ⟨Nat.le_of_ble_eq_true rfl, Nat.le_of_ble_eq_true rfl⟩) (fun H locs ws_39 h u_40 p_41 => ?_)
          have e_42 := p_41
          replace HE : FT = g13c_X5_truth_0 R7 (xso SC ad ws_39) x2_7.toInt := HE.trans (by rw [e_42, e_38, ei_36]; rfl)
          refine y_inc (kp := 0) (n := 1) (fun v_43 => [(2, .int v_43), (0, .ref (ad 77)), (1, .int a1)]) C0 hl rfl (by decide) (by decide) (fun _ => rfl) (o24_29 b_14 b_15 hn_13 e_17 c_18 (le_min x2_7) (le_max x2_7) (le_min v_16) (le_max v_16)) (o24_30 b_14 b_15 hn_13 e_17 c_18 (le_min x2_7) (le_max x2_7) (le_min v_16) (le_max v_16)) dX5_truth_42 (fun v_43 ls e_44 hl => ?_)
          refine lv_goto (tgt := 7) C0.1 C0.2.1 dX5_truth_45 (by decide) ?_
          exact ih_11 v_43 _ _ _ _ (o24_31 b_14 b_15 hn_13 e_17 c_18 e_44) (o24_32 b_14 b_15 hn_13 e_17 c_18 e_44) (o24_33 b_14 b_15 hn_13 e_17 c_18 e_44) (((show FT = R7 (xso SC ad ws_39) v_43.toInt from HE.trans (by rw [e_44]; rfl)).trans (by rw [hR7]))) h (Fr.tr (Fr.tr (Fr.tr (Fr.tr hF_9 (Fr.mono u_20 (by decide))) (Fr.mono u_29 (by decide))) u_33) (Fr.mono u_40 (by decide))) (lv_sub hl [0, 1, 2] rfl)
  exact lp_10 ((900 - v_5.toInt + 1).toNat) v_5 _ _ _ _ (o24_34 e_6) (o24_35 e_6) (o24_36 e_6) ((show FT = L2_X5_truth_0 (Int.toNat (900 - v_5.toInt + 1)) (xso SC ad ws_1) v_5.toInt from HE.trans (by rw [e_6]; rfl))) h Fr.rf (lv_sub hl [0, 1, 2] rfl)
