theorem dX12_between_0 : decode cX12_between 0 = .ok (.iload_n 0, 1) := by decide +kernel
theorem dX12_between_1 : decode cX12_between 1 = .ok (.sipush 3002, 3) := by decide +kernel
theorem dX12_between_4 : decode cX12_between 4 = .ok (.if_icmp .gt 70, 3) := by decide +kernel
theorem dX12_between_7 : decode cX12_between 7 = .ok (.iload_n 0, 1) := by decide +kernel
theorem dX12_between_8 : decode cX12_between 8 = .ok (.sipush 3000, 3) := by decide +kernel
theorem dX12_between_11 : decode cX12_between 11 = .ok (.if_icmp .ne 11, 3) := by decide +kernel
theorem dX12_between_14 : decode cX12_between 14 = .ok (.iload_n 1, 1) := by decide +kernel
theorem dX12_between_15 : decode cX12_between 15 = .ok (.i2l, 1) := by decide +kernel
theorem dX12_between_16 : decode cX12_between 16 = .ok (.iload_n 2, 1) := by decide +kernel
theorem dX12_between_17 : decode cX12_between 17 = .ok (.i2l, 1) := by decide +kernel
theorem dX12_between_18 : decode cX12_between 18 = .ok (.ladd, 1) := by decide +kernel
theorem dX12_between_19 : decode cX12_between 19 = .ok (.goto 23, 3) := by decide +kernel
theorem dX12_between_22 : decode cX12_between 22 = .ok (.iload_n 0, 1) := by decide +kernel
theorem dX12_between_23 : decode cX12_between 23 = .ok (.sipush 3001, 3) := by decide +kernel
theorem dX12_between_26 : decode cX12_between 26 = .ok (.if_icmp .ne 11, 3) := by decide +kernel
theorem dX12_between_29 : decode cX12_between 29 = .ok (.iload_n 1, 1) := by decide +kernel
theorem dX12_between_30 : decode cX12_between 30 = .ok (.i2l, 1) := by decide +kernel
theorem dX12_between_31 : decode cX12_between 31 = .ok (.iload_n 2, 1) := by decide +kernel
theorem dX12_between_32 : decode cX12_between 32 = .ok (.i2l, 1) := by decide +kernel
theorem dX12_between_33 : decode cX12_between 33 = .ok (.lsub, 1) := by decide +kernel
theorem dX12_between_34 : decode cX12_between 34 = .ok (.goto 8, 3) := by decide +kernel
theorem dX12_between_37 : decode cX12_between 37 = .ok (.iload_n 1, 1) := by decide +kernel
theorem dX12_between_38 : decode cX12_between 38 = .ok (.i2l, 1) := by decide +kernel
theorem dX12_between_39 : decode cX12_between 39 = .ok (.iload_n 2, 1) := by decide +kernel
theorem dX12_between_40 : decode cX12_between 40 = .ok (.i2l, 1) := by decide +kernel
theorem dX12_between_41 : decode cX12_between 41 = .ok (.lmul, 1) := by decide +kernel
theorem dX12_between_42 : decode cX12_between 42 = .ok (.lstore_n 3, 1) := by decide +kernel
theorem dX12_between_43 : decode cX12_between 43 = .ok (.lload_n 3, 1) := by decide +kernel
theorem dX12_between_44 : decode cX12_between 44 = .ok (.ldc2_w 238, 3) := by decide +kernel
theorem dX12_between_47 : decode cX12_between 47 = .ok (.lcmp, 1) := by decide +kernel
theorem dX12_between_48 : decode cX12_between 48 = .ok (.ifCond .le 9, 3) := by decide +kernel
theorem dX12_between_51 : decode cX12_between 51 = .ok (.ldc2_w 238, 3) := by decide +kernel
theorem dX12_between_54 : decode cX12_between 54 = .ok (.goto 18, 3) := by decide +kernel
theorem dX12_between_57 : decode cX12_between 57 = .ok (.lload_n 3, 1) := by decide +kernel
theorem dX12_between_58 : decode cX12_between 58 = .ok (.ldc2_w 240, 3) := by decide +kernel
theorem dX12_between_61 : decode cX12_between 61 = .ok (.lcmp, 1) := by decide +kernel
theorem dX12_between_62 : decode cX12_between 62 = .ok (.ifCond .ge 9, 3) := by decide +kernel
theorem dX12_between_65 : decode cX12_between 65 = .ok (.ldc2_w 240, 3) := by decide +kernel
theorem dX12_between_68 : decode cX12_between 68 = .ok (.goto 4, 3) := by decide +kernel
theorem dX12_between_71 : decode cX12_between 71 = .ok (.lload_n 3, 1) := by decide +kernel
theorem dX12_between_72 : decode cX12_between 72 = .ok (.l2i, 1) := by decide +kernel
theorem dX12_between_73 : decode cX12_between 73 = .ok (.ireturn, 1) := by decide +kernel
theorem dX12_between_74 : decode cX12_between 74 = .ok (.iload_n 0, 1) := by decide +kernel
theorem dX12_between_75 : decode cX12_between 75 = .ok (.sipush 3003, 3) := by decide +kernel
theorem dX12_between_78 : decode cX12_between 78 = .ok (.if_icmp .ne 16, 3) := by decide +kernel
theorem dX12_between_81 : decode cX12_between 81 = .ok (.iload_n 1, 1) := by decide +kernel
theorem dX12_between_82 : decode cX12_between 82 = .ok (.iload_n 2, 1) := by decide +kernel
theorem dX12_between_83 : decode cX12_between 83 = .ok (.if_icmp .ne 7, 3) := by decide +kernel
theorem dX12_between_86 : decode cX12_between 86 = .ok (.iconst 1, 1) := by decide +kernel
theorem dX12_between_87 : decode cX12_between 87 = .ok (.goto 80, 3) := by decide +kernel
theorem dX12_between_90 : decode cX12_between 90 = .ok (.iconst 0, 1) := by decide +kernel
theorem dX12_between_91 : decode cX12_between 91 = .ok (.goto 76, 3) := by decide +kernel
theorem dX12_between_94 : decode cX12_between 94 = .ok (.iload_n 0, 1) := by decide +kernel
theorem dX12_between_95 : decode cX12_between 95 = .ok (.sipush 3004, 3) := by decide +kernel
theorem dX12_between_98 : decode cX12_between 98 = .ok (.if_icmp .ne 16, 3) := by decide +kernel
theorem dX12_between_101 : decode cX12_between 101 = .ok (.iload_n 1, 1) := by decide +kernel
theorem dX12_between_102 : decode cX12_between 102 = .ok (.iload_n 2, 1) := by decide +kernel
theorem dX12_between_103 : decode cX12_between 103 = .ok (.if_icmp .ge 7, 3) := by decide +kernel
theorem dX12_between_106 : decode cX12_between 106 = .ok (.iconst 1, 1) := by decide +kernel
theorem dX12_between_107 : decode cX12_between 107 = .ok (.goto 60, 3) := by decide +kernel
theorem dX12_between_110 : decode cX12_between 110 = .ok (.iconst 0, 1) := by decide +kernel
theorem dX12_between_111 : decode cX12_between 111 = .ok (.goto 56, 3) := by decide +kernel
theorem dX12_between_114 : decode cX12_between 114 = .ok (.iload_n 0, 1) := by decide +kernel
theorem dX12_between_115 : decode cX12_between 115 = .ok (.sipush 3005, 3) := by decide +kernel
theorem dX12_between_118 : decode cX12_between 118 = .ok (.if_icmp .ne 16, 3) := by decide +kernel
theorem dX12_between_121 : decode cX12_between 121 = .ok (.iload_n 1, 1) := by decide +kernel
theorem dX12_between_122 : decode cX12_between 122 = .ok (.iload_n 2, 1) := by decide +kernel
theorem dX12_between_123 : decode cX12_between 123 = .ok (.if_icmp .le 7, 3) := by decide +kernel
theorem dX12_between_126 : decode cX12_between 126 = .ok (.iconst 1, 1) := by decide +kernel
theorem dX12_between_127 : decode cX12_between 127 = .ok (.goto 40, 3) := by decide +kernel
theorem dX12_between_130 : decode cX12_between 130 = .ok (.iconst 0, 1) := by decide +kernel
theorem dX12_between_131 : decode cX12_between 131 = .ok (.goto 36, 3) := by decide +kernel
theorem dX12_between_134 : decode cX12_between 134 = .ok (.iload_n 0, 1) := by decide +kernel
theorem dX12_between_135 : decode cX12_between 135 = .ok (.sipush 3006, 3) := by decide +kernel
theorem dX12_between_138 : decode cX12_between 138 = .ok (.if_icmp .ne 18, 3) := by decide +kernel
theorem dX12_between_141 : decode cX12_between 141 = .ok (.iload_n 1, 1) := by decide +kernel
theorem dX12_between_142 : decode cX12_between 142 = .ok (.iload_n 2, 1) := by decide +kernel
theorem dX12_between_143 : decode cX12_between 143 = .ok (.iadd, 1) := by decide +kernel
theorem dX12_between_144 : decode cX12_between 144 = .ok (.iconst 2, 1) := by decide +kernel
theorem dX12_between_145 : decode cX12_between 145 = .ok (.if_icmp .ne 7, 3) := by decide +kernel
theorem dX12_between_148 : decode cX12_between 148 = .ok (.iconst 1, 1) := by decide +kernel
theorem dX12_between_149 : decode cX12_between 149 = .ok (.goto 18, 3) := by decide +kernel
theorem dX12_between_152 : decode cX12_between 152 = .ok (.iconst 0, 1) := by decide +kernel
theorem dX12_between_153 : decode cX12_between 153 = .ok (.goto 14, 3) := by decide +kernel
theorem dX12_between_156 : decode cX12_between 156 = .ok (.iload_n 1, 1) := by decide +kernel
theorem dX12_between_157 : decode cX12_between 157 = .ok (.iload_n 2, 1) := by decide +kernel
theorem dX12_between_158 : decode cX12_between 158 = .ok (.iadd, 1) := by decide +kernel
theorem dX12_between_159 : decode cX12_between 159 = .ok (.ifCond .le 7, 3) := by decide +kernel
theorem dX12_between_162 : decode cX12_between 162 = .ok (.iconst 1, 1) := by decide +kernel
theorem dX12_between_163 : decode cX12_between 163 = .ok (.goto 4, 3) := by decide +kernel
theorem dX12_between_166 : decode cX12_between 166 = .ok (.iconst 0, 1) := by decide +kernel
theorem dX12_between_167 : decode cX12_between 167 = .ok (.istore_n 3, 1) := by decide +kernel
theorem dX12_between_168 : decode cX12_between 168 = .ok (.iload_n 3, 1) := by decide +kernel
theorem dX12_between_169 : decode cX12_between 169 = .ok (.ifCond .eq 7, 3) := by decide +kernel
theorem dX12_between_172 : decode cX12_between 172 = .ok (.iconst 1, 1) := by decide +kernel
theorem dX12_between_173 : decode cX12_between 173 = .ok (.goto 4, 3) := by decide +kernel
theorem dX12_between_176 : decode cX12_between 176 = .ok (.iconst 0, 1) := by decide +kernel
theorem dX12_between_177 : decode cX12_between 177 = .ok (.ireturn, 1) := by decide +kernel
theorem dX12_beyond_0 : decode cX12_beyond 0 = .ok (.iload_n 1, 1) := by decide +kernel
theorem dX12_beyond_1 : decode cX12_beyond 1 = .ok (.aload_n 0, 1) := by decide +kernel
theorem dX12_beyond_2 : decode cX12_beyond 2 = .ok (.iconst 1, 1) := by decide +kernel
theorem dX12_beyond_3 : decode cX12_beyond 3 = .ok (.iaload, 1) := by decide +kernel
theorem dX12_beyond_4 : decode cX12_beyond 4 = .ok (.irem, 1) := by decide +kernel
theorem dX12_beyond_5 : decode cX12_beyond 5 = .ok (.iload_n 2, 1) := by decide +kernel
theorem dX12_beyond_6 : decode cX12_beyond 6 = .ok (.iconst 1, 1) := by decide +kernel
theorem dX12_beyond_7 : decode cX12_beyond 7 = .ok (.if_icmp .ne 7, 3) := by decide +kernel
theorem dX12_beyond_10 : decode cX12_beyond 10 = .ok (.iconst 1, 1) := by decide +kernel
theorem dX12_beyond_11 : decode cX12_beyond 11 = .ok (.goto 13, 3) := by decide +kernel
theorem dX12_beyond_14 : decode cX12_beyond 14 = .ok (.iload_n 2, 1) := by decide +kernel
theorem dX12_beyond_15 : decode cX12_beyond 15 = .ok (.iconst 3, 1) := by decide +kernel
theorem dX12_beyond_16 : decode cX12_beyond 16 = .ok (.if_icmp .ne 7, 3) := by decide +kernel
theorem dX12_beyond_19 : decode cX12_beyond 19 = .ok (.iconst (-1), 1) := by decide +kernel
theorem dX12_beyond_20 : decode cX12_beyond 20 = .ok (.goto 4, 3) := by decide +kernel
theorem dX12_beyond_23 : decode cX12_beyond 23 = .ok (.iconst 0, 1) := by decide +kernel
theorem dX12_beyond_24 : decode cX12_beyond 24 = .ok (.iadd, 1) := by decide +kernel
theorem dX12_beyond_25 : decode cX12_beyond 25 = .ok (.istore_n 3, 1) := by decide +kernel
theorem dX12_beyond_26 : decode cX12_beyond 26 = .ok (.iload_n 1, 1) := by decide +kernel
theorem dX12_beyond_27 : decode cX12_beyond 27 = .ok (.aload_n 0, 1) := by decide +kernel
theorem dX12_beyond_28 : decode cX12_beyond 28 = .ok (.iconst 1, 1) := by decide +kernel
theorem dX12_beyond_29 : decode cX12_beyond 29 = .ok (.iaload, 1) := by decide +kernel
theorem dX12_beyond_30 : decode cX12_beyond 30 = .ok (.idiv, 1) := by decide +kernel
theorem dX12_beyond_31 : decode cX12_beyond 31 = .ok (.iload_n 2, 1) := by decide +kernel
theorem dX12_beyond_32 : decode cX12_beyond 32 = .ok (.iconst 2, 1) := by decide +kernel
theorem dX12_beyond_33 : decode cX12_beyond 33 = .ok (.if_icmp .ne 7, 3) := by decide +kernel
theorem dX12_beyond_36 : decode cX12_beyond 36 = .ok (.iconst 1, 1) := by decide +kernel
theorem dX12_beyond_37 : decode cX12_beyond 37 = .ok (.goto 12, 3) := by decide +kernel
theorem dX12_beyond_40 : decode cX12_beyond 40 = .ok (.iload_n 2, 1) := by decide +kernel
theorem dX12_beyond_41 : decode cX12_beyond 41 = .ok (.ifCond .ne 7, 3) := by decide +kernel
theorem dX12_beyond_44 : decode cX12_beyond 44 = .ok (.iconst (-1), 1) := by decide +kernel
theorem dX12_beyond_45 : decode cX12_beyond 45 = .ok (.goto 4, 3) := by decide +kernel
theorem dX12_beyond_48 : decode cX12_beyond 48 = .ok (.iconst 0, 1) := by decide +kernel
theorem dX12_beyond_49 : decode cX12_beyond 49 = .ok (.iadd, 1) := by decide +kernel
theorem dX12_beyond_50 : decode cX12_beyond 50 = .ok (.istore 4, 2) := by decide +kernel
theorem dX12_beyond_52 : decode cX12_beyond 52 = .ok (.iload_n 3, 1) := by decide +kernel
theorem dX12_beyond_53 : decode cX12_beyond 53 = .ok (.i2l, 1) := by decide +kernel
theorem dX12_beyond_54 : decode cX12_beyond 54 = .ok (.lconst 0, 1) := by decide +kernel
theorem dX12_beyond_55 : decode cX12_beyond 55 = .ok (.aload_n 0, 1) := by decide +kernel
theorem dX12_beyond_56 : decode cX12_beyond 56 = .ok (.iconst 1, 1) := by decide +kernel
theorem dX12_beyond_57 : decode cX12_beyond 57 = .ok (.iaload, 1) := by decide +kernel
theorem dX12_beyond_58 : decode cX12_beyond 58 = .ok (.iconst 1, 1) := by decide +kernel
theorem dX12_beyond_59 : decode cX12_beyond 59 = .ok (.isub, 1) := by decide +kernel
theorem dX12_beyond_60 : decode cX12_beyond 60 = .ok (.i2l, 1) := by decide +kernel
theorem dX12_beyond_61 : decode cX12_beyond 61 = .ok (.invokestatic 161, 3) := by decide +kernel
theorem dX12_beyond_64 : decode cX12_beyond 64 = .ok (.ifCond .eq 30, 3) := by decide +kernel
theorem dX12_beyond_67 : decode cX12_beyond 67 = .ok (.iload 4, 2) := by decide +kernel
theorem dX12_beyond_69 : decode cX12_beyond 69 = .ok (.i2l, 1) := by decide +kernel
theorem dX12_beyond_70 : decode cX12_beyond 70 = .ok (.lconst 0, 1) := by decide +kernel
theorem dX12_beyond_71 : decode cX12_beyond 71 = .ok (.aload_n 0, 1) := by decide +kernel
theorem dX12_beyond_72 : decode cX12_beyond 72 = .ok (.iconst 2, 1) := by decide +kernel
theorem dX12_beyond_73 : decode cX12_beyond 73 = .ok (.iaload, 1) := by decide +kernel
theorem dX12_beyond_74 : decode cX12_beyond 74 = .ok (.iconst 1, 1) := by decide +kernel
theorem dX12_beyond_75 : decode cX12_beyond 75 = .ok (.isub, 1) := by decide +kernel
theorem dX12_beyond_76 : decode cX12_beyond 76 = .ok (.i2l, 1) := by decide +kernel
theorem dX12_beyond_77 : decode cX12_beyond 77 = .ok (.invokestatic 161, 3) := by decide +kernel
theorem dX12_beyond_80 : decode cX12_beyond 80 = .ok (.ifCond .eq 14, 3) := by decide +kernel
theorem dX12_beyond_83 : decode cX12_beyond 83 = .ok (.aload_n 0, 1) := by decide +kernel
theorem dX12_beyond_84 : decode cX12_beyond 84 = .ok (.iconst 1, 1) := by decide +kernel
theorem dX12_beyond_85 : decode cX12_beyond 85 = .ok (.iaload, 1) := by decide +kernel
theorem dX12_beyond_86 : decode cX12_beyond 86 = .ok (.iload 4, 2) := by decide +kernel
theorem dX12_beyond_88 : decode cX12_beyond 88 = .ok (.imul, 1) := by decide +kernel
theorem dX12_beyond_89 : decode cX12_beyond 89 = .ok (.iload_n 3, 1) := by decide +kernel
theorem dX12_beyond_90 : decode cX12_beyond 90 = .ok (.iadd, 1) := by decide +kernel
theorem dX12_beyond_91 : decode cX12_beyond 91 = .ok (.goto 4, 3) := by decide +kernel
theorem dX12_beyond_94 : decode cX12_beyond 94 = .ok (.iconst (-1), 1) := by decide +kernel
theorem dX12_beyond_95 : decode cX12_beyond 95 = .ok (.ireturn, 1) := by decide +kernel
theorem dX12_crossings_0 : decode cX12_crossings 0 = .ok (.aload_n 0, 1) := by decide +kernel
theorem dX12_crossings_1 : decode cX12_crossings 1 = .ok (.getfield 13, 3) := by decide +kernel
theorem dX12_crossings_4 : decode cX12_crossings 4 = .ok (.iconst 1, 1) := by decide +kernel
theorem dX12_crossings_5 : decode cX12_crossings 5 = .ok (.iaload, 1) := by decide +kernel
theorem dX12_crossings_6 : decode cX12_crossings 6 = .ok (.aload_n 0, 1) := by decide +kernel
theorem dX12_crossings_7 : decode cX12_crossings 7 = .ok (.getfield 13, 3) := by decide +kernel
theorem dX12_crossings_10 : decode cX12_crossings 10 = .ok (.iconst 2, 1) := by decide +kernel
theorem dX12_crossings_11 : decode cX12_crossings 11 = .ok (.iaload, 1) := by decide +kernel
theorem dX12_crossings_12 : decode cX12_crossings 12 = .ok (.imul, 1) := by decide +kernel
theorem dX12_crossings_13 : decode cX12_crossings 13 = .ok (.ireturn, 1) := by decide +kernel
theorem dX12_cut_0 : decode cX12_cut 0 = .ok (.iload_n 2, 1) := by decide +kernel
theorem dX12_cut_1 : decode cX12_cut 1 = .ok (.ifCond .ne 10, 3) := by decide +kernel
theorem dX12_cut_4 : decode cX12_cut 4 = .ok (.lload_n 0, 1) := by decide +kernel
theorem dX12_cut_5 : decode cX12_cut 5 = .ok (.l2i, 1) := by decide +kernel
theorem dX12_cut_6 : decode cX12_cut 6 = .ok (.i2b, 1) := by decide +kernel
theorem dX12_cut_7 : decode cX12_cut 7 = .ok (.i2l, 1) := by decide +kernel
theorem dX12_cut_8 : decode cX12_cut 8 = .ok (.goto 27, 3) := by decide +kernel
theorem dX12_cut_11 : decode cX12_cut 11 = .ok (.iload_n 2, 1) := by decide +kernel
theorem dX12_cut_12 : decode cX12_cut 12 = .ok (.iconst 1, 1) := by decide +kernel
theorem dX12_cut_13 : decode cX12_cut 13 = .ok (.if_icmp .ne 10, 3) := by decide +kernel
theorem dX12_cut_16 : decode cX12_cut 16 = .ok (.lload_n 0, 1) := by decide +kernel
theorem dX12_cut_17 : decode cX12_cut 17 = .ok (.l2i, 1) := by decide +kernel
theorem dX12_cut_18 : decode cX12_cut 18 = .ok (.i2s, 1) := by decide +kernel
theorem dX12_cut_19 : decode cX12_cut 19 = .ok (.i2l, 1) := by decide +kernel
theorem dX12_cut_20 : decode cX12_cut 20 = .ok (.goto 15, 3) := by decide +kernel
theorem dX12_cut_23 : decode cX12_cut 23 = .ok (.iload_n 2, 1) := by decide +kernel
theorem dX12_cut_24 : decode cX12_cut 24 = .ok (.iconst 2, 1) := by decide +kernel
theorem dX12_cut_25 : decode cX12_cut 25 = .ok (.if_icmp .ne 9, 3) := by decide +kernel
theorem dX12_cut_28 : decode cX12_cut 28 = .ok (.lload_n 0, 1) := by decide +kernel
theorem dX12_cut_29 : decode cX12_cut 29 = .ok (.l2i, 1) := by decide +kernel
theorem dX12_cut_30 : decode cX12_cut 30 = .ok (.i2l, 1) := by decide +kernel
theorem dX12_cut_31 : decode cX12_cut 31 = .ok (.goto 4, 3) := by decide +kernel
theorem dX12_cut_34 : decode cX12_cut 34 = .ok (.lload_n 0, 1) := by decide +kernel
theorem dX12_cut_35 : decode cX12_cut 35 = .ok (.lreturn, 1) := by decide +kernel
theorem dX12_directionBy_0 : decode cX12_directionBy 0 = .ok (.iload_n 0, 1) := by decide +kernel
theorem dX12_directionBy_1 : decode cX12_directionBy 1 = .ok (.iload_n 1, 1) := by decide +kernel
theorem dX12_directionBy_2 : decode cX12_directionBy 2 = .ok (.iconst 2, 1) := by decide +kernel
theorem dX12_directionBy_3 : decode cX12_directionBy 3 = .ok (.if_icmp .ne 7, 3) := by decide +kernel
theorem dX12_directionBy_6 : decode cX12_directionBy 6 = .ok (.iconst 3, 1) := by decide +kernel
theorem dX12_directionBy_7 : decode cX12_directionBy 7 = .ok (.goto 13, 3) := by decide +kernel
theorem dX12_directionBy_10 : decode cX12_directionBy 10 = .ok (.iload_n 1, 1) := by decide +kernel
theorem dX12_directionBy_11 : decode cX12_directionBy 11 = .ok (.iconst 3, 1) := by decide +kernel
theorem dX12_directionBy_12 : decode cX12_directionBy 12 = .ok (.if_icmp .ne 7, 3) := by decide +kernel
theorem dX12_directionBy_15 : decode cX12_directionBy 15 = .ok (.iconst 2, 1) := by decide +kernel
theorem dX12_directionBy_16 : decode cX12_directionBy 16 = .ok (.goto 4, 3) := by decide +kernel
theorem dX12_directionBy_19 : decode cX12_directionBy 19 = .ok (.iload_n 1, 1) := by decide +kernel
theorem dX12_directionBy_20 : decode cX12_directionBy 20 = .ok (.iadd, 1) := by decide +kernel
theorem dX12_directionBy_21 : decode cX12_directionBy 21 = .ok (.iconst 4, 1) := by decide +kernel
theorem dX12_directionBy_22 : decode cX12_directionBy 22 = .ok (.irem, 1) := by decide +kernel
theorem dX12_directionBy_23 : decode cX12_directionBy 23 = .ok (.ireturn, 1) := by decide +kernel
theorem dX12_isCrossing_0 : decode cX12_isCrossing 0 = .ok (.lload_n 1, 1) := by decide +kernel
theorem dX12_isCrossing_1 : decode cX12_isCrossing 1 = .ok (.lconst 0, 1) := by decide +kernel
theorem dX12_isCrossing_2 : decode cX12_isCrossing 2 = .ok (.aload_n 0, 1) := by decide +kernel
theorem dX12_isCrossing_3 : decode cX12_isCrossing 3 = .ok (.invokevirtual 233, 3) := by decide +kernel
theorem dX12_isCrossing_6 : decode cX12_isCrossing 6 = .ok (.iconst 1, 1) := by decide +kernel
theorem dX12_isCrossing_7 : decode cX12_isCrossing 7 = .ok (.isub, 1) := by decide +kernel
theorem dX12_isCrossing_8 : decode cX12_isCrossing 8 = .ok (.i2l, 1) := by decide +kernel
theorem dX12_isCrossing_9 : decode cX12_isCrossing 9 = .ok (.invokestatic 161, 3) := by decide +kernel
theorem dX12_isCrossing_12 : decode cX12_isCrossing 12 = .ok (.ireturn, 1) := by decide +kernel
theorem dX12_isDigit_0 : decode cX12_isDigit 0 = .ok (.iload_n 0, 1) := by decide +kernel
theorem dX12_isDigit_1 : decode cX12_isDigit 1 = .ok (.bipush 48, 2) := by decide +kernel
theorem dX12_isDigit_3 : decode cX12_isDigit 3 = .ok (.if_icmp .lt 13, 3) := by decide +kernel
theorem dX12_isDigit_6 : decode cX12_isDigit 6 = .ok (.iload_n 0, 1) := by decide +kernel
theorem dX12_isDigit_7 : decode cX12_isDigit 7 = .ok (.bipush 57, 2) := by decide +kernel
theorem dX12_isDigit_9 : decode cX12_isDigit 9 = .ok (.if_icmp .gt 7, 3) := by decide +kernel
theorem dX12_isDigit_12 : decode cX12_isDigit 12 = .ok (.iconst 1, 1) := by decide +kernel
theorem dX12_isDigit_13 : decode cX12_isDigit 13 = .ok (.goto 4, 3) := by decide +kernel
theorem dX12_isDigit_16 : decode cX12_isDigit 16 = .ok (.iconst 0, 1) := by decide +kernel
theorem dX12_isDigit_17 : decode cX12_isDigit 17 = .ok (.ireturn, 1) := by decide +kernel
theorem dX12_isDirection_0 : decode cX12_isDirection 0 = .ok (.iload_n 0, 1) := by decide +kernel
theorem dX12_isDirection_1 : decode cX12_isDirection 1 = .ok (.i2l, 1) := by decide +kernel
theorem dX12_isDirection_2 : decode cX12_isDirection 2 = .ok (.lconst 0, 1) := by decide +kernel
theorem dX12_isDirection_3 : decode cX12_isDirection 3 = .ok (.ldc2_w 236, 3) := by decide +kernel
theorem dX12_isDirection_6 : decode cX12_isDirection 6 = .ok (.invokestatic 161, 3) := by decide +kernel
theorem dX12_isDirection_9 : decode cX12_isDirection 9 = .ok (.ireturn, 1) := by decide +kernel
theorem dX12_isFreeIn_0 : decode cX12_isFreeIn 0 = .ok (.aload_n 0, 1) := by decide +kernel
theorem dX12_isFreeIn_1 : decode cX12_isFreeIn 1 = .ok (.getfield 13, 3) := by decide +kernel
theorem dX12_isFreeIn_4 : decode cX12_isFreeIn 4 = .ok (.bipush 10, 2) := by decide +kernel
theorem dX12_isFreeIn_6 : decode cX12_isFreeIn 6 = .ok (.iaload, 1) := by decide +kernel
theorem dX12_isFreeIn_7 : decode cX12_isFreeIn 7 = .ok (.i2l, 1) := by decide +kernel
theorem dX12_isFreeIn_8 : decode cX12_isFreeIn 8 = .ok (.iload_n 1, 1) := by decide +kernel
theorem dX12_isFreeIn_9 : decode cX12_isFreeIn 9 = .ok (.invokestatic 229, 3) := by decide +kernel
theorem dX12_isFreeIn_12 : decode cX12_isFreeIn 12 = .ok (.ifCond .ne 24, 3) := by decide +kernel
theorem dX12_isFreeIn_15 : decode cX12_isFreeIn 15 = .ok (.aload_n 0, 1) := by decide +kernel
theorem dX12_isFreeIn_16 : decode cX12_isFreeIn 16 = .ok (.getfield 13, 3) := by decide +kernel
theorem dX12_isFreeIn_19 : decode cX12_isFreeIn 19 = .ok (.bipush 111, 2) := by decide +kernel
theorem dX12_isFreeIn_21 : decode cX12_isFreeIn 21 = .ok (.iaload, 1) := by decide +kernel
theorem dX12_isFreeIn_22 : decode cX12_isFreeIn 22 = .ok (.iload_n 2, 1) := by decide +kernel
theorem dX12_isFreeIn_23 : decode cX12_isFreeIn 23 = .ok (.iadd, 1) := by decide +kernel
theorem dX12_isFreeIn_24 : decode cX12_isFreeIn 24 = .ok (.aload_n 0, 1) := by decide +kernel
theorem dX12_isFreeIn_25 : decode cX12_isFreeIn 25 = .ok (.getfield 13, 3) := by decide +kernel
theorem dX12_isFreeIn_28 : decode cX12_isFreeIn 28 = .ok (.bipush 86, 2) := by decide +kernel
theorem dX12_isFreeIn_30 : decode cX12_isFreeIn 30 = .ok (.iload_n 1, 1) := by decide +kernel
theorem dX12_isFreeIn_31 : decode cX12_isFreeIn 31 = .ok (.iadd, 1) := by decide +kernel
theorem dX12_isFreeIn_32 : decode cX12_isFreeIn 32 = .ok (.iaload, 1) := by decide +kernel
theorem dX12_isFreeIn_33 : decode cX12_isFreeIn 33 = .ok (.if_icmp .ge 7, 3) := by decide +kernel
theorem dX12_isFreeIn_36 : decode cX12_isFreeIn 36 = .ok (.iconst 1, 1) := by decide +kernel
theorem dX12_isFreeIn_37 : decode cX12_isFreeIn 37 = .ok (.goto 4, 3) := by decide +kernel
theorem dX12_isFreeIn_40 : decode cX12_isFreeIn 40 = .ok (.iconst 0, 1) := by decide +kernel
theorem dX12_isFreeIn_41 : decode cX12_isFreeIn 41 = .ok (.ireturn, 1) := by decide +kernel
theorem dX12_isIn_0 : decode cX12_isIn 0 = .ok (.lload_n 0, 1) := by decide +kernel
theorem dX12_isIn_1 : decode cX12_isIn 1 = .ok (.iload_n 2, 1) := by decide +kernel
theorem dX12_isIn_2 : decode cX12_isIn 2 = .ok (.lshr, 1) := by decide +kernel
theorem dX12_isIn_3 : decode cX12_isIn 3 = .ok (.lconst 1, 1) := by decide +kernel
theorem dX12_isIn_4 : decode cX12_isIn 4 = .ok (.land, 1) := by decide +kernel
theorem dX12_isIn_5 : decode cX12_isIn 5 = .ok (.lconst 1, 1) := by decide +kernel
theorem dX12_isIn_6 : decode cX12_isIn 6 = .ok (.lcmp, 1) := by decide +kernel
theorem dX12_isIn_7 : decode cX12_isIn 7 = .ok (.ifCond .ne 7, 3) := by decide +kernel
theorem dX12_isIn_10 : decode cX12_isIn 10 = .ok (.iconst 1, 1) := by decide +kernel
theorem dX12_isIn_11 : decode cX12_isIn 11 = .ok (.goto 4, 3) := by decide +kernel
theorem dX12_isIn_14 : decode cX12_isIn 14 = .ok (.iconst 0, 1) := by decide +kernel
theorem dX12_isIn_15 : decode cX12_isIn 15 = .ok (.ireturn, 1) := by decide +kernel
theorem dX12_isPerson_0 : decode cX12_isPerson 0 = .ok (.lload_n 1, 1) := by decide +kernel
theorem dX12_isPerson_1 : decode cX12_isPerson 1 = .ok (.lconst 0, 1) := by decide +kernel
theorem dX12_isPerson_2 : decode cX12_isPerson 2 = .ok (.aload_n 0, 1) := by decide +kernel
theorem dX12_isPerson_3 : decode cX12_isPerson 3 = .ok (.getfield 13, 3) := by decide +kernel
theorem dX12_isPerson_6 : decode cX12_isPerson 6 = .ok (.iconst 3, 1) := by decide +kernel
theorem dX12_isPerson_7 : decode cX12_isPerson 7 = .ok (.iaload, 1) := by decide +kernel
theorem dX12_isPerson_8 : decode cX12_isPerson 8 = .ok (.iconst 1, 1) := by decide +kernel
theorem dX12_isPerson_9 : decode cX12_isPerson 9 = .ok (.isub, 1) := by decide +kernel
theorem dX12_isPerson_10 : decode cX12_isPerson 10 = .ok (.i2l, 1) := by decide +kernel
theorem dX12_isPerson_11 : decode cX12_isPerson 11 = .ok (.invokestatic 161, 3) := by decide +kernel
theorem dX12_isPerson_14 : decode cX12_isPerson 14 = .ok (.ireturn, 1) := by decide +kernel
theorem dX12_isSmall_0 : decode cX12_isSmall 0 = .ok (.iload_n 0, 1) := by decide +kernel
theorem dX12_isSmall_1 : decode cX12_isSmall 1 = .ok (.bipush 97, 2) := by decide +kernel
theorem dX12_isSmall_3 : decode cX12_isSmall 3 = .ok (.if_icmp .lt 13, 3) := by decide +kernel
theorem dX12_isSmall_6 : decode cX12_isSmall 6 = .ok (.iload_n 0, 1) := by decide +kernel
theorem dX12_isSmall_7 : decode cX12_isSmall 7 = .ok (.bipush 122, 2) := by decide +kernel
theorem dX12_isSmall_9 : decode cX12_isSmall 9 = .ok (.if_icmp .gt 7, 3) := by decide +kernel
theorem dX12_isSmall_12 : decode cX12_isSmall 12 = .ok (.iconst 1, 1) := by decide +kernel
theorem dX12_isSmall_13 : decode cX12_isSmall 13 = .ok (.goto 4, 3) := by decide +kernel
theorem dX12_isSmall_16 : decode cX12_isSmall 16 = .ok (.iconst 0, 1) := by decide +kernel
theorem dX12_isSmall_17 : decode cX12_isSmall 17 = .ok (.ireturn, 1) := by decide +kernel
theorem dX12_leftsOf_0 : decode cX12_leftsOf 0 = .ok (.iload_n 0, 1) := by decide +kernel
theorem dX12_leftsOf_1 : decode cX12_leftsOf 1 = .ok (.iconst 2, 1) := by decide +kernel
theorem dX12_leftsOf_2 : decode cX12_leftsOf 2 = .ok (.if_icmp .ge 7, 3) := by decide +kernel
theorem dX12_leftsOf_5 : decode cX12_leftsOf 5 = .ok (.iconst 0, 1) := by decide +kernel
theorem dX12_leftsOf_6 : decode cX12_leftsOf 6 = .ok (.goto 6, 3) := by decide +kernel
theorem dX12_leftsOf_9 : decode cX12_leftsOf 9 = .ok (.iload_n 0, 1) := by decide +kernel
theorem dX12_leftsOf_10 : decode cX12_leftsOf 10 = .ok (.iconst 1, 1) := by decide +kernel
theorem dX12_leftsOf_11 : decode cX12_leftsOf 11 = .ok (.isub, 1) := by decide +kernel
theorem dX12_leftsOf_12 : decode cX12_leftsOf 12 = .ok (.ireturn, 1) := by decide +kernel
theorem dX12_lesser_0 : decode cX12_lesser 0 = .ok (.iload_n 0, 1) := by decide +kernel
theorem dX12_lesser_1 : decode cX12_lesser 1 = .ok (.iload_n 1, 1) := by decide +kernel
theorem dX12_lesser_2 : decode cX12_lesser 2 = .ok (.if_icmp .ge 7, 3) := by decide +kernel
theorem dX12_lesser_5 : decode cX12_lesser 5 = .ok (.iload_n 0, 1) := by decide +kernel
theorem dX12_lesser_6 : decode cX12_lesser 6 = .ok (.goto 4, 3) := by decide +kernel
theorem dX12_lesser_9 : decode cX12_lesser 9 = .ok (.iload_n 1, 1) := by decide +kernel
theorem dX12_lesser_10 : decode cX12_lesser 10 = .ok (.ireturn, 1) := by decide +kernel
theorem dX12_orNone_0 : decode cX12_orNone 0 = .ok (.iload_n 0, 1) := by decide +kernel
theorem dX12_orNone_1 : decode cX12_orNone 1 = .ok (.ldc_w 351, 3) := by decide +kernel
theorem dX12_orNone_4 : decode cX12_orNone 4 = .ok (.if_icmp .ne 7, 3) := by decide +kernel
theorem dX12_orNone_7 : decode cX12_orNone 7 = .ok (.iconst (-1), 1) := by decide +kernel
theorem dX12_orNone_8 : decode cX12_orNone 8 = .ok (.goto 4, 3) := by decide +kernel
theorem dX12_orNone_11 : decode cX12_orNone 11 = .ok (.iload_n 0, 1) := by decide +kernel
theorem dX12_orNone_12 : decode cX12_orNone 12 = .ok (.ireturn, 1) := by decide +kernel
theorem dX12_see_0 : decode cX12_see 0 = .ok (.iload_n 1, 1) := by decide +kernel
theorem dX12_see_1 : decode cX12_see 1 = .ok (.aload_n 0, 1) := by decide +kernel
theorem dX12_see_2 : decode cX12_see 2 = .ok (.getfield 102, 3) := by decide +kernel
theorem dX12_see_5 : decode cX12_see 5 = .ok (.if_icmp .ge 12, 3) := by decide +kernel
theorem dX12_see_8 : decode cX12_see 8 = .ok (.aload_n 0, 1) := by decide +kernel
theorem dX12_see_9 : decode cX12_see 9 = .ok (.getfield 21, 3) := by decide +kernel
theorem dX12_see_12 : decode cX12_see 12 = .ok (.iload_n 1, 1) := by decide +kernel
theorem dX12_see_13 : decode cX12_see 13 = .ok (.iaload, 1) := by decide +kernel
theorem dX12_see_14 : decode cX12_see 14 = .ok (.goto 4, 3) := by decide +kernel
theorem dX12_see_17 : decode cX12_see 17 = .ok (.iconst (-1), 1) := by decide +kernel
theorem dX12_see_18 : decode cX12_see 18 = .ok (.ireturn, 1) := by decide +kernel
theorem dX12_streetFrom_0 : decode cX12_streetFrom 0 = .ok (.aload_n 0, 1) := by decide +kernel
theorem dX12_streetFrom_1 : decode cX12_streetFrom 1 = .ok (.getfield 13, 3) := by decide +kernel
theorem dX12_streetFrom_4 : decode cX12_streetFrom 4 = .ok (.bipush 11, 2) := by decide +kernel
theorem dX12_streetFrom_6 : decode cX12_streetFrom 6 = .ok (.iload_n 1, 1) := by decide +kernel
theorem dX12_streetFrom_7 : decode cX12_streetFrom 7 = .ok (.iadd, 1) := by decide +kernel
theorem dX12_streetFrom_8 : decode cX12_streetFrom 8 = .ok (.iaload, 1) := by decide +kernel
theorem dX12_streetFrom_9 : decode cX12_streetFrom 9 = .ok (.i2l, 1) := by decide +kernel
theorem dX12_streetFrom_10 : decode cX12_streetFrom 10 = .ok (.iload_n 2, 1) := by decide +kernel
theorem dX12_streetFrom_11 : decode cX12_streetFrom 11 = .ok (.invokestatic 229, 3) := by decide +kernel
theorem dX12_streetFrom_14 : decode cX12_streetFrom 14 = .ok (.ifCond .eq 7, 3) := by decide +kernel
theorem dX12_streetFrom_17 : decode cX12_streetFrom 17 = .ok (.iconst (-1), 1) := by decide +kernel
theorem dX12_streetFrom_18 : decode cX12_streetFrom 18 = .ok (.goto 12, 3) := by decide +kernel
theorem dX12_streetFrom_21 : decode cX12_streetFrom 21 = .ok (.aload_n 0, 1) := by decide +kernel
theorem dX12_streetFrom_22 : decode cX12_streetFrom 22 = .ok (.getfield 13, 3) := by decide +kernel
theorem dX12_streetFrom_25 : decode cX12_streetFrom 25 = .ok (.iload_n 1, 1) := by decide +kernel
theorem dX12_streetFrom_26 : decode cX12_streetFrom 26 = .ok (.iload_n 2, 1) := by decide +kernel
theorem dX12_streetFrom_27 : decode cX12_streetFrom 27 = .ok (.invokestatic 203, 3) := by decide +kernel
theorem dX12_streetFrom_30 : decode cX12_streetFrom 30 = .ok (.ireturn, 1) := by decide +kernel
theorem dX12_within_0 : decode cX12_within 0 = .ok (.lload_n 0, 1) := by decide +kernel
theorem dX12_within_1 : decode cX12_within 1 = .ok (.lload_n 2, 1) := by decide +kernel
theorem dX12_within_2 : decode cX12_within 2 = .ok (.lcmp, 1) := by decide +kernel
theorem dX12_within_3 : decode cX12_within 3 = .ok (.ifCond .lt 14, 3) := by decide +kernel
theorem dX12_within_6 : decode cX12_within 6 = .ok (.lload_n 0, 1) := by decide +kernel
theorem dX12_within_7 : decode cX12_within 7 = .ok (.lload 4, 2) := by decide +kernel
theorem dX12_within_9 : decode cX12_within 9 = .ok (.lcmp, 1) := by decide +kernel
theorem dX12_within_10 : decode cX12_within 10 = .ok (.ifCond .gt 7, 3) := by decide +kernel
theorem dX12_within_13 : decode cX12_within 13 = .ok (.iconst 1, 1) := by decide +kernel
theorem dX12_within_14 : decode cX12_within 14 = .ok (.goto 4, 3) := by decide +kernel
theorem dX12_within_17 : decode cX12_within 17 = .ok (.iconst 0, 1) := by decide +kernel
theorem dX12_within_18 : decode cX12_within 18 = .ok (.ireturn, 1) := by decide +kernel
theorem dX12_wordOf_0 : decode cX12_wordOf 0 = .ok (.aload_n 0, 1) := by decide +kernel
theorem dX12_wordOf_1 : decode cX12_wordOf 1 = .ok (.getfield 13, 3) := by decide +kernel
theorem dX12_wordOf_4 : decode cX12_wordOf 4 = .ok (.bipush 111, 2) := by decide +kernel
theorem dX12_wordOf_6 : decode cX12_wordOf 6 = .ok (.iaload, 1) := by decide +kernel
theorem dX12_wordOf_7 : decode cX12_wordOf 7 = .ok (.iload_n 3, 1) := by decide +kernel
theorem dX12_wordOf_8 : decode cX12_wordOf 8 = .ok (.iadd, 1) := by decide +kernel
theorem dX12_wordOf_9 : decode cX12_wordOf 9 = .ok (.istore 5, 2) := by decide +kernel
theorem dX12_wordOf_11 : decode cX12_wordOf 11 = .ok (.iload_n 1, 1) := by decide +kernel
theorem dX12_wordOf_12 : decode cX12_wordOf 12 = .ok (.tableswitch 76 0 4 #[36, 45, 54, 60, 66], 36) := by decide +kernel
theorem dX12_wordOf_48 : decode cX12_wordOf 48 = .ok (.iload_n 2, 1) := by decide +kernel
theorem dX12_wordOf_49 : decode cX12_wordOf 49 = .ok (.aload_n 0, 1) := by decide +kernel
theorem dX12_wordOf_50 : decode cX12_wordOf 50 = .ok (.getfield 13, 3) := by decide +kernel
theorem dX12_wordOf_53 : decode cX12_wordOf 53 = .ok (.iconst 1, 1) := by decide +kernel
theorem dX12_wordOf_54 : decode cX12_wordOf 54 = .ok (.iaload, 1) := by decide +kernel
theorem dX12_wordOf_55 : decode cX12_wordOf 55 = .ok (.irem, 1) := by decide +kernel
theorem dX12_wordOf_56 : decode cX12_wordOf 56 = .ok (.ireturn, 1) := by decide +kernel
theorem dX12_wordOf_57 : decode cX12_wordOf 57 = .ok (.iload_n 2, 1) := by decide +kernel
theorem dX12_wordOf_58 : decode cX12_wordOf 58 = .ok (.aload_n 0, 1) := by decide +kernel
theorem dX12_wordOf_59 : decode cX12_wordOf 59 = .ok (.getfield 13, 3) := by decide +kernel
theorem dX12_wordOf_62 : decode cX12_wordOf 62 = .ok (.iconst 1, 1) := by decide +kernel
theorem dX12_wordOf_63 : decode cX12_wordOf 63 = .ok (.iaload, 1) := by decide +kernel
theorem dX12_wordOf_64 : decode cX12_wordOf 64 = .ok (.idiv, 1) := by decide +kernel
theorem dX12_wordOf_65 : decode cX12_wordOf 65 = .ok (.ireturn, 1) := by decide +kernel
theorem dX12_wordOf_66 : decode cX12_wordOf 66 = .ok (.iload 5, 2) := by decide +kernel
theorem dX12_wordOf_68 : decode cX12_wordOf 68 = .ok (.bipush 24, 2) := by decide +kernel
theorem dX12_wordOf_70 : decode cX12_wordOf 70 = .ok (.irem, 1) := by decide +kernel
theorem dX12_wordOf_71 : decode cX12_wordOf 71 = .ok (.ireturn, 1) := by decide +kernel
theorem dX12_wordOf_72 : decode cX12_wordOf 72 = .ok (.iload 5, 2) := by decide +kernel
theorem dX12_wordOf_74 : decode cX12_wordOf 74 = .ok (.bipush 24, 2) := by decide +kernel
theorem dX12_wordOf_76 : decode cX12_wordOf 76 = .ok (.idiv, 1) := by decide +kernel
theorem dX12_wordOf_77 : decode cX12_wordOf 77 = .ok (.ireturn, 1) := by decide +kernel
theorem dX12_wordOf_78 : decode cX12_wordOf 78 = .ok (.aload_n 0, 1) := by decide +kernel
theorem dX12_wordOf_79 : decode cX12_wordOf 79 = .ok (.getfield 13, 3) := by decide +kernel
theorem dX12_wordOf_82 : decode cX12_wordOf 82 = .ok (.bipush 61, 2) := by decide +kernel
theorem dX12_wordOf_84 : decode cX12_wordOf 84 = .ok (.iload_n 2, 1) := by decide +kernel
theorem dX12_wordOf_85 : decode cX12_wordOf 85 = .ok (.iadd, 1) := by decide +kernel
theorem dX12_wordOf_86 : decode cX12_wordOf 86 = .ok (.iaload, 1) := by decide +kernel
theorem dX12_wordOf_87 : decode cX12_wordOf 87 = .ok (.ireturn, 1) := by decide +kernel
theorem dX12_wordOf_88 : decode cX12_wordOf 88 = .ok (.iload 4, 2) := by decide +kernel
theorem dX12_wordOf_90 : decode cX12_wordOf 90 = .ok (.ireturn, 1) := by decide +kernel
theorem o32_1 {x0 : Int} (h0 : x0 = 0) : 0 ≤ x0 := by omega
theorem o32_2 {x0 : Int} (h0 : x0 = 0) : x0 ≤ 1 := by omega
theorem o32_3 {x0 x1 x2 x3 x4 : Int} (h0 : ((x4 = -1 ∧ x1 < x2) ∨ (x4 = 0 ∧ x1 = x2) ∨ (x4 = 1 ∧ x2 < x1))) (h1 : x4 < 0) (h2 : x0 = 0) : ((x0 = 0 ∧ (x1 < x2 ∨ x3 < x1)) ∨ (x0 = 1 ∧ x2 ≤ x1 ∧ x1 ≤ x3)) := by omega
theorem o32_4 {x0 x1 x2 x3 x4 x5 : Int} (h0 : ((x4 = -1 ∧ x1 < x2) ∨ (x4 = 0 ∧ x1 = x2) ∨ (x4 = 1 ∧ x2 < x1))) (h1 : 0 ≤ x4) (h2 : ((x5 = -1 ∧ x1 < x3) ∨ (x5 = 0 ∧ x1 = x3) ∨ (x5 = 1 ∧ x3 < x1))) (h3 : 0 < x5) (h4 : x0 = 0) : ((x0 = 0 ∧ (x1 < x2 ∨ x3 < x1)) ∨ (x0 = 1 ∧ x2 ≤ x1 ∧ x1 ≤ x3)) := by omega
theorem o32_5 {x0 : Int} (h0 : x0 = 1) : 0 ≤ x0 := by omega
theorem o32_6 {x0 : Int} (h0 : x0 = 1) : x0 ≤ 1 := by omega
theorem o32_7 {x0 x1 x2 x3 x4 x5 : Int} (h0 : ((x4 = -1 ∧ x1 < x2) ∨ (x4 = 0 ∧ x1 = x2) ∨ (x4 = 1 ∧ x2 < x1))) (h1 : 0 ≤ x4) (h2 : ((x5 = -1 ∧ x1 < x3) ∨ (x5 = 0 ∧ x1 = x3) ∨ (x5 = 1 ∧ x3 < x1))) (h3 : x5 ≤ 0) (h4 : x0 = 1) : ((x0 = 0 ∧ (x1 < x2 ∨ x3 < x1)) ∨ (x0 = 1 ∧ x2 ≤ x1 ∧ x1 ≤ x3)) := by omega
theorem o32_8 {x0 : Int} (h0 : x0 = 0) : x0 = 0 := by omega
theorem o32_9 {x0 x1 x2 : Int} (h0 : x0 = 1) (h1 : ((x1 = -1 ∧ x2 < x0) ∨ (x1 = 0 ∧ x2 = x0) ∨ (x1 = 1 ∧ x0 < x2))) (h2 : ¬ x1 = 0) (h3 : x2 = 1) : False := by omega
theorem o32_10 {x0 : Int} (h0 : x0 = 1) : x0 = 1 := by omega
theorem o32_11 {x0 x1 x2 : Int} (h0 : x1 = 1) (h1 : ((x2 = -1 ∧ x0 < x1) ∨ (x2 = 0 ∧ x0 = x1) ∨ (x2 = 1 ∧ x1 < x0))) (h2 : x2 = 0) : x0 = 1 := by omega
theorem o32_12 {x0 : Int} (h0 : x0 = (-1)) : (-1) ≤ x0 := by omega
theorem o32_13 {x0 : Int} (h0 : x0 = (-1)) : x0 ≤ 255 := by omega
theorem o32_14 {x0 x1 x2 : Int} (h0 : 0 ≤ x1) (h1 : x1 ≤ 901) (h2 : 0 ≤ x2) (h3 : x2 ≤ 900) (h4 : x2 ≤ x1) (h5 : x0 = (-1)) : (x0 = -1 ∨ x1 ≤ 899) := by omega
theorem o32_15 {x0 x1 : Int} (h0 : 0 ≤ x0) (h1 : x0 ≤ 901) (h2 : 0 ≤ x1) (h3 : x1 ≤ 900) (h4 : x0 < x1) : 0 ≤ x0 := by omega
theorem o32_16 {x0 x1 : Int} (h0 : 0 ≤ x0) (h1 : x0 ≤ 901) (h2 : 0 ≤ x1) (h3 : x1 ≤ 900) (h4 : x0 < x1) : x0 < (900 : Nat) := by omega
theorem o32_17 {x0 : Int} (h0 : 0 ≤ x0) (h1 : x0 ≤ 255) : (-1) ≤ x0 := by omega
theorem o32_18 {x0 : Int} (h0 : 0 ≤ x0) (h1 : x0 ≤ 255) : x0 ≤ 255 := by omega
theorem o32_19 {x0 x1 x2 : Int} (h0 : 0 ≤ x1) (h1 : x1 ≤ 901) (h2 : 0 ≤ x2) (h3 : x2 ≤ 900) (h4 : x1 < x2) (h5 : 0 ≤ x0) (h6 : x0 ≤ 255) : (x0 = -1 ∨ x1 ≤ 899) := by omega
theorem o32_20 {x0 : Int} (h0 : x0 = 97) : x0 = 97 := by omega
theorem o32_21 {x0 x1 : Int} (h0 : x1 = 97) (h1 : x0 < x1) : x0 < 97 := by omega
theorem o32_22 {x0 x1 : Int} (h0 : x1 = 97) (h1 : x1 ≤ x0) : ¬ x0 < 97 := by omega
theorem o32_23 {x0 x1 x2 : Int} (h0 : x2 = 97) (h1 : x1 < x2) (h2 : x0 = 0) : (x0 = 0 ∨ (97 ≤ x1 ∧ x1 ≤ 122)) := by omega
theorem o32_24 {x0 : Int} (h0 : x0 = 122) : x0 = 122 := by omega
theorem o32_25 {x0 x1 x2 : Int} (h0 : x1 = 97) (h1 : x1 ≤ x0) (h2 : x2 = 122) (h3 : x2 < x0) : 122 < x0 := by omega
theorem o32_26 {x0 x1 x2 : Int} (h0 : x1 = 97) (h1 : x1 ≤ x0) (h2 : x2 = 122) (h3 : x0 ≤ x2) : ¬ 122 < x0 := by omega
theorem o32_27 {x0 x1 x2 x3 : Int} (h0 : x2 = 97) (h1 : x2 ≤ x1) (h2 : x3 = 122) (h3 : x3 < x1) (h4 : x0 = 0) : (x0 = 0 ∨ (97 ≤ x1 ∧ x1 ≤ 122)) := by omega
theorem o32_28 {x0 x1 x2 x3 : Int} (h0 : x2 = 97) (h1 : x2 ≤ x1) (h2 : x3 = 122) (h3 : x1 ≤ x3) (h4 : x0 = 1) : (x0 = 0 ∨ (97 ≤ x1 ∧ x1 ≤ 122)) := by omega
theorem o32_29 {x0 : Int} (h0 : x0 = 48) : x0 = 48 := by omega
theorem o32_30 {x0 x1 : Int} (h0 : x1 = 48) (h1 : x0 < x1) : x0 < 48 := by omega
theorem o32_31 {x0 x1 : Int} (h0 : x1 = 48) (h1 : x1 ≤ x0) : ¬ x0 < 48 := by omega
theorem o32_32 {x0 x1 x2 : Int} (h0 : x2 = 48) (h1 : x1 < x2) (h2 : x0 = 0) : (x0 = 0 ∨ (48 ≤ x1 ∧ x1 ≤ 57)) := by omega
theorem o32_33 {x0 : Int} (h0 : x0 = 57) : x0 = 57 := by omega
theorem o32_34 {x0 x1 x2 : Int} (h0 : x1 = 48) (h1 : x1 ≤ x0) (h2 : x2 = 57) (h3 : x2 < x0) : 57 < x0 := by omega
theorem o32_35 {x0 x1 x2 : Int} (h0 : x1 = 48) (h1 : x1 ≤ x0) (h2 : x2 = 57) (h3 : x0 ≤ x2) : ¬ 57 < x0 := by omega
theorem o32_36 {x0 x1 x2 x3 : Int} (h0 : x2 = 48) (h1 : x2 ≤ x1) (h2 : x3 = 57) (h3 : x3 < x1) (h4 : x0 = 0) : (x0 = 0 ∨ (48 ≤ x1 ∧ x1 ≤ 57)) := by omega
theorem o32_37 {x0 x1 x2 x3 : Int} (h0 : x2 = 48) (h1 : x2 ≤ x1) (h2 : x3 = 57) (h3 : x1 ≤ x3) (h4 : x0 = 1) : (x0 = 0 ∨ (48 ≤ x1 ∧ x1 ≤ 57)) := by omega
theorem o32_38 {x0 : Int} (h0 : x0 = 1) : x0 < (5322 : Nat) := by omega
theorem o32_39 : ∀ p, p < 2 → 1 ≤ p → 0 ≤ (elAll p).1 ∧ (elAll p).2 ≤ 5 := by decide +kernel
theorem o32_40 {x0 : Int} (h0 : x0 = 1) : (x0).toNat < 2 := by omega
theorem o32_41 {x0 : Int} (h0 : x0 = 1) : 1 ≤ (x0).toNat := by omega
theorem o32_42 {x0 : Int} (h0 : x0 = 1) : x0 = ((1 : Nat) : Int) := by omega
theorem o32_43 {x0 : Int} (h0 : x0 = 2) : 0 ≤ x0 := by omega
theorem o32_44 {x0 : Int} (h0 : x0 = 2) : x0 < (5322 : Nat) := by omega
theorem o32_45 : ∀ p, p < 3 → 2 ≤ p → 0 ≤ (elAll p).1 ∧ (elAll p).2 ≤ 5 := by decide +kernel
theorem o32_46 {x0 : Int} (h0 : x0 = 2) : (x0).toNat < 3 := by omega
theorem o32_47 {x0 : Int} (h0 : x0 = 2) : 2 ≤ (x0).toNat := by omega
theorem o32_48 {x0 : Int} (h0 : x0 = 2) : x0 = ((2 : Nat) : Int) := by omega
theorem o32_49 {x0 : Int} (h0 : 0 ≤ x0) (h1 : x0 ≤ 5) : 0 ≤ x0 := by omega
theorem o32_50 {x0 : Int} (h0 : 0 ≤ x0) (h1 : x0 ≤ 5) : x0 ≤ 5 := by omega
theorem o32_51 {x0 : Int} (h0 : 0 * 0 ≤ x0) (h1 : x0 ≤ 5 * 5) : 0 ≤ x0 := by omega
theorem o32_52 {x0 : Int} (h0 : 0 * 0 ≤ x0) (h1 : x0 ≤ 5 * 5) : x0 ≤ 25 := by omega
theorem o32_53 {x0 x1 : Int} (h0 : 0 ≤ x0) (h1 : x0 ≤ 25) (h2 : x1 = 1) (h3 : -2147483648 ≤ x0) (h4 : x0 ≤ 2147483647) (h5 : -2147483648 ≤ x1) (h6 : x1 ≤ 2147483647) : -2147483648 ≤ x0 - x1 := by omega
theorem o32_54 {x0 x1 : Int} (h0 : 0 ≤ x0) (h1 : x0 ≤ 25) (h2 : x1 = 1) (h3 : -2147483648 ≤ x0) (h4 : x0 ≤ 2147483647) (h5 : -2147483648 ≤ x1) (h6 : x1 ≤ 2147483647) : x0 - x1 ≤ 2147483647 := by omega
theorem o32_55 {x0 x1 x2 x3 x4 x5 x6 : Int} (h0 : x0 = 0) (h1 : 0 ≤ x1) (h2 : x1 ≤ 25) (h3 : x2 = 1) (h4 : x3 = x1 - x2) (h5 : x4 = x3) (h6 : 0 ≤ x5) (h7 : x5 ≤ 1) (h8 : ((x5 = 0 ∧ (x6 < x0 ∨ x4 < x6)) ∨ (x5 = 1 ∧ x0 ≤ x6 ∧ x6 ≤ x4))) : x0 = 0 := by omega
theorem o32_56 {x0 x1 x2 x3 x4 x5 x6 : Int} (h0 : x1 = 0) (h1 : 0 ≤ x2) (h2 : x2 ≤ 25) (h3 : x3 = 1) (h4 : x4 = x2 - x3) (h5 : x5 = x4) (h6 : 0 ≤ x0) (h7 : x0 ≤ 1) (h8 : ((x0 = 0 ∧ (x6 < x1 ∨ x5 < x6)) ∨ (x0 = 1 ∧ x1 ≤ x6 ∧ x6 ≤ x5))) : 0 ≤ x0 := by omega
theorem o32_57 {x0 x1 x2 x3 x4 x5 x6 : Int} (h0 : x1 = 0) (h1 : 0 ≤ x2) (h2 : x2 ≤ 25) (h3 : x3 = 1) (h4 : x4 = x2 - x3) (h5 : x5 = x4) (h6 : 0 ≤ x0) (h7 : x0 ≤ 1) (h8 : ((x0 = 0 ∧ (x6 < x1 ∨ x5 < x6)) ∨ (x0 = 1 ∧ x1 ≤ x6 ∧ x6 ≤ x5))) : x0 ≤ 1 := by omega
theorem o32_58 {x0 x1 x2 x3 x4 x5 x6 : Int} (h0 : x2 = 0) (h1 : 0 ≤ x3) (h2 : x3 ≤ 25) (h3 : x4 = 1) (h4 : x5 = x3 - x4) (h5 : x6 = x5) (h6 : 0 ≤ x0) (h7 : x0 ≤ 1) (h8 : ((x0 = 0 ∧ (x1 < x2 ∨ x6 < x1)) ∨ (x0 = 1 ∧ x2 ≤ x1 ∧ x1 ≤ x6))) : (x0 = 0 ∨ (0 ≤ x1 ∧ x1 ≤ 24)) := by omega
theorem o32_59 {x0 x1 x2 x3 x4 x5 x6 : Int} (h0 : x1 = 0) (h1 : 0 ≤ x2) (h2 : x2 ≤ 25) (h3 : x3 = 1) (h4 : x4 = x2 - x3) (h5 : x5 = x4) (h6 : 0 ≤ x0) (h7 : x0 ≤ 1) (h8 : ((x0 = 0 ∧ (x6 < x1 ∨ x5 < x6)) ∨ (x0 = 1 ∧ x1 ≤ x6 ∧ x6 ≤ x5))) (h9 : x2 = 0) : x0 = 0 := by omega
theorem o32_60 {x0 : Int} (h0 : x0 = 3) : 0 ≤ x0 := by omega
theorem o32_61 {x0 : Int} (h0 : x0 = 3) : x0 < (5322 : Nat) := by omega
theorem o32_62 : ∀ p, p < 4 → 3 ≤ p → 0 ≤ (elAll p).1 ∧ (elAll p).2 ≤ 5 := by decide +kernel
theorem o32_63 {x0 : Int} (h0 : x0 = 3) : (x0).toNat < 4 := by omega
theorem o32_64 {x0 : Int} (h0 : x0 = 3) : 3 ≤ (x0).toNat := by omega
theorem o32_65 {x0 : Int} (h0 : x0 = 3) : x0 = ((3 : Nat) : Int) := by omega
theorem o32_66 {x0 x1 : Int} (h0 : 0 ≤ x0) (h1 : x0 ≤ 5) (h2 : x1 = 1) (h3 : -2147483648 ≤ x0) (h4 : x0 ≤ 2147483647) (h5 : -2147483648 ≤ x1) (h6 : x1 ≤ 2147483647) : -2147483648 ≤ x0 - x1 := by omega
theorem o32_67 {x0 x1 : Int} (h0 : 0 ≤ x0) (h1 : x0 ≤ 5) (h2 : x1 = 1) (h3 : -2147483648 ≤ x0) (h4 : x0 ≤ 2147483647) (h5 : -2147483648 ≤ x1) (h6 : x1 ≤ 2147483647) : x0 - x1 ≤ 2147483647 := by omega
theorem o32_68 {x0 x1 x2 x3 x4 x5 x6 : Int} (h0 : x1 = 0) (h1 : 0 ≤ x2) (h2 : x2 ≤ 5) (h3 : x3 = 1) (h4 : x4 = x2 - x3) (h5 : x5 = x4) (h6 : 0 ≤ x0) (h7 : x0 ≤ 1) (h8 : ((x0 = 0 ∧ (x6 < x1 ∨ x5 < x6)) ∨ (x0 = 1 ∧ x1 ≤ x6 ∧ x6 ≤ x5))) : 0 ≤ x0 := by omega
theorem o32_69 {x0 x1 x2 x3 x4 x5 x6 : Int} (h0 : x1 = 0) (h1 : 0 ≤ x2) (h2 : x2 ≤ 5) (h3 : x3 = 1) (h4 : x4 = x2 - x3) (h5 : x5 = x4) (h6 : 0 ≤ x0) (h7 : x0 ≤ 1) (h8 : ((x0 = 0 ∧ (x6 < x1 ∨ x5 < x6)) ∨ (x0 = 1 ∧ x1 ≤ x6 ∧ x6 ≤ x5))) : x0 ≤ 1 := by omega
theorem o32_70 {x0 x1 x2 x3 x4 x5 x6 : Int} (h0 : x2 = 0) (h1 : 0 ≤ x3) (h2 : x3 ≤ 5) (h3 : x4 = 1) (h4 : x5 = x3 - x4) (h5 : x6 = x5) (h6 : 0 ≤ x0) (h7 : x0 ≤ 1) (h8 : ((x0 = 0 ∧ (x1 < x2 ∨ x6 < x1)) ∨ (x0 = 1 ∧ x2 ≤ x1 ∧ x1 ≤ x6))) : (x0 = 0 ∨ (0 ≤ x1 ∧ x1 ≤ 4)) := by omega
theorem o32_71 {x0 x1 x2 x3 x4 x5 x6 : Int} (h0 : x1 = 0) (h1 : 0 ≤ x0) (h2 : x0 ≤ 5) (h3 : x2 = 1) (h4 : x3 = x0 - x2) (h5 : x4 = x3) (h6 : 0 ≤ x5) (h7 : x5 ≤ 1) (h8 : ((x5 = 0 ∧ (x6 < x1 ∨ x4 < x6)) ∨ (x5 = 1 ∧ x1 ≤ x6 ∧ x6 ≤ x4))) (h9 : ¬ x5 = 0) : 1 ≤ x0 := by omega
theorem o32_72 {x0 x1 x2 x3 x4 : Int} (h0 : x1 = x2) (h1 : x3 = 0) (h2 : x4 = 3) (h3 : 0 ≤ x0) (h4 : x0 ≤ 1) (h5 : ((x0 = 0 ∧ (x1 < x3 ∨ x4 < x1)) ∨ (x0 = 1 ∧ x3 ≤ x1 ∧ x1 ≤ x4))) : 0 ≤ x0 := by omega
theorem o32_73 {x0 x1 x2 x3 x4 : Int} (h0 : x1 = x2) (h1 : x3 = 0) (h2 : x4 = 3) (h3 : 0 ≤ x0) (h4 : x0 ≤ 1) (h5 : ((x0 = 0 ∧ (x1 < x3 ∨ x4 < x1)) ∨ (x0 = 1 ∧ x3 ≤ x1 ∧ x1 ≤ x4))) : x0 ≤ 1 := by omega
theorem o32_74 {x0 x1 x2 x3 x4 : Int} (h0 : x2 = x1) (h1 : x3 = 0) (h2 : x4 = 3) (h3 : 0 ≤ x0) (h4 : x0 ≤ 1) (h5 : ((x0 = 0 ∧ (x2 < x3 ∨ x4 < x2)) ∨ (x0 = 1 ∧ x3 ≤ x2 ∧ x2 ≤ x4))) : (x0 = 0 ∨ (0 ≤ x1 ∧ x1 ≤ 3)) := by omega
theorem o32_75 {x0 : Int} (h0 : x0 = 2) : x0 = 2 := by omega
theorem o32_76 {x0 x1 : Int} (h0 : 0 ≤ x0) (h1 : x0 ≤ 3) (h2 : x1 = 2) (h3 : ¬ x0 = x1) : ¬ x0 = 2 := by omega
theorem o32_77 {x0 x1 : Int} (h0 : 0 ≤ x0) (h1 : x0 ≤ 3) (h2 : x1 = 2) (h3 : x0 = x1) : x0 = 2 := by omega
theorem o32_78 {x0 : Int} (h0 : x0 = 3) : x0 = 3 := by omega
theorem o32_79 {x0 x1 x2 : Int} (h0 : 0 ≤ x0) (h1 : x0 ≤ 3) (h2 : x1 = 2) (h3 : ¬ x0 = x1) (h4 : x2 = 3) (h5 : ¬ x0 = x2) : ¬ x0 = 3 := by omega
theorem o32_80 {x0 x1 x2 : Int} (h0 : 0 ≤ x0) (h1 : x0 ≤ 3) (h2 : x1 = 2) (h3 : ¬ x0 = x1) (h4 : x2 = 3) (h5 : x0 = x2) : x0 = 3 := by omega
theorem o32_81 {x0 x1 x2 x3 : Int} (h0 : 0 ≤ x0) (h1 : x0 ≤ 3) (h2 : 0 ≤ x1) (h3 : x1 ≤ 3) (h4 : x2 = 2) (h5 : ¬ x1 = x2) (h6 : x3 = 3) (h7 : ¬ x1 = x3) (h8 : -2147483648 ≤ x0) (h9 : x0 ≤ 2147483647) (h10 : -2147483648 ≤ x1) (h11 : x1 ≤ 2147483647) (h12 : -2147483648 ≤ x2) (h13 : x2 ≤ 2147483647) (h14 : -2147483648 ≤ x3) (h15 : x3 ≤ 2147483647) : -2147483648 ≤ x0 + x1 := by omega
theorem o32_82 {x0 x1 x2 x3 : Int} (h0 : 0 ≤ x0) (h1 : x0 ≤ 3) (h2 : 0 ≤ x1) (h3 : x1 ≤ 3) (h4 : x2 = 2) (h5 : ¬ x1 = x2) (h6 : x3 = 3) (h7 : ¬ x1 = x3) (h8 : -2147483648 ≤ x0) (h9 : x0 ≤ 2147483647) (h10 : -2147483648 ≤ x1) (h11 : x1 ≤ 2147483647) (h12 : -2147483648 ≤ x2) (h13 : x2 ≤ 2147483647) (h14 : -2147483648 ≤ x3) (h15 : x3 ≤ 2147483647) : x0 + x1 ≤ 2147483647 := by omega
theorem o32_83 {x0 : Int} (h0 : x0 = 4) : x0 = 4 := by omega
theorem o32_84 {x0 x1 x2 x3 x4 : Int} (h0 : 0 ≤ x1) (h1 : x1 ≤ 3) (h2 : 0 ≤ x2) (h3 : x2 ≤ 3) (h4 : x3 = 2) (h5 : ¬ x2 = x3) (h6 : x4 = 3) (h7 : ¬ x2 = x4) (h8 : x0 = x1 + x2) : 0 ≤ x0 := by omega
theorem o32_85 {x0 x1 x2 x3 x4 x5 : Int} (h0 : 0 ≤ x1) (h1 : x1 ≤ 3) (h2 : 0 ≤ x2) (h3 : x2 ≤ 3) (h4 : x3 = 2) (h5 : ¬ x2 = x3) (h6 : x4 = 3) (h7 : ¬ x2 = x4) (h8 : x5 = x1 + x2) (h9 : x0 = x5 % 4) : 0 ≤ x0 := by omega
theorem o32_86 {x0 x1 x2 x3 x4 x5 : Int} (h0 : 0 ≤ x1) (h1 : x1 ≤ 3) (h2 : 0 ≤ x2) (h3 : x2 ≤ 3) (h4 : x3 = 2) (h5 : ¬ x2 = x3) (h6 : x4 = 3) (h7 : ¬ x2 = x4) (h8 : x5 = x1 + x2) (h9 : x0 = x5 % 4) : x0 ≤ 3 := by omega
theorem o32_87 {x0 x1 : Int} (h0 : 0 ≤ x0) (h1 : x0 ≤ 3) (h2 : x1 = 2) (h3 : -2147483648 ≤ x0) (h4 : x0 ≤ 2147483647) (h5 : -2147483648 ≤ x1) (h6 : x1 ≤ 2147483647) : -2147483648 ≤ x0 + x1 := by omega
theorem o32_88 {x0 x1 : Int} (h0 : 0 ≤ x0) (h1 : x0 ≤ 3) (h2 : x1 = 2) (h3 : -2147483648 ≤ x0) (h4 : x0 ≤ 2147483647) (h5 : -2147483648 ≤ x1) (h6 : x1 ≤ 2147483647) : x0 + x1 ≤ 2147483647 := by omega
theorem o32_89 {x0 x1 x2 : Int} (h0 : 0 ≤ x1) (h1 : x1 ≤ 3) (h2 : x2 = 2) (h3 : x0 = x1 + x2) : 0 ≤ x0 := by omega
theorem o32_90 {x0 x1 x2 x3 : Int} (h0 : 0 ≤ x1) (h1 : x1 ≤ 3) (h2 : x2 = 2) (h3 : x3 = x1 + x2) (h4 : x0 = x3 % 4) : 0 ≤ x0 := by omega
theorem o32_91 {x0 x1 x2 x3 : Int} (h0 : 0 ≤ x1) (h1 : x1 ≤ 3) (h2 : x2 = 2) (h3 : x3 = x1 + x2) (h4 : x0 = x3 % 4) : x0 ≤ 3 := by omega
theorem o32_92 {x0 x1 : Int} (h0 : 0 ≤ x0) (h1 : x0 ≤ 3) (h2 : x1 = 3) (h3 : -2147483648 ≤ x0) (h4 : x0 ≤ 2147483647) (h5 : -2147483648 ≤ x1) (h6 : x1 ≤ 2147483647) : -2147483648 ≤ x0 + x1 := by omega
theorem o32_93 {x0 x1 : Int} (h0 : 0 ≤ x0) (h1 : x0 ≤ 3) (h2 : x1 = 3) (h3 : -2147483648 ≤ x0) (h4 : x0 ≤ 2147483647) (h5 : -2147483648 ≤ x1) (h6 : x1 ≤ 2147483647) : x0 + x1 ≤ 2147483647 := by omega
theorem o32_94 {x0 x1 x2 : Int} (h0 : 0 ≤ x1) (h1 : x1 ≤ 3) (h2 : x2 = 3) (h3 : x0 = x1 + x2) : 0 ≤ x0 := by omega
theorem o32_95 {x0 x1 x2 x3 : Int} (h0 : 0 ≤ x1) (h1 : x1 ≤ 3) (h2 : x2 = 3) (h3 : x3 = x1 + x2) (h4 : x0 = x3 % 4) : 0 ≤ x0 := by omega
theorem o32_96 {x0 x1 x2 x3 : Int} (h0 : 0 ≤ x1) (h1 : x1 ≤ 3) (h2 : x2 = 3) (h3 : x3 = x1 + x2) (h4 : x0 = x3 % 4) : x0 ≤ 3 := by omega
theorem o32_97 {x0 x1 : Int} (h0 : 0 ≤ x0) (h1 : x0 ≤ 3) (h2 : x1 = 2) (h3 : x1 ≤ x0) : ¬ x0 < 2 := by omega
theorem o32_98 {x0 x1 : Int} (h0 : 0 ≤ x0) (h1 : x0 ≤ 3) (h2 : x1 = 2) (h3 : x0 < x1) : x0 < 2 := by omega
theorem o32_99 {x0 x1 x2 : Int} (h0 : 0 ≤ x0) (h1 : x0 ≤ 3) (h2 : x2 = 2) (h3 : x2 ≤ x0) (h4 : x1 = 1) (h5 : -2147483648 ≤ x0) (h6 : x0 ≤ 2147483647) (h7 : -2147483648 ≤ x1) (h8 : x1 ≤ 2147483647) (h9 : -2147483648 ≤ x2) (h10 : x2 ≤ 2147483647) : -2147483648 ≤ x0 - x1 := by omega
theorem o32_100 {x0 x1 x2 : Int} (h0 : 0 ≤ x0) (h1 : x0 ≤ 3) (h2 : x2 = 2) (h3 : x2 ≤ x0) (h4 : x1 = 1) (h5 : -2147483648 ≤ x0) (h6 : x0 ≤ 2147483647) (h7 : -2147483648 ≤ x1) (h8 : x1 ≤ 2147483647) (h9 : -2147483648 ≤ x2) (h10 : x2 ≤ 2147483647) : x0 - x1 ≤ 2147483647 := by omega
theorem o32_101 {x0 x1 x2 x3 : Int} (h0 : 0 ≤ x1) (h1 : x1 ≤ 3) (h2 : x2 = 2) (h3 : x2 ≤ x1) (h4 : x3 = 1) (h5 : x0 = x1 - x3) : 0 ≤ x0 := by omega
theorem o32_102 {x0 x1 x2 x3 : Int} (h0 : 0 ≤ x1) (h1 : x1 ≤ 3) (h2 : x2 = 2) (h3 : x2 ≤ x1) (h4 : x3 = 1) (h5 : x0 = x1 - x3) : x0 ≤ 2 := by omega
theorem o32_103 {x0 x1 x2 x3 : Int} (h0 : 0 ≤ x1) (h1 : x1 ≤ 3) (h2 : x2 = 2) (h3 : x2 ≤ x1) (h4 : x3 = 1) (h5 : x0 = x1 - x3) : ((x1 < 2 ∧ x0 = 0) ∨ (2 ≤ x1 ∧ x0 = x1 - 1)) := by omega
theorem o32_104 {x0 : Int} (h0 : x0 = 0) : x0 ≤ 2 := by omega
theorem o32_105 {x0 x1 x2 : Int} (h0 : 0 ≤ x1) (h1 : x1 ≤ 3) (h2 : x2 = 2) (h3 : x1 < x2) (h4 : x0 = 0) : ((x1 < 2 ∧ x0 = 0) ∨ (2 ≤ x1 ∧ x0 = x1 - 1)) := by omega
theorem o32_106 {x0 : Int} (h0 : 0 ≤ x0) (h1 : x0 ≤ 5) (h2 : 1 ≤ x0) : 0 < x0 := by omega
theorem o32_107 {x0 : Int} (h0 : 0 ≤ x0) (h1 : x0 ≤ 24) : 0 ≤ x0 := by omega
theorem o32_108 {x0 x1 : Int} (h0 : 0 ≤ x0) (h1 : x0 ≤ 3) (h2 : x1 = 1) (h3 : ¬ x0 = x1) : ¬ x0 = 1 := by omega
theorem o32_109 {x0 x1 : Int} (h0 : 0 ≤ x0) (h1 : x0 ≤ 3) (h2 : x1 = 1) (h3 : x0 = x1) : x0 = 1 := by omega
theorem o32_110 {x0 x1 x2 : Int} (h0 : 0 ≤ x0) (h1 : x0 ≤ 3) (h2 : x1 = 1) (h3 : ¬ x0 = x1) (h4 : x2 = 3) (h5 : ¬ x0 = x2) : ¬ x0 = 3 := by omega
theorem o32_111 {x0 x1 x2 : Int} (h0 : 0 ≤ x0) (h1 : x0 ≤ 3) (h2 : x1 = 1) (h3 : ¬ x0 = x1) (h4 : x2 = 3) (h5 : x0 = x2) : x0 = 3 := by omega
theorem o32_112 {x0 x1 x2 x3 : Int} (h0 : 0 ≤ x2) (h1 : x2 ≤ 24) (h2 : 0 ≤ x3) (h3 : x3 ≤ 5) (h4 : 1 ≤ x3) (h5 : x0 = x2 % x3) (h6 : 0 ≤ x0) (h7 : x0 < x3) (h8 : x1 = 0) (h9 : -2147483648 ≤ x0) (h10 : x0 ≤ 2147483647) (h11 : -2147483648 ≤ x1) (h12 : x1 ≤ 2147483647) (h13 : -2147483648 ≤ x2) (h14 : x2 ≤ 2147483647) (h15 : -2147483648 ≤ x3) (h16 : x3 ≤ 2147483647) : -2147483648 ≤ x0 + x1 := by omega
theorem o32_113 {x0 x1 x2 x3 : Int} (h0 : 0 ≤ x2) (h1 : x2 ≤ 24) (h2 : 0 ≤ x3) (h3 : x3 ≤ 5) (h4 : 1 ≤ x3) (h5 : x0 = x2 % x3) (h6 : 0 ≤ x0) (h7 : x0 < x3) (h8 : x1 = 0) (h9 : -2147483648 ≤ x0) (h10 : x0 ≤ 2147483647) (h11 : -2147483648 ≤ x1) (h12 : x1 ≤ 2147483647) (h13 : -2147483648 ≤ x2) (h14 : x2 ≤ 2147483647) (h15 : -2147483648 ≤ x3) (h16 : x3 ≤ 2147483647) : x0 + x1 ≤ 2147483647 := by omega
theorem o32_114 {x0 x1 x2 x3 x4 x5 : Int} (h0 : 0 ≤ x1) (h1 : x1 ≤ 24) (h2 : 0 ≤ x2) (h3 : x2 ≤ 5) (h4 : 1 ≤ x2) (h5 : x3 = x1 % x2) (h6 : 0 ≤ x3) (h7 : x3 < x2) (h8 : x4 = 0) (h9 : x5 = x3 + x4) (h10 : 0 ≤ x0) (h11 : x0 ≤ 5) (h12 : x0 = x2) (h13 : 1 ≤ x0) : 0 < x0 := by omega
theorem o32_115 {x0 x1 x2 x3 x4 x5 : Int} (h0 : 0 ≤ x0) (h1 : x0 ≤ 24) (h2 : 0 ≤ x1) (h3 : x1 ≤ 5) (h4 : 1 ≤ x1) (h5 : x2 = x0 % x1) (h6 : 0 ≤ x2) (h7 : x2 < x1) (h8 : x3 = 0) (h9 : x4 = x2 + x3) (h10 : 0 ≤ x5) (h11 : x5 ≤ 5) (h12 : x5 = x1) (h13 : 1 ≤ x5) : 0 ≤ x0 := by omega
theorem o32_116 {x0 x1 x2 x3 : Int} (h0 : 0 ≤ x0) (h1 : x0 ≤ 3) (h2 : x1 = 1) (h3 : ¬ x0 = x1) (h4 : x2 = 3) (h5 : ¬ x0 = x2) (h6 : x3 = 2) (h7 : ¬ x0 = x3) : ¬ x0 = 2 := by omega
theorem o32_117 {x0 x1 x2 x3 : Int} (h0 : 0 ≤ x0) (h1 : x0 ≤ 3) (h2 : x1 = 1) (h3 : ¬ x0 = x1) (h4 : x2 = 3) (h5 : ¬ x0 = x2) (h6 : x3 = 2) (h7 : x0 = x3) : x0 = 2 := by omega
theorem o32_118 {x0 x1 x2 x3 x4 x5 x6 x7 : Int} (h0 : 0 ≤ x2) (h1 : x2 ≤ 24) (h2 : 0 ≤ x3) (h3 : x3 ≤ 5) (h4 : 1 ≤ x3) (h5 : x4 = x2 % x3) (h6 : 0 ≤ x4) (h7 : x4 < x3) (h8 : x5 = 0) (h9 : x6 = x4 + x5) (h10 : 0 ≤ x7) (h11 : x7 ≤ 5) (h12 : x7 = x3) (h13 : 1 ≤ x7) (h14 : x0 = x2 / x7) (h15 : 0 ≤ x0) (h16 : x0 ≤ x2) (h17 : x1 = 0) (h18 : -2147483648 ≤ x0) (h19 : x0 ≤ 2147483647) (h20 : -2147483648 ≤ x1) (h21 : x1 ≤ 2147483647) (h22 : -2147483648 ≤ x2) (h23 : x2 ≤ 2147483647) (h24 : -2147483648 ≤ x3) (h25 : x3 ≤ 2147483647) (h26 : -2147483648 ≤ x4) (h27 : x4 ≤ 2147483647) (h28 : -2147483648 ≤ x5) (h29 : x5 ≤ 2147483647) (h30 : -2147483648 ≤ x6) (h31 : x6 ≤ 2147483647) (h32 : -2147483648 ≤ x7) (h33 : x7 ≤ 2147483647) : -2147483648 ≤ x0 + x1 := by omega
theorem o32_119 {x0 x1 x2 x3 x4 x5 x6 x7 : Int} (h0 : 0 ≤ x2) (h1 : x2 ≤ 24) (h2 : 0 ≤ x3) (h3 : x3 ≤ 5) (h4 : 1 ≤ x3) (h5 : x4 = x2 % x3) (h6 : 0 ≤ x4) (h7 : x4 < x3) (h8 : x5 = 0) (h9 : x6 = x4 + x5) (h10 : 0 ≤ x7) (h11 : x7 ≤ 5) (h12 : x7 = x3) (h13 : 1 ≤ x7) (h14 : x0 = x2 / x7) (h15 : 0 ≤ x0) (h16 : x0 ≤ x2) (h17 : x1 = 0) (h18 : -2147483648 ≤ x0) (h19 : x0 ≤ 2147483647) (h20 : -2147483648 ≤ x1) (h21 : x1 ≤ 2147483647) (h22 : -2147483648 ≤ x2) (h23 : x2 ≤ 2147483647) (h24 : -2147483648 ≤ x3) (h25 : x3 ≤ 2147483647) (h26 : -2147483648 ≤ x4) (h27 : x4 ≤ 2147483647) (h28 : -2147483648 ≤ x5) (h29 : x5 ≤ 2147483647) (h30 : -2147483648 ≤ x6) (h31 : x6 ≤ 2147483647) (h32 : -2147483648 ≤ x7) (h33 : x7 ≤ 2147483647) : x0 + x1 ≤ 2147483647 := by omega
theorem o32_120 {x0 x1 x2 x3 x4 x5 x6 x7 x8 x9 x10 x11 : Int} (h0 : 0 ≤ x2) (h1 : x2 ≤ 24) (h2 : 0 ≤ x3) (h3 : x3 ≤ 5) (h4 : 1 ≤ x3) (h5 : x4 = x2 % x3) (h6 : 0 ≤ x4) (h7 : x4 < x3) (h8 : x5 = 0) (h9 : x6 = x4 + x5) (h10 : 0 ≤ x7) (h11 : x7 ≤ 5) (h12 : x7 = x3) (h13 : 1 ≤ x7) (h14 : x8 = x2 / x7) (h15 : 0 ≤ x8) (h16 : x8 ≤ x2) (h17 : x9 = 0) (h18 : x10 = x8 + x9) (h19 : x11 = x6) (h20 : 0 ≤ x0) (h21 : x0 ≤ 5) (h22 : x0 = x3) (h23 : 1 ≤ x0) (h24 : x1 = 1) (h25 : -2147483648 ≤ x0) (h26 : x0 ≤ 2147483647) (h27 : -2147483648 ≤ x1) (h28 : x1 ≤ 2147483647) (h29 : -2147483648 ≤ x2) (h30 : x2 ≤ 2147483647) (h31 : -2147483648 ≤ x3) (h32 : x3 ≤ 2147483647) (h33 : -2147483648 ≤ x4) (h34 : x4 ≤ 2147483647) (h35 : -2147483648 ≤ x5) (h36 : x5 ≤ 2147483647) (h37 : -2147483648 ≤ x6) (h38 : x6 ≤ 2147483647) (h39 : -2147483648 ≤ x7) (h40 : x7 ≤ 2147483647) (h41 : -2147483648 ≤ x8) (h42 : x8 ≤ 2147483647) (h43 : -2147483648 ≤ x9) (h44 : x9 ≤ 2147483647) (h45 : -2147483648 ≤ x10) (h46 : x10 ≤ 2147483647) : -2147483648 ≤ x0 - x1 := by omega
theorem o32_121 {x0 x1 x2 x3 x4 x5 x6 x7 x8 x9 x10 x11 : Int} (h0 : 0 ≤ x2) (h1 : x2 ≤ 24) (h2 : 0 ≤ x3) (h3 : x3 ≤ 5) (h4 : 1 ≤ x3) (h5 : x4 = x2 % x3) (h6 : 0 ≤ x4) (h7 : x4 < x3) (h8 : x5 = 0) (h9 : x6 = x4 + x5) (h10 : 0 ≤ x7) (h11 : x7 ≤ 5) (h12 : x7 = x3) (h13 : 1 ≤ x7) (h14 : x8 = x2 / x7) (h15 : 0 ≤ x8) (h16 : x8 ≤ x2) (h17 : x9 = 0) (h18 : x10 = x8 + x9) (h19 : x11 = x6) (h20 : 0 ≤ x0) (h21 : x0 ≤ 5) (h22 : x0 = x3) (h23 : 1 ≤ x0) (h24 : x1 = 1) (h25 : -2147483648 ≤ x0) (h26 : x0 ≤ 2147483647) (h27 : -2147483648 ≤ x1) (h28 : x1 ≤ 2147483647) (h29 : -2147483648 ≤ x2) (h30 : x2 ≤ 2147483647) (h31 : -2147483648 ≤ x3) (h32 : x3 ≤ 2147483647) (h33 : -2147483648 ≤ x4) (h34 : x4 ≤ 2147483647) (h35 : -2147483648 ≤ x5) (h36 : x5 ≤ 2147483647) (h37 : -2147483648 ≤ x6) (h38 : x6 ≤ 2147483647) (h39 : -2147483648 ≤ x7) (h40 : x7 ≤ 2147483647) (h41 : -2147483648 ≤ x8) (h42 : x8 ≤ 2147483647) (h43 : -2147483648 ≤ x9) (h44 : x9 ≤ 2147483647) (h45 : -2147483648 ≤ x10) (h46 : x10 ≤ 2147483647) : x0 - x1 ≤ 2147483647 := by omega
theorem o32_122 {x0 : Int} (h0 : x0 = (-1)) : x0 ≤ 24 := by omega
theorem o32_123 {x0 x1 x2 x3 x4 x5 x6 x7 x8 x9 x10 x11 x12 x13 x14 x15 : Int} (h0 : 0 ≤ x2) (h1 : x2 ≤ 24) (h2 : 0 ≤ x1) (h3 : x1 ≤ 5) (h4 : 1 ≤ x1) (h5 : x3 = x2 % x1) (h6 : 0 ≤ x3) (h7 : x3 < x1) (h8 : x4 = 0) (h9 : x5 = x3 + x4) (h10 : 0 ≤ x0) (h11 : x0 ≤ 5) (h12 : x0 = x1) (h13 : 1 ≤ x0) (h14 : x6 = x2 / x0) (h15 : 0 ≤ x6) (h16 : x6 ≤ x2) (h17 : x7 = 0) (h18 : x8 = x6 + x7) (h19 : x9 = x5) (h20 : x10 = 0) (h21 : 0 ≤ x11) (h22 : x11 ≤ 5) (h23 : x11 = x1) (h24 : 1 ≤ x11) (h25 : x12 = 1) (h26 : x13 = x11 - x12) (h27 : x14 = x13) (h28 : 0 ≤ x15) (h29 : x15 ≤ 1) (h30 : ((x15 = 0 ∧ (x9 < x10 ∨ x14 < x9)) ∨ (x15 = 1 ∧ x10 ≤ x9 ∧ x9 ≤ x14))) (h31 : x15 = 0) : x0 = x1 := by omega
theorem o32_124 {x0 x1 : Int} (h0 : 0 ≤ x0) (h1 : x0 ≤ 5) (h2 : 1 ≤ x0) (h3 : x1 = 1) (h4 : -2147483648 ≤ x0) (h5 : x0 ≤ 2147483647) (h6 : -2147483648 ≤ x1) (h7 : x1 ≤ 2147483647) : -2147483648 ≤ x0 - x1 := by omega
theorem o32_125 {x0 x1 : Int} (h0 : 0 ≤ x0) (h1 : x0 ≤ 5) (h2 : 1 ≤ x0) (h3 : x1 = 1) (h4 : -2147483648 ≤ x0) (h5 : x0 ≤ 2147483647) (h6 : -2147483648 ≤ x1) (h7 : x1 ≤ 2147483647) : x0 - x1 ≤ 2147483647 := by omega
theorem o32_126 {x0 x1 x2 x3 x4 x5 x6 x7 x8 x9 x10 x11 x12 x13 x14 x15 x16 x17 x18 x19 x20 x21 x22 : Int} (h0 : 0 ≤ x2) (h1 : x2 ≤ 24) (h2 : 0 ≤ x1) (h3 : x1 ≤ 5) (h4 : 1 ≤ x1) (h5 : x3 = x2 % x1) (h6 : 0 ≤ x3) (h7 : x3 < x1) (h8 : x4 = 0) (h9 : x5 = x3 + x4) (h10 : 0 ≤ x0) (h11 : x0 ≤ 5) (h12 : x0 = x1) (h13 : 1 ≤ x0) (h14 : x6 = x2 / x0) (h15 : 0 ≤ x6) (h16 : x6 ≤ x2) (h17 : x7 = 0) (h18 : x8 = x6 + x7) (h19 : x9 = x5) (h20 : x10 = 0) (h21 : 0 ≤ x11) (h22 : x11 ≤ 5) (h23 : x11 = x1) (h24 : 1 ≤ x11) (h25 : x12 = 1) (h26 : x13 = x11 - x12) (h27 : x14 = x13) (h28 : 0 ≤ x15) (h29 : x15 ≤ 1) (h30 : ((x15 = 0 ∧ (x9 < x10 ∨ x14 < x9)) ∨ (x15 = 1 ∧ x10 ≤ x9 ∧ x9 ≤ x14))) (h31 : ¬ x15 = 0) (h32 : x16 = x8) (h33 : x17 = 0) (h34 : 0 ≤ x18) (h35 : x18 ≤ 5) (h36 : 1 ≤ x18) (h37 : x19 = 1) (h38 : x20 = x18 - x19) (h39 : x21 = x20) (h40 : 0 ≤ x22) (h41 : x22 ≤ 1) (h42 : ((x22 = 0 ∧ (x16 < x17 ∨ x21 < x16)) ∨ (x22 = 1 ∧ x17 ≤ x16 ∧ x16 ≤ x21))) (h43 : x22 = 0) : x0 = x1 := by omega
theorem o32_127 {x0 x1 x2 x3 x4 x5 x6 x7 x8 x9 x10 x11 x12 x13 x14 x15 x16 x17 x18 x19 x20 x21 x22 x23 : Int} (h0 : 0 ≤ x1) (h1 : x1 ≤ 24) (h2 : 0 ≤ x2) (h3 : x2 ≤ 5) (h4 : 1 ≤ x2) (h5 : x3 = x1 % x2) (h6 : 0 ≤ x3) (h7 : x3 < x2) (h8 : x4 = 0) (h9 : x5 = x3 + x4) (h10 : 0 ≤ x6) (h11 : x6 ≤ 5) (h12 : x6 = x2) (h13 : 1 ≤ x6) (h14 : x7 = x1 / x6) (h15 : 0 ≤ x7) (h16 : x7 ≤ x1) (h17 : x8 = 0) (h18 : x9 = x7 + x8) (h19 : x10 = x5) (h20 : x11 = 0) (h21 : 0 ≤ x12) (h22 : x12 ≤ 5) (h23 : x12 = x2) (h24 : 1 ≤ x12) (h25 : x13 = 1) (h26 : x14 = x12 - x13) (h27 : x15 = x14) (h28 : 0 ≤ x16) (h29 : x16 ≤ 1) (h30 : ((x16 = 0 ∧ (x10 < x11 ∨ x15 < x10)) ∨ (x16 = 1 ∧ x11 ≤ x10 ∧ x10 ≤ x15))) (h31 : ¬ x16 = 0) (h32 : x17 = x9) (h33 : x18 = 0) (h34 : 0 ≤ x19) (h35 : x19 ≤ 5) (h36 : 1 ≤ x19) (h37 : x20 = 1) (h38 : x21 = x19 - x20) (h39 : x22 = x21) (h40 : 0 ≤ x23) (h41 : x23 ≤ 1) (h42 : ((x23 = 0 ∧ (x17 < x18 ∨ x22 < x17)) ∨ (x23 = 1 ∧ x18 ≤ x17 ∧ x17 ≤ x22))) (h43 : ¬ x23 = 0) (h44 : 0 ≤ x0) (h45 : x0 ≤ 5) (h46 : x0 = x2) (h47 : 1 ≤ x0) : 1 ≤ x0 := by omega
theorem o32_128 {x0 x1 x2 x3 x4 x5 x6 x7 x8 x9 x10 x11 x12 x13 x14 x15 x16 x17 x18 x19 x20 x21 x22 x23 : Int} (h0 : 0 ≤ x1) (h1 : x1 ≤ 24) (h2 : 0 ≤ x2) (h3 : x2 ≤ 5) (h4 : 1 ≤ x2) (h5 : x3 = x1 % x2) (h6 : 0 ≤ x3) (h7 : x3 < x2) (h8 : x4 = 0) (h9 : x5 = x3 + x4) (h10 : 0 ≤ x6) (h11 : x6 ≤ 5) (h12 : x6 = x2) (h13 : 1 ≤ x6) (h14 : x7 = x1 / x6) (h15 : 0 ≤ x7) (h16 : x7 ≤ x1) (h17 : x8 = 0) (h18 : x9 = x7 + x8) (h19 : x10 = x5) (h20 : x11 = 0) (h21 : 0 ≤ x12) (h22 : x12 ≤ 5) (h23 : x12 = x2) (h24 : 1 ≤ x12) (h25 : x13 = 1) (h26 : x14 = x12 - x13) (h27 : x15 = x14) (h28 : 0 ≤ x16) (h29 : x16 ≤ 1) (h30 : ((x16 = 0 ∧ (x10 < x11 ∨ x15 < x10)) ∨ (x16 = 1 ∧ x11 ≤ x10 ∧ x10 ≤ x15))) (h31 : ¬ x16 = 0) (h32 : x17 = x9) (h33 : x18 = 0) (h34 : 0 ≤ x19) (h35 : x19 ≤ 5) (h36 : 1 ≤ x19) (h37 : x20 = 1) (h38 : x21 = x19 - x20) (h39 : x22 = x21) (h40 : 0 ≤ x23) (h41 : x23 ≤ 1) (h42 : ((x23 = 0 ∧ (x17 < x18 ∨ x22 < x17)) ∨ (x23 = 1 ∧ x18 ≤ x17 ∧ x17 ≤ x22))) (h43 : ¬ x23 = 0) (h44 : 0 ≤ x0) (h45 : x0 ≤ 5) (h46 : x0 = x2) (h47 : 1 ≤ x0) : x0 ≤ 5 := by omega
theorem o32_129 {x0 x1 x2 x3 x4 x5 x6 x7 x8 x9 x10 x11 x12 x13 x14 x15 x16 x17 x18 x19 x20 x21 x22 x23 : Int} (h0 : 0 ≤ x1) (h1 : x1 ≤ 24) (h2 : 0 ≤ x2) (h3 : x2 ≤ 5) (h4 : 1 ≤ x2) (h5 : x3 = x1 % x2) (h6 : 0 ≤ x3) (h7 : x3 < x2) (h8 : x4 = 0) (h9 : x5 = x3 + x4) (h10 : 0 ≤ x6) (h11 : x6 ≤ 5) (h12 : x6 = x2) (h13 : 1 ≤ x6) (h14 : x7 = x1 / x6) (h15 : 0 ≤ x7) (h16 : x7 ≤ x1) (h17 : x8 = 0) (h18 : x0 = x7 + x8) (h19 : x9 = x5) (h20 : x10 = 0) (h21 : 0 ≤ x11) (h22 : x11 ≤ 5) (h23 : x11 = x2) (h24 : 1 ≤ x11) (h25 : x12 = 1) (h26 : x13 = x11 - x12) (h27 : x14 = x13) (h28 : 0 ≤ x15) (h29 : x15 ≤ 1) (h30 : ((x15 = 0 ∧ (x9 < x10 ∨ x14 < x9)) ∨ (x15 = 1 ∧ x10 ≤ x9 ∧ x9 ≤ x14))) (h31 : ¬ x15 = 0) (h32 : x16 = x0) (h33 : x17 = 0) (h34 : 0 ≤ x18) (h35 : x18 ≤ 5) (h36 : 1 ≤ x18) (h37 : x19 = 1) (h38 : x20 = x18 - x19) (h39 : x21 = x20) (h40 : 0 ≤ x22) (h41 : x22 ≤ 1) (h42 : ((x22 = 0 ∧ (x16 < x17 ∨ x21 < x16)) ∨ (x22 = 1 ∧ x17 ≤ x16 ∧ x16 ≤ x21))) (h43 : ¬ x22 = 0) (h44 : 0 ≤ x23) (h45 : x23 ≤ 5) (h46 : x23 = x2) (h47 : 1 ≤ x23) : 0 ≤ x0 := by omega
theorem o32_130 {x0 x1 x2 x3 x4 x5 x6 x7 x8 x9 x10 x11 x12 x13 x14 x15 x16 x17 x18 x19 x20 x21 x22 x23 : Int} (h0 : 0 ≤ x1) (h1 : x1 ≤ 24) (h2 : 0 ≤ x2) (h3 : x2 ≤ 5) (h4 : 1 ≤ x2) (h5 : x3 = x1 % x2) (h6 : 0 ≤ x3) (h7 : x3 < x2) (h8 : x4 = 0) (h9 : x5 = x3 + x4) (h10 : 0 ≤ x6) (h11 : x6 ≤ 5) (h12 : x6 = x2) (h13 : 1 ≤ x6) (h14 : x7 = x1 / x6) (h15 : 0 ≤ x7) (h16 : x7 ≤ x1) (h17 : x8 = 0) (h18 : x0 = x7 + x8) (h19 : x9 = x5) (h20 : x10 = 0) (h21 : 0 ≤ x11) (h22 : x11 ≤ 5) (h23 : x11 = x2) (h24 : 1 ≤ x11) (h25 : x12 = 1) (h26 : x13 = x11 - x12) (h27 : x14 = x13) (h28 : 0 ≤ x15) (h29 : x15 ≤ 1) (h30 : ((x15 = 0 ∧ (x9 < x10 ∨ x14 < x9)) ∨ (x15 = 1 ∧ x10 ≤ x9 ∧ x9 ≤ x14))) (h31 : ¬ x15 = 0) (h32 : x16 = x0) (h33 : x17 = 0) (h34 : 0 ≤ x18) (h35 : x18 ≤ 5) (h36 : 1 ≤ x18) (h37 : x19 = 1) (h38 : x20 = x18 - x19) (h39 : x21 = x20) (h40 : 0 ≤ x22) (h41 : x22 ≤ 1) (h42 : ((x22 = 0 ∧ (x16 < x17 ∨ x21 < x16)) ∨ (x22 = 1 ∧ x17 ≤ x16 ∧ x16 ≤ x21))) (h43 : ¬ x22 = 0) (h44 : 0 ≤ x23) (h45 : x23 ≤ 5) (h46 : x23 = x2) (h47 : 1 ≤ x23) : x0 ≤ 4 := by omega
theorem o32_131 {x0 x1 x2 x3 x4 x5 x6 x7 x8 x9 x10 x11 x12 x13 x14 x15 x16 x17 x18 x19 x20 x21 x22 x23 x24 : Int} (h0 : 0 ≤ x2) (h1 : x2 ≤ 24) (h2 : 0 ≤ x3) (h3 : x3 ≤ 5) (h4 : 1 ≤ x3) (h5 : x4 = x2 % x3) (h6 : 0 ≤ x4) (h7 : x4 < x3) (h8 : x5 = 0) (h9 : x1 = x4 + x5) (h10 : 0 ≤ x6) (h11 : x6 ≤ 5) (h12 : x6 = x3) (h13 : 1 ≤ x6) (h14 : x7 = x2 / x6) (h15 : 0 ≤ x7) (h16 : x7 ≤ x2) (h17 : x8 = 0) (h18 : x9 = x7 + x8) (h19 : x10 = x1) (h20 : x11 = 0) (h21 : 0 ≤ x12) (h22 : x12 ≤ 5) (h23 : x12 = x3) (h24 : 1 ≤ x12) (h25 : x13 = 1) (h26 : x14 = x12 - x13) (h27 : x15 = x14) (h28 : 0 ≤ x16) (h29 : x16 ≤ 1) (h30 : ((x16 = 0 ∧ (x10 < x11 ∨ x15 < x10)) ∨ (x16 = 1 ∧ x11 ≤ x10 ∧ x10 ≤ x15))) (h31 : ¬ x16 = 0) (h32 : x17 = x9) (h33 : x18 = 0) (h34 : 0 ≤ x19) (h35 : x19 ≤ 5) (h36 : 1 ≤ x19) (h37 : x20 = 1) (h38 : x21 = x19 - x20) (h39 : x22 = x21) (h40 : 0 ≤ x23) (h41 : x23 ≤ 1) (h42 : ((x23 = 0 ∧ (x17 < x18 ∨ x22 < x17)) ∨ (x23 = 1 ∧ x18 ≤ x17 ∧ x17 ≤ x22))) (h43 : ¬ x23 = 0) (h44 : 0 ≤ x24) (h45 : x24 ≤ 5) (h46 : x24 = x3) (h47 : 1 ≤ x24) (h48 : 1 * 0 ≤ x0) (h49 : x0 ≤ 5 * 4) (h50 : -2147483648 ≤ x0) (h51 : x0 ≤ 2147483647) (h52 : -2147483648 ≤ x1) (h53 : x1 ≤ 2147483647) (h54 : -2147483648 ≤ x2) (h55 : x2 ≤ 2147483647) (h56 : -2147483648 ≤ x3) (h57 : x3 ≤ 2147483647) (h58 : -2147483648 ≤ x4) (h59 : x4 ≤ 2147483647) (h60 : -2147483648 ≤ x5) (h61 : x5 ≤ 2147483647) (h62 : -2147483648 ≤ x6) (h63 : x6 ≤ 2147483647) (h64 : -2147483648 ≤ x7) (h65 : x7 ≤ 2147483647) (h66 : -2147483648 ≤ x8) (h67 : x8 ≤ 2147483647) (h68 : -2147483648 ≤ x9) (h69 : x9 ≤ 2147483647) (h70 : -2147483648 ≤ x12) (h71 : x12 ≤ 2147483647) (h72 : -2147483648 ≤ x13) (h73 : x13 ≤ 2147483647) (h74 : -2147483648 ≤ x14) (h75 : x14 ≤ 2147483647) (h76 : -2147483648 ≤ x16) (h77 : x16 ≤ 2147483647) (h78 : -2147483648 ≤ x19) (h79 : x19 ≤ 2147483647) (h80 : -2147483648 ≤ x20) (h81 : x20 ≤ 2147483647) (h82 : -2147483648 ≤ x21) (h83 : x21 ≤ 2147483647) (h84 : -2147483648 ≤ x23) (h85 : x23 ≤ 2147483647) (h86 : -2147483648 ≤ x24) (h87 : x24 ≤ 2147483647) : -2147483648 ≤ x0 + x1 := by omega
theorem o32_132 {x0 x1 x2 x3 x4 x5 x6 x7 x8 x9 x10 x11 x12 x13 x14 x15 x16 x17 x18 x19 x20 x21 x22 x23 x24 : Int} (h0 : 0 ≤ x2) (h1 : x2 ≤ 24) (h2 : 0 ≤ x3) (h3 : x3 ≤ 5) (h4 : 1 ≤ x3) (h5 : x4 = x2 % x3) (h6 : 0 ≤ x4) (h7 : x4 < x3) (h8 : x5 = 0) (h9 : x1 = x4 + x5) (h10 : 0 ≤ x6) (h11 : x6 ≤ 5) (h12 : x6 = x3) (h13 : 1 ≤ x6) (h14 : x7 = x2 / x6) (h15 : 0 ≤ x7) (h16 : x7 ≤ x2) (h17 : x8 = 0) (h18 : x9 = x7 + x8) (h19 : x10 = x1) (h20 : x11 = 0) (h21 : 0 ≤ x12) (h22 : x12 ≤ 5) (h23 : x12 = x3) (h24 : 1 ≤ x12) (h25 : x13 = 1) (h26 : x14 = x12 - x13) (h27 : x15 = x14) (h28 : 0 ≤ x16) (h29 : x16 ≤ 1) (h30 : ((x16 = 0 ∧ (x10 < x11 ∨ x15 < x10)) ∨ (x16 = 1 ∧ x11 ≤ x10 ∧ x10 ≤ x15))) (h31 : ¬ x16 = 0) (h32 : x17 = x9) (h33 : x18 = 0) (h34 : 0 ≤ x19) (h35 : x19 ≤ 5) (h36 : 1 ≤ x19) (h37 : x20 = 1) (h38 : x21 = x19 - x20) (h39 : x22 = x21) (h40 : 0 ≤ x23) (h41 : x23 ≤ 1) (h42 : ((x23 = 0 ∧ (x17 < x18 ∨ x22 < x17)) ∨ (x23 = 1 ∧ x18 ≤ x17 ∧ x17 ≤ x22))) (h43 : ¬ x23 = 0) (h44 : 0 ≤ x24) (h45 : x24 ≤ 5) (h46 : x24 = x3) (h47 : 1 ≤ x24) (h48 : 1 * 0 ≤ x0) (h49 : x0 ≤ 5 * 4) (h50 : -2147483648 ≤ x0) (h51 : x0 ≤ 2147483647) (h52 : -2147483648 ≤ x1) (h53 : x1 ≤ 2147483647) (h54 : -2147483648 ≤ x2) (h55 : x2 ≤ 2147483647) (h56 : -2147483648 ≤ x3) (h57 : x3 ≤ 2147483647) (h58 : -2147483648 ≤ x4) (h59 : x4 ≤ 2147483647) (h60 : -2147483648 ≤ x5) (h61 : x5 ≤ 2147483647) (h62 : -2147483648 ≤ x6) (h63 : x6 ≤ 2147483647) (h64 : -2147483648 ≤ x7) (h65 : x7 ≤ 2147483647) (h66 : -2147483648 ≤ x8) (h67 : x8 ≤ 2147483647) (h68 : -2147483648 ≤ x9) (h69 : x9 ≤ 2147483647) (h70 : -2147483648 ≤ x12) (h71 : x12 ≤ 2147483647) (h72 : -2147483648 ≤ x13) (h73 : x13 ≤ 2147483647) (h74 : -2147483648 ≤ x14) (h75 : x14 ≤ 2147483647) (h76 : -2147483648 ≤ x16) (h77 : x16 ≤ 2147483647) (h78 : -2147483648 ≤ x19) (h79 : x19 ≤ 2147483647) (h80 : -2147483648 ≤ x20) (h81 : x20 ≤ 2147483647) (h82 : -2147483648 ≤ x21) (h83 : x21 ≤ 2147483647) (h84 : -2147483648 ≤ x23) (h85 : x23 ≤ 2147483647) (h86 : -2147483648 ≤ x24) (h87 : x24 ≤ 2147483647) : x0 + x1 ≤ 2147483647 := by omega
theorem o32_133 {x0 x1 x2 x3 x4 x5 x6 x7 x8 x9 x10 x11 x12 x13 x14 x15 x16 x17 x18 x19 x20 x21 x22 x23 x24 x25 : Int} (h0 : 0 ≤ x1) (h1 : x1 ≤ 24) (h2 : 0 ≤ x2) (h3 : x2 ≤ 5) (h4 : 1 ≤ x2) (h5 : x3 = x1 % x2) (h6 : 0 ≤ x3) (h7 : x3 < x2) (h8 : x4 = 0) (h9 : x5 = x3 + x4) (h10 : 0 ≤ x6) (h11 : x6 ≤ 5) (h12 : x6 = x2) (h13 : 1 ≤ x6) (h14 : x7 = x1 / x6) (h15 : 0 ≤ x7) (h16 : x7 ≤ x1) (h17 : x8 = 0) (h18 : x9 = x7 + x8) (h19 : x10 = x5) (h20 : x11 = 0) (h21 : 0 ≤ x12) (h22 : x12 ≤ 5) (h23 : x12 = x2) (h24 : 1 ≤ x12) (h25 : x13 = 1) (h26 : x14 = x12 - x13) (h27 : x15 = x14) (h28 : 0 ≤ x16) (h29 : x16 ≤ 1) (h30 : ((x16 = 0 ∧ (x10 < x11 ∨ x15 < x10)) ∨ (x16 = 1 ∧ x11 ≤ x10 ∧ x10 ≤ x15))) (h31 : ¬ x16 = 0) (h32 : x17 = x9) (h33 : x18 = 0) (h34 : x19 = x20 - x21) (h35 : x22 = x19) (h36 : 0 ≤ x23) (h37 : x23 ≤ 1) (h38 : ((x23 = 0 ∧ (x17 < x18 ∨ x22 < x17)) ∨ (x23 = 1 ∧ x18 ≤ x17 ∧ x17 ≤ x22))) (h39 : ¬ x23 = 0) (h40 : 0 ≤ x24) (h41 : x24 ≤ 5) (h42 : x24 = x2) (h43 : 1 ≤ x24) (h44 : 1 * 0 ≤ x25) (h45 : x25 ≤ 5 * 4) (h46 : x0 = x25 + x5) : (-1) ≤ x0 := by omega
theorem o32_134 {x0 x1 x2 x3 x4 x5 x6 x7 x8 x9 x10 x11 x12 x13 x14 x15 x16 x17 x18 x19 x20 x21 x22 x23 x24 x25 : Int} (h0 : 0 ≤ x1) (h1 : x1 ≤ 24) (h2 : 0 ≤ x2) (h3 : x2 ≤ 5) (h4 : 1 ≤ x2) (h5 : x3 = x1 % x2) (h6 : 0 ≤ x3) (h7 : x3 < x2) (h8 : x4 = 0) (h9 : x5 = x3 + x4) (h10 : 0 ≤ x6) (h11 : x6 ≤ 5) (h12 : x6 = x2) (h13 : 1 ≤ x6) (h14 : x7 = x1 / x6) (h15 : 0 ≤ x7) (h16 : x7 ≤ x1) (h17 : x8 = 0) (h18 : x9 = x7 + x8) (h19 : x10 = x5) (h20 : x11 = 0) (h21 : 0 ≤ x12) (h22 : x12 ≤ 5) (h23 : x12 = x2) (h24 : 1 ≤ x12) (h25 : x13 = 1) (h26 : x14 = x12 - x13) (h27 : x15 = x14) (h28 : 0 ≤ x16) (h29 : x16 ≤ 1) (h30 : ((x16 = 0 ∧ (x10 < x11 ∨ x15 < x10)) ∨ (x16 = 1 ∧ x11 ≤ x10 ∧ x10 ≤ x15))) (h31 : ¬ x16 = 0) (h32 : x17 = x9) (h33 : x18 = 0) (h34 : x19 = x20 - x21) (h35 : x22 = x19) (h36 : 0 ≤ x23) (h37 : x23 ≤ 1) (h38 : ((x23 = 0 ∧ (x17 < x18 ∨ x22 < x17)) ∨ (x23 = 1 ∧ x18 ≤ x17 ∧ x17 ≤ x22))) (h39 : ¬ x23 = 0) (h40 : 0 ≤ x24) (h41 : x24 ≤ 5) (h42 : x24 = x2) (h43 : 1 ≤ x24) (h44 : 1 * 0 ≤ x25) (h45 : x25 ≤ 5 * 4) (h46 : x0 = x25 + x5) : x0 ≤ 24 := by omega
theorem o32_135 {x0 x1 x2 x3 x4 x5 x6 x7 x8 x9 x10 x11 x12 x13 x14 x15 x16 x17 x18 x19 x20 x21 x22 x23 x24 x25 : Int} (h0 : 0 ≤ x2) (h1 : x2 ≤ 24) (h2 : 0 ≤ x1) (h3 : x1 ≤ 5) (h4 : 1 ≤ x1) (h5 : x3 = x2 % x1) (h6 : 0 ≤ x3) (h7 : x3 < x1) (h8 : x4 = 0) (h9 : x5 = x3 + x4) (h10 : 0 ≤ x6) (h11 : x6 ≤ 5) (h12 : x6 = x1) (h13 : 1 ≤ x6) (h14 : x7 = x2 / x6) (h15 : 0 ≤ x7) (h16 : x7 ≤ x2) (h17 : x8 = 0) (h18 : x9 = x7 + x8) (h19 : x10 = x5) (h20 : x11 = 0) (h21 : 0 ≤ x12) (h22 : x12 ≤ 5) (h23 : x12 = x1) (h24 : 1 ≤ x12) (h25 : x13 = 1) (h26 : x14 = x12 - x13) (h27 : x15 = x14) (h28 : 0 ≤ x16) (h29 : x16 ≤ 1) (h30 : ((x16 = 0 ∧ (x10 < x11 ∨ x15 < x10)) ∨ (x16 = 1 ∧ x11 ≤ x10 ∧ x10 ≤ x15))) (h31 : ¬ x16 = 0) (h32 : x17 = x9) (h33 : x18 = 0) (h34 : 0 ≤ x19) (h35 : x19 ≤ 5) (h36 : 1 ≤ x19) (h37 : x20 = 1) (h38 : x21 = x19 - x20) (h39 : x22 = x21) (h40 : 0 ≤ x23) (h41 : x23 ≤ 1) (h42 : ((x23 = 0 ∧ (x17 < x18 ∨ x22 < x17)) ∨ (x23 = 1 ∧ x18 ≤ x17 ∧ x17 ≤ x22))) (h43 : ¬ x23 = 0) (h44 : 0 ≤ x0) (h45 : x0 ≤ 5) (h46 : x0 = x1) (h47 : 1 ≤ x0) (h48 : 1 * 0 ≤ x24) (h49 : x24 ≤ 5 * 4) (h50 : x25 = x24 + x5) : x0 = x1 := by omega
theorem o32_136 {x0 x1 x2 x3 x4 x5 x6 x7 x8 x9 x10 x11 x12 x13 x14 x15 x16 x17 x18 x19 x20 x21 x22 x23 x24 x25 : Int} (h0 : 0 ≤ x1) (h1 : x1 ≤ 24) (h2 : 0 ≤ x2) (h3 : x2 ≤ 5) (h4 : 1 ≤ x2) (h5 : x3 = x1 % x2) (h6 : 0 ≤ x3) (h7 : x3 < x2) (h8 : x4 = 0) (h9 : x5 = x3 + x4) (h10 : 0 ≤ x6) (h11 : x6 ≤ 5) (h12 : x6 = x2) (h13 : 1 ≤ x6) (h14 : x7 = x1 / x6) (h15 : 0 ≤ x7) (h16 : x7 ≤ x1) (h17 : x8 = 0) (h18 : x0 = x7 + x8) (h19 : x9 = x5) (h20 : x10 = 0) (h21 : 0 ≤ x11) (h22 : x11 ≤ 5) (h23 : x11 = x2) (h24 : 1 ≤ x11) (h25 : x12 = 1) (h26 : x13 = x11 - x12) (h27 : x14 = x13) (h28 : 0 ≤ x15) (h29 : x15 ≤ 1) (h30 : ((x15 = 0 ∧ (x9 < x10 ∨ x14 < x9)) ∨ (x15 = 1 ∧ x10 ≤ x9 ∧ x9 ≤ x14))) (h31 : ¬ x15 = 0) (h32 : x16 = x0) (h33 : x17 = 0) (h34 : 0 ≤ x18) (h35 : x18 ≤ 5) (h36 : 1 ≤ x18) (h37 : x19 = 1) (h38 : x20 = x18 - x19) (h39 : x21 = x20) (h40 : 0 ≤ x22) (h41 : x22 ≤ 1) (h42 : ((x22 = 0 ∧ (x16 < x17 ∨ x21 < x16)) ∨ (x22 = 1 ∧ x17 ≤ x16 ∧ x16 ≤ x21))) (h43 : ¬ x22 = 0) (h44 : 0 ≤ x23) (h45 : x23 ≤ 5) (h46 : x23 = x2) (h47 : 1 ≤ x23) (h48 : 1 * 0 ≤ x24) (h49 : x24 ≤ 5 * 4) (h50 : x25 = x24 + x5) : x0 = x0 := by omega
theorem o32_137 {x0 x1 x2 x3 x4 x5 x6 x7 x8 x9 x10 x11 x12 x13 x14 x15 x16 x17 x18 x19 x20 x21 x22 x23 x24 x25 : Int} (h0 : 0 ≤ x2) (h1 : x2 ≤ 24) (h2 : 0 ≤ x1) (h3 : x1 ≤ 5) (h4 : 1 ≤ x1) (h5 : x3 = x2 % x1) (h6 : 0 ≤ x3) (h7 : x3 < x1) (h8 : x4 = 0) (h9 : x5 = x3 + x4) (h10 : 0 ≤ x0) (h11 : x0 ≤ 5) (h12 : x0 = x1) (h13 : 1 ≤ x0) (h14 : x6 = x2 / x0) (h15 : 0 ≤ x6) (h16 : x6 ≤ x2) (h17 : x7 = 0) (h18 : x8 = x6 + x7) (h19 : x9 = x5) (h20 : x10 = 0) (h21 : 0 ≤ x11) (h22 : x11 ≤ 5) (h23 : x11 = x1) (h24 : 1 ≤ x11) (h25 : x12 = 1) (h26 : x13 = x11 - x12) (h27 : x14 = x13) (h28 : 0 ≤ x15) (h29 : x15 ≤ 1) (h30 : ((x15 = 0 ∧ (x9 < x10 ∨ x14 < x9)) ∨ (x15 = 1 ∧ x10 ≤ x9 ∧ x9 ≤ x14))) (h31 : ¬ x15 = 0) (h32 : x16 = x8) (h33 : x17 = 0) (h34 : 0 ≤ x18) (h35 : x18 ≤ 5) (h36 : 1 ≤ x18) (h37 : x19 = 1) (h38 : x20 = x18 - x19) (h39 : x21 = x20) (h40 : 0 ≤ x22) (h41 : x22 ≤ 1) (h42 : ((x22 = 0 ∧ (x16 < x17 ∨ x21 < x16)) ∨ (x22 = 1 ∧ x17 ≤ x16 ∧ x16 ≤ x21))) (h43 : ¬ x22 = 0) (h44 : 0 ≤ x23) (h45 : x23 ≤ 5) (h46 : x23 = x1) (h47 : 1 ≤ x23) (h48 : 1 * 0 ≤ x24) (h49 : x24 ≤ 5 * 4) (h50 : x25 = x24 + x5) : x0 = x1 := by omega
theorem o32_138 {x0 x1 x2 x3 x4 x5 x6 x7 : Int} (h0 : 0 ≤ x2) (h1 : x2 ≤ 24) (h2 : 0 ≤ x3) (h3 : x3 ≤ 5) (h4 : 1 ≤ x3) (h5 : x4 = x2 % x3) (h6 : 0 ≤ x4) (h7 : x4 < x3) (h8 : x5 = 0) (h9 : x6 = x4 + x5) (h10 : 0 ≤ x7) (h11 : x7 ≤ 5) (h12 : x7 = x3) (h13 : 1 ≤ x7) (h14 : x0 = x2 / x7) (h15 : 0 ≤ x0) (h16 : x0 ≤ x2) (h17 : x1 = (-1)) (h18 : -2147483648 ≤ x0) (h19 : x0 ≤ 2147483647) (h20 : -2147483648 ≤ x1) (h21 : x1 ≤ 2147483647) (h22 : -2147483648 ≤ x2) (h23 : x2 ≤ 2147483647) (h24 : -2147483648 ≤ x3) (h25 : x3 ≤ 2147483647) (h26 : -2147483648 ≤ x4) (h27 : x4 ≤ 2147483647) (h28 : -2147483648 ≤ x5) (h29 : x5 ≤ 2147483647) (h30 : -2147483648 ≤ x6) (h31 : x6 ≤ 2147483647) (h32 : -2147483648 ≤ x7) (h33 : x7 ≤ 2147483647) : -2147483648 ≤ x0 + x1 := by omega
theorem o32_139 {x0 x1 x2 x3 x4 x5 x6 x7 : Int} (h0 : 0 ≤ x2) (h1 : x2 ≤ 24) (h2 : 0 ≤ x3) (h3 : x3 ≤ 5) (h4 : 1 ≤ x3) (h5 : x4 = x2 % x3) (h6 : 0 ≤ x4) (h7 : x4 < x3) (h8 : x5 = 0) (h9 : x6 = x4 + x5) (h10 : 0 ≤ x7) (h11 : x7 ≤ 5) (h12 : x7 = x3) (h13 : 1 ≤ x7) (h14 : x0 = x2 / x7) (h15 : 0 ≤ x0) (h16 : x0 ≤ x2) (h17 : x1 = (-1)) (h18 : -2147483648 ≤ x0) (h19 : x0 ≤ 2147483647) (h20 : -2147483648 ≤ x1) (h21 : x1 ≤ 2147483647) (h22 : -2147483648 ≤ x2) (h23 : x2 ≤ 2147483647) (h24 : -2147483648 ≤ x3) (h25 : x3 ≤ 2147483647) (h26 : -2147483648 ≤ x4) (h27 : x4 ≤ 2147483647) (h28 : -2147483648 ≤ x5) (h29 : x5 ≤ 2147483647) (h30 : -2147483648 ≤ x6) (h31 : x6 ≤ 2147483647) (h32 : -2147483648 ≤ x7) (h33 : x7 ≤ 2147483647) : x0 + x1 ≤ 2147483647 := by omega
theorem o32_140 {x0 x1 x2 x3 x4 x5 x6 x7 x8 x9 x10 x11 : Int} (h0 : 0 ≤ x2) (h1 : x2 ≤ 24) (h2 : 0 ≤ x3) (h3 : x3 ≤ 5) (h4 : 1 ≤ x3) (h5 : x4 = x2 % x3) (h6 : 0 ≤ x4) (h7 : x4 < x3) (h8 : x5 = 0) (h9 : x6 = x4 + x5) (h10 : 0 ≤ x7) (h11 : x7 ≤ 5) (h12 : x7 = x3) (h13 : 1 ≤ x7) (h14 : x8 = x2 / x7) (h15 : 0 ≤ x8) (h16 : x8 ≤ x2) (h17 : x9 = (-1)) (h18 : x10 = x8 + x9) (h19 : x11 = x6) (h20 : 0 ≤ x0) (h21 : x0 ≤ 5) (h22 : x0 = x3) (h23 : 1 ≤ x0) (h24 : x1 = 1) (h25 : -2147483648 ≤ x0) (h26 : x0 ≤ 2147483647) (h27 : -2147483648 ≤ x1) (h28 : x1 ≤ 2147483647) (h29 : -2147483648 ≤ x2) (h30 : x2 ≤ 2147483647) (h31 : -2147483648 ≤ x3) (h32 : x3 ≤ 2147483647) (h33 : -2147483648 ≤ x4) (h34 : x4 ≤ 2147483647) (h35 : -2147483648 ≤ x5) (h36 : x5 ≤ 2147483647) (h37 : -2147483648 ≤ x6) (h38 : x6 ≤ 2147483647) (h39 : -2147483648 ≤ x7) (h40 : x7 ≤ 2147483647) (h41 : -2147483648 ≤ x8) (h42 : x8 ≤ 2147483647) (h43 : -2147483648 ≤ x9) (h44 : x9 ≤ 2147483647) (h45 : -2147483648 ≤ x10) (h46 : x10 ≤ 2147483647) : -2147483648 ≤ x0 - x1 := by omega
theorem o32_141 {x0 x1 x2 x3 x4 x5 x6 x7 x8 x9 x10 x11 : Int} (h0 : 0 ≤ x2) (h1 : x2 ≤ 24) (h2 : 0 ≤ x3) (h3 : x3 ≤ 5) (h4 : 1 ≤ x3) (h5 : x4 = x2 % x3) (h6 : 0 ≤ x4) (h7 : x4 < x3) (h8 : x5 = 0) (h9 : x6 = x4 + x5) (h10 : 0 ≤ x7) (h11 : x7 ≤ 5) (h12 : x7 = x3) (h13 : 1 ≤ x7) (h14 : x8 = x2 / x7) (h15 : 0 ≤ x8) (h16 : x8 ≤ x2) (h17 : x9 = (-1)) (h18 : x10 = x8 + x9) (h19 : x11 = x6) (h20 : 0 ≤ x0) (h21 : x0 ≤ 5) (h22 : x0 = x3) (h23 : 1 ≤ x0) (h24 : x1 = 1) (h25 : -2147483648 ≤ x0) (h26 : x0 ≤ 2147483647) (h27 : -2147483648 ≤ x1) (h28 : x1 ≤ 2147483647) (h29 : -2147483648 ≤ x2) (h30 : x2 ≤ 2147483647) (h31 : -2147483648 ≤ x3) (h32 : x3 ≤ 2147483647) (h33 : -2147483648 ≤ x4) (h34 : x4 ≤ 2147483647) (h35 : -2147483648 ≤ x5) (h36 : x5 ≤ 2147483647) (h37 : -2147483648 ≤ x6) (h38 : x6 ≤ 2147483647) (h39 : -2147483648 ≤ x7) (h40 : x7 ≤ 2147483647) (h41 : -2147483648 ≤ x8) (h42 : x8 ≤ 2147483647) (h43 : -2147483648 ≤ x9) (h44 : x9 ≤ 2147483647) (h45 : -2147483648 ≤ x10) (h46 : x10 ≤ 2147483647) : x0 - x1 ≤ 2147483647 := by omega
theorem o32_142 {x0 x1 x2 x3 x4 x5 x6 x7 x8 x9 x10 x11 x12 x13 x14 x15 : Int} (h0 : 0 ≤ x2) (h1 : x2 ≤ 24) (h2 : 0 ≤ x1) (h3 : x1 ≤ 5) (h4 : 1 ≤ x1) (h5 : x3 = x2 % x1) (h6 : 0 ≤ x3) (h7 : x3 < x1) (h8 : x4 = 0) (h9 : x5 = x3 + x4) (h10 : 0 ≤ x0) (h11 : x0 ≤ 5) (h12 : x0 = x1) (h13 : 1 ≤ x0) (h14 : x6 = x2 / x0) (h15 : 0 ≤ x6) (h16 : x6 ≤ x2) (h17 : x7 = (-1)) (h18 : x8 = x6 + x7) (h19 : x9 = x5) (h20 : x10 = 0) (h21 : 0 ≤ x11) (h22 : x11 ≤ 5) (h23 : x11 = x1) (h24 : 1 ≤ x11) (h25 : x12 = 1) (h26 : x13 = x11 - x12) (h27 : x14 = x13) (h28 : 0 ≤ x15) (h29 : x15 ≤ 1) (h30 : ((x15 = 0 ∧ (x9 < x10 ∨ x14 < x9)) ∨ (x15 = 1 ∧ x10 ≤ x9 ∧ x9 ≤ x14))) (h31 : x15 = 0) : x0 = x1 := by omega
theorem o32_143 {x0 x1 x2 x3 x4 x5 x6 x7 x8 x9 x10 x11 x12 x13 x14 x15 x16 x17 x18 x19 x20 x21 x22 : Int} (h0 : 0 ≤ x2) (h1 : x2 ≤ 24) (h2 : 0 ≤ x1) (h3 : x1 ≤ 5) (h4 : 1 ≤ x1) (h5 : x3 = x2 % x1) (h6 : 0 ≤ x3) (h7 : x3 < x1) (h8 : x4 = 0) (h9 : x5 = x3 + x4) (h10 : 0 ≤ x0) (h11 : x0 ≤ 5) (h12 : x0 = x1) (h13 : 1 ≤ x0) (h14 : x6 = x2 / x0) (h15 : 0 ≤ x6) (h16 : x6 ≤ x2) (h17 : x7 = (-1)) (h18 : x8 = x6 + x7) (h19 : x9 = x5) (h20 : x10 = 0) (h21 : 0 ≤ x11) (h22 : x11 ≤ 5) (h23 : x11 = x1) (h24 : 1 ≤ x11) (h25 : x12 = 1) (h26 : x13 = x11 - x12) (h27 : x14 = x13) (h28 : 0 ≤ x15) (h29 : x15 ≤ 1) (h30 : ((x15 = 0 ∧ (x9 < x10 ∨ x14 < x9)) ∨ (x15 = 1 ∧ x10 ≤ x9 ∧ x9 ≤ x14))) (h31 : ¬ x15 = 0) (h32 : x16 = x8) (h33 : x17 = 0) (h34 : 0 ≤ x18) (h35 : x18 ≤ 5) (h36 : 1 ≤ x18) (h37 : x19 = 1) (h38 : x20 = x18 - x19) (h39 : x21 = x20) (h40 : 0 ≤ x22) (h41 : x22 ≤ 1) (h42 : ((x22 = 0 ∧ (x16 < x17 ∨ x21 < x16)) ∨ (x22 = 1 ∧ x17 ≤ x16 ∧ x16 ≤ x21))) (h43 : x22 = 0) : x0 = x1 := by omega
theorem o32_144 {x0 x1 x2 x3 x4 x5 x6 x7 x8 x9 x10 x11 x12 x13 x14 x15 x16 x17 x18 x19 x20 x21 x22 x23 : Int} (h0 : 0 ≤ x1) (h1 : x1 ≤ 24) (h2 : 0 ≤ x2) (h3 : x2 ≤ 5) (h4 : 1 ≤ x2) (h5 : x3 = x1 % x2) (h6 : 0 ≤ x3) (h7 : x3 < x2) (h8 : x4 = 0) (h9 : x5 = x3 + x4) (h10 : 0 ≤ x6) (h11 : x6 ≤ 5) (h12 : x6 = x2) (h13 : 1 ≤ x6) (h14 : x7 = x1 / x6) (h15 : 0 ≤ x7) (h16 : x7 ≤ x1) (h17 : x8 = (-1)) (h18 : x9 = x7 + x8) (h19 : x10 = x5) (h20 : x11 = 0) (h21 : 0 ≤ x12) (h22 : x12 ≤ 5) (h23 : x12 = x2) (h24 : 1 ≤ x12) (h25 : x13 = 1) (h26 : x14 = x12 - x13) (h27 : x15 = x14) (h28 : 0 ≤ x16) (h29 : x16 ≤ 1) (h30 : ((x16 = 0 ∧ (x10 < x11 ∨ x15 < x10)) ∨ (x16 = 1 ∧ x11 ≤ x10 ∧ x10 ≤ x15))) (h31 : ¬ x16 = 0) (h32 : x17 = x9) (h33 : x18 = 0) (h34 : 0 ≤ x19) (h35 : x19 ≤ 5) (h36 : 1 ≤ x19) (h37 : x20 = 1) (h38 : x21 = x19 - x20) (h39 : x22 = x21) (h40 : 0 ≤ x23) (h41 : x23 ≤ 1) (h42 : ((x23 = 0 ∧ (x17 < x18 ∨ x22 < x17)) ∨ (x23 = 1 ∧ x18 ≤ x17 ∧ x17 ≤ x22))) (h43 : ¬ x23 = 0) (h44 : 0 ≤ x0) (h45 : x0 ≤ 5) (h46 : x0 = x2) (h47 : 1 ≤ x0) : 1 ≤ x0 := by omega
theorem o32_145 {x0 x1 x2 x3 x4 x5 x6 x7 x8 x9 x10 x11 x12 x13 x14 x15 x16 x17 x18 x19 x20 x21 x22 x23 : Int} (h0 : 0 ≤ x1) (h1 : x1 ≤ 24) (h2 : 0 ≤ x2) (h3 : x2 ≤ 5) (h4 : 1 ≤ x2) (h5 : x3 = x1 % x2) (h6 : 0 ≤ x3) (h7 : x3 < x2) (h8 : x4 = 0) (h9 : x5 = x3 + x4) (h10 : 0 ≤ x6) (h11 : x6 ≤ 5) (h12 : x6 = x2) (h13 : 1 ≤ x6) (h14 : x7 = x1 / x6) (h15 : 0 ≤ x7) (h16 : x7 ≤ x1) (h17 : x8 = (-1)) (h18 : x9 = x7 + x8) (h19 : x10 = x5) (h20 : x11 = 0) (h21 : 0 ≤ x12) (h22 : x12 ≤ 5) (h23 : x12 = x2) (h24 : 1 ≤ x12) (h25 : x13 = 1) (h26 : x14 = x12 - x13) (h27 : x15 = x14) (h28 : 0 ≤ x16) (h29 : x16 ≤ 1) (h30 : ((x16 = 0 ∧ (x10 < x11 ∨ x15 < x10)) ∨ (x16 = 1 ∧ x11 ≤ x10 ∧ x10 ≤ x15))) (h31 : ¬ x16 = 0) (h32 : x17 = x9) (h33 : x18 = 0) (h34 : 0 ≤ x19) (h35 : x19 ≤ 5) (h36 : 1 ≤ x19) (h37 : x20 = 1) (h38 : x21 = x19 - x20) (h39 : x22 = x21) (h40 : 0 ≤ x23) (h41 : x23 ≤ 1) (h42 : ((x23 = 0 ∧ (x17 < x18 ∨ x22 < x17)) ∨ (x23 = 1 ∧ x18 ≤ x17 ∧ x17 ≤ x22))) (h43 : ¬ x23 = 0) (h44 : 0 ≤ x0) (h45 : x0 ≤ 5) (h46 : x0 = x2) (h47 : 1 ≤ x0) : x0 ≤ 5 := by omega
theorem o32_146 {x0 x1 x2 x3 x4 x5 x6 x7 x8 x9 x10 x11 x12 x13 x14 x15 x16 x17 x18 x19 x20 x21 x22 x23 : Int} (h0 : 0 ≤ x1) (h1 : x1 ≤ 24) (h2 : 0 ≤ x2) (h3 : x2 ≤ 5) (h4 : 1 ≤ x2) (h5 : x3 = x1 % x2) (h6 : 0 ≤ x3) (h7 : x3 < x2) (h8 : x4 = 0) (h9 : x5 = x3 + x4) (h10 : 0 ≤ x6) (h11 : x6 ≤ 5) (h12 : x6 = x2) (h13 : 1 ≤ x6) (h14 : x7 = x1 / x6) (h15 : 0 ≤ x7) (h16 : x7 ≤ x1) (h17 : x8 = (-1)) (h18 : x0 = x7 + x8) (h19 : x9 = x5) (h20 : x10 = 0) (h21 : 0 ≤ x11) (h22 : x11 ≤ 5) (h23 : x11 = x2) (h24 : 1 ≤ x11) (h25 : x12 = 1) (h26 : x13 = x11 - x12) (h27 : x14 = x13) (h28 : 0 ≤ x15) (h29 : x15 ≤ 1) (h30 : ((x15 = 0 ∧ (x9 < x10 ∨ x14 < x9)) ∨ (x15 = 1 ∧ x10 ≤ x9 ∧ x9 ≤ x14))) (h31 : ¬ x15 = 0) (h32 : x16 = x0) (h33 : x17 = 0) (h34 : 0 ≤ x18) (h35 : x18 ≤ 5) (h36 : 1 ≤ x18) (h37 : x19 = 1) (h38 : x20 = x18 - x19) (h39 : x21 = x20) (h40 : 0 ≤ x22) (h41 : x22 ≤ 1) (h42 : ((x22 = 0 ∧ (x16 < x17 ∨ x21 < x16)) ∨ (x22 = 1 ∧ x17 ≤ x16 ∧ x16 ≤ x21))) (h43 : ¬ x22 = 0) (h44 : 0 ≤ x23) (h45 : x23 ≤ 5) (h46 : x23 = x2) (h47 : 1 ≤ x23) : 0 ≤ x0 := by omega
theorem o32_147 {x0 x1 x2 x3 x4 x5 x6 x7 x8 x9 x10 x11 x12 x13 x14 x15 x16 x17 x18 x19 x20 x21 x22 x23 : Int} (h0 : 0 ≤ x1) (h1 : x1 ≤ 24) (h2 : 0 ≤ x2) (h3 : x2 ≤ 5) (h4 : 1 ≤ x2) (h5 : x3 = x1 % x2) (h6 : 0 ≤ x3) (h7 : x3 < x2) (h8 : x4 = 0) (h9 : x5 = x3 + x4) (h10 : 0 ≤ x6) (h11 : x6 ≤ 5) (h12 : x6 = x2) (h13 : 1 ≤ x6) (h14 : x7 = x1 / x6) (h15 : 0 ≤ x7) (h16 : x7 ≤ x1) (h17 : x8 = (-1)) (h18 : x0 = x7 + x8) (h19 : x9 = x5) (h20 : x10 = 0) (h21 : 0 ≤ x11) (h22 : x11 ≤ 5) (h23 : x11 = x2) (h24 : 1 ≤ x11) (h25 : x12 = 1) (h26 : x13 = x11 - x12) (h27 : x14 = x13) (h28 : 0 ≤ x15) (h29 : x15 ≤ 1) (h30 : ((x15 = 0 ∧ (x9 < x10 ∨ x14 < x9)) ∨ (x15 = 1 ∧ x10 ≤ x9 ∧ x9 ≤ x14))) (h31 : ¬ x15 = 0) (h32 : x16 = x0) (h33 : x17 = 0) (h34 : 0 ≤ x18) (h35 : x18 ≤ 5) (h36 : 1 ≤ x18) (h37 : x19 = 1) (h38 : x20 = x18 - x19) (h39 : x21 = x20) (h40 : 0 ≤ x22) (h41 : x22 ≤ 1) (h42 : ((x22 = 0 ∧ (x16 < x17 ∨ x21 < x16)) ∨ (x22 = 1 ∧ x17 ≤ x16 ∧ x16 ≤ x21))) (h43 : ¬ x22 = 0) (h44 : 0 ≤ x23) (h45 : x23 ≤ 5) (h46 : x23 = x2) (h47 : 1 ≤ x23) : x0 ≤ 4 := by omega
theorem o32_148 {x0 x1 x2 x3 x4 x5 x6 x7 x8 x9 x10 x11 x12 x13 x14 x15 x16 x17 x18 x19 x20 x21 x22 x23 x24 : Int} (h0 : 0 ≤ x2) (h1 : x2 ≤ 24) (h2 : 0 ≤ x3) (h3 : x3 ≤ 5) (h4 : 1 ≤ x3) (h5 : x4 = x2 % x3) (h6 : 0 ≤ x4) (h7 : x4 < x3) (h8 : x5 = 0) (h9 : x1 = x4 + x5) (h10 : 0 ≤ x6) (h11 : x6 ≤ 5) (h12 : x6 = x3) (h13 : 1 ≤ x6) (h14 : x7 = x2 / x6) (h15 : 0 ≤ x7) (h16 : x7 ≤ x2) (h17 : x8 = (-1)) (h18 : x9 = x7 + x8) (h19 : x10 = x1) (h20 : x11 = 0) (h21 : 0 ≤ x12) (h22 : x12 ≤ 5) (h23 : x12 = x3) (h24 : 1 ≤ x12) (h25 : x13 = 1) (h26 : x14 = x12 - x13) (h27 : x15 = x14) (h28 : 0 ≤ x16) (h29 : x16 ≤ 1) (h30 : ((x16 = 0 ∧ (x10 < x11 ∨ x15 < x10)) ∨ (x16 = 1 ∧ x11 ≤ x10 ∧ x10 ≤ x15))) (h31 : ¬ x16 = 0) (h32 : x17 = x9) (h33 : x18 = 0) (h34 : 0 ≤ x19) (h35 : x19 ≤ 5) (h36 : 1 ≤ x19) (h37 : x20 = 1) (h38 : x21 = x19 - x20) (h39 : x22 = x21) (h40 : 0 ≤ x23) (h41 : x23 ≤ 1) (h42 : ((x23 = 0 ∧ (x17 < x18 ∨ x22 < x17)) ∨ (x23 = 1 ∧ x18 ≤ x17 ∧ x17 ≤ x22))) (h43 : ¬ x23 = 0) (h44 : 0 ≤ x24) (h45 : x24 ≤ 5) (h46 : x24 = x3) (h47 : 1 ≤ x24) (h48 : 1 * 0 ≤ x0) (h49 : x0 ≤ 5 * 4) (h50 : -2147483648 ≤ x0) (h51 : x0 ≤ 2147483647) (h52 : -2147483648 ≤ x1) (h53 : x1 ≤ 2147483647) (h54 : -2147483648 ≤ x2) (h55 : x2 ≤ 2147483647) (h56 : -2147483648 ≤ x3) (h57 : x3 ≤ 2147483647) (h58 : -2147483648 ≤ x4) (h59 : x4 ≤ 2147483647) (h60 : -2147483648 ≤ x5) (h61 : x5 ≤ 2147483647) (h62 : -2147483648 ≤ x6) (h63 : x6 ≤ 2147483647) (h64 : -2147483648 ≤ x7) (h65 : x7 ≤ 2147483647) (h66 : -2147483648 ≤ x8) (h67 : x8 ≤ 2147483647) (h68 : -2147483648 ≤ x9) (h69 : x9 ≤ 2147483647) (h70 : -2147483648 ≤ x12) (h71 : x12 ≤ 2147483647) (h72 : -2147483648 ≤ x13) (h73 : x13 ≤ 2147483647) (h74 : -2147483648 ≤ x14) (h75 : x14 ≤ 2147483647) (h76 : -2147483648 ≤ x16) (h77 : x16 ≤ 2147483647) (h78 : -2147483648 ≤ x19) (h79 : x19 ≤ 2147483647) (h80 : -2147483648 ≤ x20) (h81 : x20 ≤ 2147483647) (h82 : -2147483648 ≤ x21) (h83 : x21 ≤ 2147483647) (h84 : -2147483648 ≤ x23) (h85 : x23 ≤ 2147483647) (h86 : -2147483648 ≤ x24) (h87 : x24 ≤ 2147483647) : -2147483648 ≤ x0 + x1 := by omega
theorem o32_149 {x0 x1 x2 x3 x4 x5 x6 x7 x8 x9 x10 x11 x12 x13 x14 x15 x16 x17 x18 x19 x20 x21 x22 x23 x24 : Int} (h0 : 0 ≤ x2) (h1 : x2 ≤ 24) (h2 : 0 ≤ x3) (h3 : x3 ≤ 5) (h4 : 1 ≤ x3) (h5 : x4 = x2 % x3) (h6 : 0 ≤ x4) (h7 : x4 < x3) (h8 : x5 = 0) (h9 : x1 = x4 + x5) (h10 : 0 ≤ x6) (h11 : x6 ≤ 5) (h12 : x6 = x3) (h13 : 1 ≤ x6) (h14 : x7 = x2 / x6) (h15 : 0 ≤ x7) (h16 : x7 ≤ x2) (h17 : x8 = (-1)) (h18 : x9 = x7 + x8) (h19 : x10 = x1) (h20 : x11 = 0) (h21 : 0 ≤ x12) (h22 : x12 ≤ 5) (h23 : x12 = x3) (h24 : 1 ≤ x12) (h25 : x13 = 1) (h26 : x14 = x12 - x13) (h27 : x15 = x14) (h28 : 0 ≤ x16) (h29 : x16 ≤ 1) (h30 : ((x16 = 0 ∧ (x10 < x11 ∨ x15 < x10)) ∨ (x16 = 1 ∧ x11 ≤ x10 ∧ x10 ≤ x15))) (h31 : ¬ x16 = 0) (h32 : x17 = x9) (h33 : x18 = 0) (h34 : 0 ≤ x19) (h35 : x19 ≤ 5) (h36 : 1 ≤ x19) (h37 : x20 = 1) (h38 : x21 = x19 - x20) (h39 : x22 = x21) (h40 : 0 ≤ x23) (h41 : x23 ≤ 1) (h42 : ((x23 = 0 ∧ (x17 < x18 ∨ x22 < x17)) ∨ (x23 = 1 ∧ x18 ≤ x17 ∧ x17 ≤ x22))) (h43 : ¬ x23 = 0) (h44 : 0 ≤ x24) (h45 : x24 ≤ 5) (h46 : x24 = x3) (h47 : 1 ≤ x24) (h48 : 1 * 0 ≤ x0) (h49 : x0 ≤ 5 * 4) (h50 : -2147483648 ≤ x0) (h51 : x0 ≤ 2147483647) (h52 : -2147483648 ≤ x1) (h53 : x1 ≤ 2147483647) (h54 : -2147483648 ≤ x2) (h55 : x2 ≤ 2147483647) (h56 : -2147483648 ≤ x3) (h57 : x3 ≤ 2147483647) (h58 : -2147483648 ≤ x4) (h59 : x4 ≤ 2147483647) (h60 : -2147483648 ≤ x5) (h61 : x5 ≤ 2147483647) (h62 : -2147483648 ≤ x6) (h63 : x6 ≤ 2147483647) (h64 : -2147483648 ≤ x7) (h65 : x7 ≤ 2147483647) (h66 : -2147483648 ≤ x8) (h67 : x8 ≤ 2147483647) (h68 : -2147483648 ≤ x9) (h69 : x9 ≤ 2147483647) (h70 : -2147483648 ≤ x12) (h71 : x12 ≤ 2147483647) (h72 : -2147483648 ≤ x13) (h73 : x13 ≤ 2147483647) (h74 : -2147483648 ≤ x14) (h75 : x14 ≤ 2147483647) (h76 : -2147483648 ≤ x16) (h77 : x16 ≤ 2147483647) (h78 : -2147483648 ≤ x19) (h79 : x19 ≤ 2147483647) (h80 : -2147483648 ≤ x20) (h81 : x20 ≤ 2147483647) (h82 : -2147483648 ≤ x21) (h83 : x21 ≤ 2147483647) (h84 : -2147483648 ≤ x23) (h85 : x23 ≤ 2147483647) (h86 : -2147483648 ≤ x24) (h87 : x24 ≤ 2147483647) : x0 + x1 ≤ 2147483647 := by omega
theorem o32_150 {x0 x1 x2 x3 x4 x5 x6 x7 x8 x9 x10 x11 x12 x13 x14 x15 x16 x17 x18 x19 x20 x21 x22 x23 x24 x25 : Int} (h0 : 0 ≤ x1) (h1 : x1 ≤ 24) (h2 : 0 ≤ x2) (h3 : x2 ≤ 5) (h4 : 1 ≤ x2) (h5 : x3 = x1 % x2) (h6 : 0 ≤ x3) (h7 : x3 < x2) (h8 : x4 = 0) (h9 : x5 = x3 + x4) (h10 : 0 ≤ x6) (h11 : x6 ≤ 5) (h12 : x6 = x2) (h13 : 1 ≤ x6) (h14 : x7 = x1 / x6) (h15 : 0 ≤ x7) (h16 : x7 ≤ x1) (h17 : x8 = (-1)) (h18 : x9 = x7 + x8) (h19 : x10 = x5) (h20 : x11 = 0) (h21 : 0 ≤ x12) (h22 : x12 ≤ 5) (h23 : x12 = x2) (h24 : 1 ≤ x12) (h25 : x13 = 1) (h26 : x14 = x12 - x13) (h27 : x15 = x14) (h28 : 0 ≤ x16) (h29 : x16 ≤ 1) (h30 : ((x16 = 0 ∧ (x10 < x11 ∨ x15 < x10)) ∨ (x16 = 1 ∧ x11 ≤ x10 ∧ x10 ≤ x15))) (h31 : ¬ x16 = 0) (h32 : x17 = x9) (h33 : x18 = 0) (h34 : x19 = x20 - x21) (h35 : x22 = x19) (h36 : 0 ≤ x23) (h37 : x23 ≤ 1) (h38 : ((x23 = 0 ∧ (x17 < x18 ∨ x22 < x17)) ∨ (x23 = 1 ∧ x18 ≤ x17 ∧ x17 ≤ x22))) (h39 : ¬ x23 = 0) (h40 : 0 ≤ x24) (h41 : x24 ≤ 5) (h42 : x24 = x2) (h43 : 1 ≤ x24) (h44 : 1 * 0 ≤ x25) (h45 : x25 ≤ 5 * 4) (h46 : x0 = x25 + x5) : (-1) ≤ x0 := by omega
theorem o32_151 {x0 x1 x2 x3 x4 x5 x6 x7 x8 x9 x10 x11 x12 x13 x14 x15 x16 x17 x18 x19 x20 x21 x22 x23 x24 x25 : Int} (h0 : 0 ≤ x1) (h1 : x1 ≤ 24) (h2 : 0 ≤ x2) (h3 : x2 ≤ 5) (h4 : 1 ≤ x2) (h5 : x3 = x1 % x2) (h6 : 0 ≤ x3) (h7 : x3 < x2) (h8 : x4 = 0) (h9 : x5 = x3 + x4) (h10 : 0 ≤ x6) (h11 : x6 ≤ 5) (h12 : x6 = x2) (h13 : 1 ≤ x6) (h14 : x7 = x1 / x6) (h15 : 0 ≤ x7) (h16 : x7 ≤ x1) (h17 : x8 = (-1)) (h18 : x9 = x7 + x8) (h19 : x10 = x5) (h20 : x11 = 0) (h21 : 0 ≤ x12) (h22 : x12 ≤ 5) (h23 : x12 = x2) (h24 : 1 ≤ x12) (h25 : x13 = 1) (h26 : x14 = x12 - x13) (h27 : x15 = x14) (h28 : 0 ≤ x16) (h29 : x16 ≤ 1) (h30 : ((x16 = 0 ∧ (x10 < x11 ∨ x15 < x10)) ∨ (x16 = 1 ∧ x11 ≤ x10 ∧ x10 ≤ x15))) (h31 : ¬ x16 = 0) (h32 : x17 = x9) (h33 : x18 = 0) (h34 : x19 = x20 - x21) (h35 : x22 = x19) (h36 : 0 ≤ x23) (h37 : x23 ≤ 1) (h38 : ((x23 = 0 ∧ (x17 < x18 ∨ x22 < x17)) ∨ (x23 = 1 ∧ x18 ≤ x17 ∧ x17 ≤ x22))) (h39 : ¬ x23 = 0) (h40 : 0 ≤ x24) (h41 : x24 ≤ 5) (h42 : x24 = x2) (h43 : 1 ≤ x24) (h44 : 1 * 0 ≤ x25) (h45 : x25 ≤ 5 * 4) (h46 : x0 = x25 + x5) : x0 ≤ 24 := by omega
theorem o32_152 {x0 x1 x2 x3 x4 x5 x6 x7 x8 x9 x10 x11 x12 x13 x14 x15 x16 x17 x18 x19 x20 x21 x22 x23 x24 x25 : Int} (h0 : 0 ≤ x2) (h1 : x2 ≤ 24) (h2 : 0 ≤ x1) (h3 : x1 ≤ 5) (h4 : 1 ≤ x1) (h5 : x3 = x2 % x1) (h6 : 0 ≤ x3) (h7 : x3 < x1) (h8 : x4 = 0) (h9 : x5 = x3 + x4) (h10 : 0 ≤ x6) (h11 : x6 ≤ 5) (h12 : x6 = x1) (h13 : 1 ≤ x6) (h14 : x7 = x2 / x6) (h15 : 0 ≤ x7) (h16 : x7 ≤ x2) (h17 : x8 = (-1)) (h18 : x9 = x7 + x8) (h19 : x10 = x5) (h20 : x11 = 0) (h21 : 0 ≤ x12) (h22 : x12 ≤ 5) (h23 : x12 = x1) (h24 : 1 ≤ x12) (h25 : x13 = 1) (h26 : x14 = x12 - x13) (h27 : x15 = x14) (h28 : 0 ≤ x16) (h29 : x16 ≤ 1) (h30 : ((x16 = 0 ∧ (x10 < x11 ∨ x15 < x10)) ∨ (x16 = 1 ∧ x11 ≤ x10 ∧ x10 ≤ x15))) (h31 : ¬ x16 = 0) (h32 : x17 = x9) (h33 : x18 = 0) (h34 : 0 ≤ x19) (h35 : x19 ≤ 5) (h36 : 1 ≤ x19) (h37 : x20 = 1) (h38 : x21 = x19 - x20) (h39 : x22 = x21) (h40 : 0 ≤ x23) (h41 : x23 ≤ 1) (h42 : ((x23 = 0 ∧ (x17 < x18 ∨ x22 < x17)) ∨ (x23 = 1 ∧ x18 ≤ x17 ∧ x17 ≤ x22))) (h43 : ¬ x23 = 0) (h44 : 0 ≤ x0) (h45 : x0 ≤ 5) (h46 : x0 = x1) (h47 : 1 ≤ x0) (h48 : 1 * 0 ≤ x24) (h49 : x24 ≤ 5 * 4) (h50 : x25 = x24 + x5) : x0 = x1 := by omega
theorem o32_153 {x0 x1 x2 x3 x4 x5 x6 x7 x8 x9 x10 x11 x12 x13 x14 x15 x16 x17 x18 x19 x20 x21 x22 x23 x24 x25 : Int} (h0 : 0 ≤ x1) (h1 : x1 ≤ 24) (h2 : 0 ≤ x2) (h3 : x2 ≤ 5) (h4 : 1 ≤ x2) (h5 : x3 = x1 % x2) (h6 : 0 ≤ x3) (h7 : x3 < x2) (h8 : x4 = 0) (h9 : x5 = x3 + x4) (h10 : 0 ≤ x6) (h11 : x6 ≤ 5) (h12 : x6 = x2) (h13 : 1 ≤ x6) (h14 : x7 = x1 / x6) (h15 : 0 ≤ x7) (h16 : x7 ≤ x1) (h17 : x8 = (-1)) (h18 : x0 = x7 + x8) (h19 : x9 = x5) (h20 : x10 = 0) (h21 : 0 ≤ x11) (h22 : x11 ≤ 5) (h23 : x11 = x2) (h24 : 1 ≤ x11) (h25 : x12 = 1) (h26 : x13 = x11 - x12) (h27 : x14 = x13) (h28 : 0 ≤ x15) (h29 : x15 ≤ 1) (h30 : ((x15 = 0 ∧ (x9 < x10 ∨ x14 < x9)) ∨ (x15 = 1 ∧ x10 ≤ x9 ∧ x9 ≤ x14))) (h31 : ¬ x15 = 0) (h32 : x16 = x0) (h33 : x17 = 0) (h34 : 0 ≤ x18) (h35 : x18 ≤ 5) (h36 : 1 ≤ x18) (h37 : x19 = 1) (h38 : x20 = x18 - x19) (h39 : x21 = x20) (h40 : 0 ≤ x22) (h41 : x22 ≤ 1) (h42 : ((x22 = 0 ∧ (x16 < x17 ∨ x21 < x16)) ∨ (x22 = 1 ∧ x17 ≤ x16 ∧ x16 ≤ x21))) (h43 : ¬ x22 = 0) (h44 : 0 ≤ x23) (h45 : x23 ≤ 5) (h46 : x23 = x2) (h47 : 1 ≤ x23) (h48 : 1 * 0 ≤ x24) (h49 : x24 ≤ 5 * 4) (h50 : x25 = x24 + x5) : x0 = x0 := by omega
theorem o32_154 {x0 x1 x2 x3 x4 x5 x6 x7 x8 x9 x10 x11 x12 x13 x14 x15 x16 x17 x18 x19 x20 x21 x22 x23 x24 x25 : Int} (h0 : 0 ≤ x2) (h1 : x2 ≤ 24) (h2 : 0 ≤ x1) (h3 : x1 ≤ 5) (h4 : 1 ≤ x1) (h5 : x3 = x2 % x1) (h6 : 0 ≤ x3) (h7 : x3 < x1) (h8 : x4 = 0) (h9 : x5 = x3 + x4) (h10 : 0 ≤ x0) (h11 : x0 ≤ 5) (h12 : x0 = x1) (h13 : 1 ≤ x0) (h14 : x6 = x2 / x0) (h15 : 0 ≤ x6) (h16 : x6 ≤ x2) (h17 : x7 = (-1)) (h18 : x8 = x6 + x7) (h19 : x9 = x5) (h20 : x10 = 0) (h21 : 0 ≤ x11) (h22 : x11 ≤ 5) (h23 : x11 = x1) (h24 : 1 ≤ x11) (h25 : x12 = 1) (h26 : x13 = x11 - x12) (h27 : x14 = x13) (h28 : 0 ≤ x15) (h29 : x15 ≤ 1) (h30 : ((x15 = 0 ∧ (x9 < x10 ∨ x14 < x9)) ∨ (x15 = 1 ∧ x10 ≤ x9 ∧ x9 ≤ x14))) (h31 : ¬ x15 = 0) (h32 : x16 = x8) (h33 : x17 = 0) (h34 : 0 ≤ x18) (h35 : x18 ≤ 5) (h36 : 1 ≤ x18) (h37 : x19 = 1) (h38 : x20 = x18 - x19) (h39 : x21 = x20) (h40 : 0 ≤ x22) (h41 : x22 ≤ 1) (h42 : ((x22 = 0 ∧ (x16 < x17 ∨ x21 < x16)) ∨ (x22 = 1 ∧ x17 ≤ x16 ∧ x16 ≤ x21))) (h43 : ¬ x22 = 0) (h44 : 0 ≤ x23) (h45 : x23 ≤ 5) (h46 : x23 = x1) (h47 : 1 ≤ x23) (h48 : 1 * 0 ≤ x24) (h49 : x24 ≤ 5 * 4) (h50 : x25 = x24 + x5) : x0 = x1 := by omega
theorem o32_155 {x0 x1 x2 x3 x4 x5 x6 x7 : Int} (h0 : 0 ≤ x2) (h1 : x2 ≤ 24) (h2 : 0 ≤ x3) (h3 : x3 ≤ 5) (h4 : 1 ≤ x3) (h5 : x4 = x2 % x3) (h6 : 0 ≤ x4) (h7 : x4 < x3) (h8 : x5 = 0) (h9 : x6 = x4 + x5) (h10 : 0 ≤ x7) (h11 : x7 ≤ 5) (h12 : x7 = x3) (h13 : 1 ≤ x7) (h14 : x0 = x2 / x7) (h15 : 0 ≤ x0) (h16 : x0 ≤ x2) (h17 : x1 = 1) (h18 : -2147483648 ≤ x0) (h19 : x0 ≤ 2147483647) (h20 : -2147483648 ≤ x1) (h21 : x1 ≤ 2147483647) (h22 : -2147483648 ≤ x2) (h23 : x2 ≤ 2147483647) (h24 : -2147483648 ≤ x3) (h25 : x3 ≤ 2147483647) (h26 : -2147483648 ≤ x4) (h27 : x4 ≤ 2147483647) (h28 : -2147483648 ≤ x5) (h29 : x5 ≤ 2147483647) (h30 : -2147483648 ≤ x6) (h31 : x6 ≤ 2147483647) (h32 : -2147483648 ≤ x7) (h33 : x7 ≤ 2147483647) : -2147483648 ≤ x0 + x1 := by omega
theorem o32_156 {x0 x1 x2 x3 x4 x5 x6 x7 : Int} (h0 : 0 ≤ x2) (h1 : x2 ≤ 24) (h2 : 0 ≤ x3) (h3 : x3 ≤ 5) (h4 : 1 ≤ x3) (h5 : x4 = x2 % x3) (h6 : 0 ≤ x4) (h7 : x4 < x3) (h8 : x5 = 0) (h9 : x6 = x4 + x5) (h10 : 0 ≤ x7) (h11 : x7 ≤ 5) (h12 : x7 = x3) (h13 : 1 ≤ x7) (h14 : x0 = x2 / x7) (h15 : 0 ≤ x0) (h16 : x0 ≤ x2) (h17 : x1 = 1) (h18 : -2147483648 ≤ x0) (h19 : x0 ≤ 2147483647) (h20 : -2147483648 ≤ x1) (h21 : x1 ≤ 2147483647) (h22 : -2147483648 ≤ x2) (h23 : x2 ≤ 2147483647) (h24 : -2147483648 ≤ x3) (h25 : x3 ≤ 2147483647) (h26 : -2147483648 ≤ x4) (h27 : x4 ≤ 2147483647) (h28 : -2147483648 ≤ x5) (h29 : x5 ≤ 2147483647) (h30 : -2147483648 ≤ x6) (h31 : x6 ≤ 2147483647) (h32 : -2147483648 ≤ x7) (h33 : x7 ≤ 2147483647) : x0 + x1 ≤ 2147483647 := by omega
theorem o32_157 {x0 x1 x2 x3 x4 x5 x6 x7 x8 x9 x10 x11 : Int} (h0 : 0 ≤ x2) (h1 : x2 ≤ 24) (h2 : 0 ≤ x3) (h3 : x3 ≤ 5) (h4 : 1 ≤ x3) (h5 : x4 = x2 % x3) (h6 : 0 ≤ x4) (h7 : x4 < x3) (h8 : x5 = 0) (h9 : x6 = x4 + x5) (h10 : 0 ≤ x7) (h11 : x7 ≤ 5) (h12 : x7 = x3) (h13 : 1 ≤ x7) (h14 : x8 = x2 / x7) (h15 : 0 ≤ x8) (h16 : x8 ≤ x2) (h17 : x9 = 1) (h18 : x10 = x8 + x9) (h19 : x11 = x6) (h20 : 0 ≤ x0) (h21 : x0 ≤ 5) (h22 : x0 = x3) (h23 : 1 ≤ x0) (h24 : x1 = 1) (h25 : -2147483648 ≤ x0) (h26 : x0 ≤ 2147483647) (h27 : -2147483648 ≤ x1) (h28 : x1 ≤ 2147483647) (h29 : -2147483648 ≤ x2) (h30 : x2 ≤ 2147483647) (h31 : -2147483648 ≤ x3) (h32 : x3 ≤ 2147483647) (h33 : -2147483648 ≤ x4) (h34 : x4 ≤ 2147483647) (h35 : -2147483648 ≤ x5) (h36 : x5 ≤ 2147483647) (h37 : -2147483648 ≤ x6) (h38 : x6 ≤ 2147483647) (h39 : -2147483648 ≤ x7) (h40 : x7 ≤ 2147483647) (h41 : -2147483648 ≤ x8) (h42 : x8 ≤ 2147483647) (h43 : -2147483648 ≤ x9) (h44 : x9 ≤ 2147483647) (h45 : -2147483648 ≤ x10) (h46 : x10 ≤ 2147483647) : -2147483648 ≤ x0 - x1 := by omega
theorem o32_158 {x0 x1 x2 x3 x4 x5 x6 x7 x8 x9 x10 x11 : Int} (h0 : 0 ≤ x2) (h1 : x2 ≤ 24) (h2 : 0 ≤ x3) (h3 : x3 ≤ 5) (h4 : 1 ≤ x3) (h5 : x4 = x2 % x3) (h6 : 0 ≤ x4) (h7 : x4 < x3) (h8 : x5 = 0) (h9 : x6 = x4 + x5) (h10 : 0 ≤ x7) (h11 : x7 ≤ 5) (h12 : x7 = x3) (h13 : 1 ≤ x7) (h14 : x8 = x2 / x7) (h15 : 0 ≤ x8) (h16 : x8 ≤ x2) (h17 : x9 = 1) (h18 : x10 = x8 + x9) (h19 : x11 = x6) (h20 : 0 ≤ x0) (h21 : x0 ≤ 5) (h22 : x0 = x3) (h23 : 1 ≤ x0) (h24 : x1 = 1) (h25 : -2147483648 ≤ x0) (h26 : x0 ≤ 2147483647) (h27 : -2147483648 ≤ x1) (h28 : x1 ≤ 2147483647) (h29 : -2147483648 ≤ x2) (h30 : x2 ≤ 2147483647) (h31 : -2147483648 ≤ x3) (h32 : x3 ≤ 2147483647) (h33 : -2147483648 ≤ x4) (h34 : x4 ≤ 2147483647) (h35 : -2147483648 ≤ x5) (h36 : x5 ≤ 2147483647) (h37 : -2147483648 ≤ x6) (h38 : x6 ≤ 2147483647) (h39 : -2147483648 ≤ x7) (h40 : x7 ≤ 2147483647) (h41 : -2147483648 ≤ x8) (h42 : x8 ≤ 2147483647) (h43 : -2147483648 ≤ x9) (h44 : x9 ≤ 2147483647) (h45 : -2147483648 ≤ x10) (h46 : x10 ≤ 2147483647) : x0 - x1 ≤ 2147483647 := by omega
theorem o32_159 {x0 x1 x2 x3 x4 x5 x6 x7 x8 x9 x10 x11 x12 x13 x14 x15 : Int} (h0 : 0 ≤ x2) (h1 : x2 ≤ 24) (h2 : 0 ≤ x1) (h3 : x1 ≤ 5) (h4 : 1 ≤ x1) (h5 : x3 = x2 % x1) (h6 : 0 ≤ x3) (h7 : x3 < x1) (h8 : x4 = 0) (h9 : x5 = x3 + x4) (h10 : 0 ≤ x0) (h11 : x0 ≤ 5) (h12 : x0 = x1) (h13 : 1 ≤ x0) (h14 : x6 = x2 / x0) (h15 : 0 ≤ x6) (h16 : x6 ≤ x2) (h17 : x7 = 1) (h18 : x8 = x6 + x7) (h19 : x9 = x5) (h20 : x10 = 0) (h21 : 0 ≤ x11) (h22 : x11 ≤ 5) (h23 : x11 = x1) (h24 : 1 ≤ x11) (h25 : x12 = 1) (h26 : x13 = x11 - x12) (h27 : x14 = x13) (h28 : 0 ≤ x15) (h29 : x15 ≤ 1) (h30 : ((x15 = 0 ∧ (x9 < x10 ∨ x14 < x9)) ∨ (x15 = 1 ∧ x10 ≤ x9 ∧ x9 ≤ x14))) (h31 : x15 = 0) : x0 = x1 := by omega
theorem o32_160 {x0 x1 x2 x3 x4 x5 x6 x7 x8 x9 x10 x11 x12 x13 x14 x15 x16 x17 x18 x19 x20 x21 x22 : Int} (h0 : 0 ≤ x2) (h1 : x2 ≤ 24) (h2 : 0 ≤ x1) (h3 : x1 ≤ 5) (h4 : 1 ≤ x1) (h5 : x3 = x2 % x1) (h6 : 0 ≤ x3) (h7 : x3 < x1) (h8 : x4 = 0) (h9 : x5 = x3 + x4) (h10 : 0 ≤ x0) (h11 : x0 ≤ 5) (h12 : x0 = x1) (h13 : 1 ≤ x0) (h14 : x6 = x2 / x0) (h15 : 0 ≤ x6) (h16 : x6 ≤ x2) (h17 : x7 = 1) (h18 : x8 = x6 + x7) (h19 : x9 = x5) (h20 : x10 = 0) (h21 : 0 ≤ x11) (h22 : x11 ≤ 5) (h23 : x11 = x1) (h24 : 1 ≤ x11) (h25 : x12 = 1) (h26 : x13 = x11 - x12) (h27 : x14 = x13) (h28 : 0 ≤ x15) (h29 : x15 ≤ 1) (h30 : ((x15 = 0 ∧ (x9 < x10 ∨ x14 < x9)) ∨ (x15 = 1 ∧ x10 ≤ x9 ∧ x9 ≤ x14))) (h31 : ¬ x15 = 0) (h32 : x16 = x8) (h33 : x17 = 0) (h34 : 0 ≤ x18) (h35 : x18 ≤ 5) (h36 : 1 ≤ x18) (h37 : x19 = 1) (h38 : x20 = x18 - x19) (h39 : x21 = x20) (h40 : 0 ≤ x22) (h41 : x22 ≤ 1) (h42 : ((x22 = 0 ∧ (x16 < x17 ∨ x21 < x16)) ∨ (x22 = 1 ∧ x17 ≤ x16 ∧ x16 ≤ x21))) (h43 : x22 = 0) : x0 = x1 := by omega
theorem o32_161 {x0 x1 x2 x3 x4 x5 x6 x7 x8 x9 x10 x11 x12 x13 x14 x15 x16 x17 x18 x19 x20 x21 x22 x23 : Int} (h0 : 0 ≤ x1) (h1 : x1 ≤ 24) (h2 : 0 ≤ x2) (h3 : x2 ≤ 5) (h4 : 1 ≤ x2) (h5 : x3 = x1 % x2) (h6 : 0 ≤ x3) (h7 : x3 < x2) (h8 : x4 = 0) (h9 : x5 = x3 + x4) (h10 : 0 ≤ x6) (h11 : x6 ≤ 5) (h12 : x6 = x2) (h13 : 1 ≤ x6) (h14 : x7 = x1 / x6) (h15 : 0 ≤ x7) (h16 : x7 ≤ x1) (h17 : x8 = 1) (h18 : x9 = x7 + x8) (h19 : x10 = x5) (h20 : x11 = 0) (h21 : 0 ≤ x12) (h22 : x12 ≤ 5) (h23 : x12 = x2) (h24 : 1 ≤ x12) (h25 : x13 = 1) (h26 : x14 = x12 - x13) (h27 : x15 = x14) (h28 : 0 ≤ x16) (h29 : x16 ≤ 1) (h30 : ((x16 = 0 ∧ (x10 < x11 ∨ x15 < x10)) ∨ (x16 = 1 ∧ x11 ≤ x10 ∧ x10 ≤ x15))) (h31 : ¬ x16 = 0) (h32 : x17 = x9) (h33 : x18 = 0) (h34 : 0 ≤ x19) (h35 : x19 ≤ 5) (h36 : 1 ≤ x19) (h37 : x20 = 1) (h38 : x21 = x19 - x20) (h39 : x22 = x21) (h40 : 0 ≤ x23) (h41 : x23 ≤ 1) (h42 : ((x23 = 0 ∧ (x17 < x18 ∨ x22 < x17)) ∨ (x23 = 1 ∧ x18 ≤ x17 ∧ x17 ≤ x22))) (h43 : ¬ x23 = 0) (h44 : 0 ≤ x0) (h45 : x0 ≤ 5) (h46 : x0 = x2) (h47 : 1 ≤ x0) : 1 ≤ x0 := by omega
theorem o32_162 {x0 x1 x2 x3 x4 x5 x6 x7 x8 x9 x10 x11 x12 x13 x14 x15 x16 x17 x18 x19 x20 x21 x22 x23 : Int} (h0 : 0 ≤ x1) (h1 : x1 ≤ 24) (h2 : 0 ≤ x2) (h3 : x2 ≤ 5) (h4 : 1 ≤ x2) (h5 : x3 = x1 % x2) (h6 : 0 ≤ x3) (h7 : x3 < x2) (h8 : x4 = 0) (h9 : x5 = x3 + x4) (h10 : 0 ≤ x6) (h11 : x6 ≤ 5) (h12 : x6 = x2) (h13 : 1 ≤ x6) (h14 : x7 = x1 / x6) (h15 : 0 ≤ x7) (h16 : x7 ≤ x1) (h17 : x8 = 1) (h18 : x9 = x7 + x8) (h19 : x10 = x5) (h20 : x11 = 0) (h21 : 0 ≤ x12) (h22 : x12 ≤ 5) (h23 : x12 = x2) (h24 : 1 ≤ x12) (h25 : x13 = 1) (h26 : x14 = x12 - x13) (h27 : x15 = x14) (h28 : 0 ≤ x16) (h29 : x16 ≤ 1) (h30 : ((x16 = 0 ∧ (x10 < x11 ∨ x15 < x10)) ∨ (x16 = 1 ∧ x11 ≤ x10 ∧ x10 ≤ x15))) (h31 : ¬ x16 = 0) (h32 : x17 = x9) (h33 : x18 = 0) (h34 : 0 ≤ x19) (h35 : x19 ≤ 5) (h36 : 1 ≤ x19) (h37 : x20 = 1) (h38 : x21 = x19 - x20) (h39 : x22 = x21) (h40 : 0 ≤ x23) (h41 : x23 ≤ 1) (h42 : ((x23 = 0 ∧ (x17 < x18 ∨ x22 < x17)) ∨ (x23 = 1 ∧ x18 ≤ x17 ∧ x17 ≤ x22))) (h43 : ¬ x23 = 0) (h44 : 0 ≤ x0) (h45 : x0 ≤ 5) (h46 : x0 = x2) (h47 : 1 ≤ x0) : x0 ≤ 5 := by omega
theorem o32_163 {x0 x1 x2 x3 x4 x5 x6 x7 x8 x9 x10 x11 x12 x13 x14 x15 x16 x17 x18 x19 x20 x21 x22 x23 : Int} (h0 : 0 ≤ x1) (h1 : x1 ≤ 24) (h2 : 0 ≤ x2) (h3 : x2 ≤ 5) (h4 : 1 ≤ x2) (h5 : x3 = x1 % x2) (h6 : 0 ≤ x3) (h7 : x3 < x2) (h8 : x4 = 0) (h9 : x5 = x3 + x4) (h10 : 0 ≤ x6) (h11 : x6 ≤ 5) (h12 : x6 = x2) (h13 : 1 ≤ x6) (h14 : x7 = x1 / x6) (h15 : 0 ≤ x7) (h16 : x7 ≤ x1) (h17 : x8 = 1) (h18 : x0 = x7 + x8) (h19 : x9 = x5) (h20 : x10 = 0) (h21 : 0 ≤ x11) (h22 : x11 ≤ 5) (h23 : x11 = x2) (h24 : 1 ≤ x11) (h25 : x12 = 1) (h26 : x13 = x11 - x12) (h27 : x14 = x13) (h28 : 0 ≤ x15) (h29 : x15 ≤ 1) (h30 : ((x15 = 0 ∧ (x9 < x10 ∨ x14 < x9)) ∨ (x15 = 1 ∧ x10 ≤ x9 ∧ x9 ≤ x14))) (h31 : ¬ x15 = 0) (h32 : x16 = x0) (h33 : x17 = 0) (h34 : 0 ≤ x18) (h35 : x18 ≤ 5) (h36 : 1 ≤ x18) (h37 : x19 = 1) (h38 : x20 = x18 - x19) (h39 : x21 = x20) (h40 : 0 ≤ x22) (h41 : x22 ≤ 1) (h42 : ((x22 = 0 ∧ (x16 < x17 ∨ x21 < x16)) ∨ (x22 = 1 ∧ x17 ≤ x16 ∧ x16 ≤ x21))) (h43 : ¬ x22 = 0) (h44 : 0 ≤ x23) (h45 : x23 ≤ 5) (h46 : x23 = x2) (h47 : 1 ≤ x23) : 1 ≤ x0 := by omega
theorem o32_164 {x0 x1 x2 x3 x4 x5 x6 x7 x8 x9 x10 x11 x12 x13 x14 x15 x16 x17 x18 x19 x20 x21 x22 x23 : Int} (h0 : 0 ≤ x1) (h1 : x1 ≤ 24) (h2 : 0 ≤ x2) (h3 : x2 ≤ 5) (h4 : 1 ≤ x2) (h5 : x3 = x1 % x2) (h6 : 0 ≤ x3) (h7 : x3 < x2) (h8 : x4 = 0) (h9 : x5 = x3 + x4) (h10 : 0 ≤ x6) (h11 : x6 ≤ 5) (h12 : x6 = x2) (h13 : 1 ≤ x6) (h14 : x7 = x1 / x6) (h15 : 0 ≤ x7) (h16 : x7 ≤ x1) (h17 : x8 = 1) (h18 : x0 = x7 + x8) (h19 : x9 = x5) (h20 : x10 = 0) (h21 : 0 ≤ x11) (h22 : x11 ≤ 5) (h23 : x11 = x2) (h24 : 1 ≤ x11) (h25 : x12 = 1) (h26 : x13 = x11 - x12) (h27 : x14 = x13) (h28 : 0 ≤ x15) (h29 : x15 ≤ 1) (h30 : ((x15 = 0 ∧ (x9 < x10 ∨ x14 < x9)) ∨ (x15 = 1 ∧ x10 ≤ x9 ∧ x9 ≤ x14))) (h31 : ¬ x15 = 0) (h32 : x16 = x0) (h33 : x17 = 0) (h34 : 0 ≤ x18) (h35 : x18 ≤ 5) (h36 : 1 ≤ x18) (h37 : x19 = 1) (h38 : x20 = x18 - x19) (h39 : x21 = x20) (h40 : 0 ≤ x22) (h41 : x22 ≤ 1) (h42 : ((x22 = 0 ∧ (x16 < x17 ∨ x21 < x16)) ∨ (x22 = 1 ∧ x17 ≤ x16 ∧ x16 ≤ x21))) (h43 : ¬ x22 = 0) (h44 : 0 ≤ x23) (h45 : x23 ≤ 5) (h46 : x23 = x2) (h47 : 1 ≤ x23) : x0 ≤ 4 := by omega
theorem o32_165 {x0 x1 x2 x3 x4 x5 x6 x7 x8 x9 x10 x11 x12 x13 x14 x15 x16 x17 x18 x19 x20 x21 x22 x23 x24 : Int} (h0 : 0 ≤ x2) (h1 : x2 ≤ 24) (h2 : 0 ≤ x3) (h3 : x3 ≤ 5) (h4 : 1 ≤ x3) (h5 : x4 = x2 % x3) (h6 : 0 ≤ x4) (h7 : x4 < x3) (h8 : x5 = 0) (h9 : x1 = x4 + x5) (h10 : 0 ≤ x6) (h11 : x6 ≤ 5) (h12 : x6 = x3) (h13 : 1 ≤ x6) (h14 : x7 = x2 / x6) (h15 : 0 ≤ x7) (h16 : x7 ≤ x2) (h17 : x8 = 1) (h18 : x9 = x7 + x8) (h19 : x10 = x1) (h20 : x11 = 0) (h21 : 0 ≤ x12) (h22 : x12 ≤ 5) (h23 : x12 = x3) (h24 : 1 ≤ x12) (h25 : x13 = 1) (h26 : x14 = x12 - x13) (h27 : x15 = x14) (h28 : 0 ≤ x16) (h29 : x16 ≤ 1) (h30 : ((x16 = 0 ∧ (x10 < x11 ∨ x15 < x10)) ∨ (x16 = 1 ∧ x11 ≤ x10 ∧ x10 ≤ x15))) (h31 : ¬ x16 = 0) (h32 : x17 = x9) (h33 : x18 = 0) (h34 : 0 ≤ x19) (h35 : x19 ≤ 5) (h36 : 1 ≤ x19) (h37 : x20 = 1) (h38 : x21 = x19 - x20) (h39 : x22 = x21) (h40 : 0 ≤ x23) (h41 : x23 ≤ 1) (h42 : ((x23 = 0 ∧ (x17 < x18 ∨ x22 < x17)) ∨ (x23 = 1 ∧ x18 ≤ x17 ∧ x17 ≤ x22))) (h43 : ¬ x23 = 0) (h44 : 0 ≤ x24) (h45 : x24 ≤ 5) (h46 : x24 = x3) (h47 : 1 ≤ x24) (h48 : 1 * 1 ≤ x0) (h49 : x0 ≤ 5 * 4) (h50 : -2147483648 ≤ x0) (h51 : x0 ≤ 2147483647) (h52 : -2147483648 ≤ x1) (h53 : x1 ≤ 2147483647) (h54 : -2147483648 ≤ x2) (h55 : x2 ≤ 2147483647) (h56 : -2147483648 ≤ x3) (h57 : x3 ≤ 2147483647) (h58 : -2147483648 ≤ x4) (h59 : x4 ≤ 2147483647) (h60 : -2147483648 ≤ x5) (h61 : x5 ≤ 2147483647) (h62 : -2147483648 ≤ x6) (h63 : x6 ≤ 2147483647) (h64 : -2147483648 ≤ x7) (h65 : x7 ≤ 2147483647) (h66 : -2147483648 ≤ x8) (h67 : x8 ≤ 2147483647) (h68 : -2147483648 ≤ x9) (h69 : x9 ≤ 2147483647) (h70 : -2147483648 ≤ x12) (h71 : x12 ≤ 2147483647) (h72 : -2147483648 ≤ x13) (h73 : x13 ≤ 2147483647) (h74 : -2147483648 ≤ x14) (h75 : x14 ≤ 2147483647) (h76 : -2147483648 ≤ x16) (h77 : x16 ≤ 2147483647) (h78 : -2147483648 ≤ x19) (h79 : x19 ≤ 2147483647) (h80 : -2147483648 ≤ x20) (h81 : x20 ≤ 2147483647) (h82 : -2147483648 ≤ x21) (h83 : x21 ≤ 2147483647) (h84 : -2147483648 ≤ x23) (h85 : x23 ≤ 2147483647) (h86 : -2147483648 ≤ x24) (h87 : x24 ≤ 2147483647) : -2147483648 ≤ x0 + x1 := by omega
theorem o32_166 {x0 x1 x2 x3 x4 x5 x6 x7 x8 x9 x10 x11 x12 x13 x14 x15 x16 x17 x18 x19 x20 x21 x22 x23 x24 : Int} (h0 : 0 ≤ x2) (h1 : x2 ≤ 24) (h2 : 0 ≤ x3) (h3 : x3 ≤ 5) (h4 : 1 ≤ x3) (h5 : x4 = x2 % x3) (h6 : 0 ≤ x4) (h7 : x4 < x3) (h8 : x5 = 0) (h9 : x1 = x4 + x5) (h10 : 0 ≤ x6) (h11 : x6 ≤ 5) (h12 : x6 = x3) (h13 : 1 ≤ x6) (h14 : x7 = x2 / x6) (h15 : 0 ≤ x7) (h16 : x7 ≤ x2) (h17 : x8 = 1) (h18 : x9 = x7 + x8) (h19 : x10 = x1) (h20 : x11 = 0) (h21 : 0 ≤ x12) (h22 : x12 ≤ 5) (h23 : x12 = x3) (h24 : 1 ≤ x12) (h25 : x13 = 1) (h26 : x14 = x12 - x13) (h27 : x15 = x14) (h28 : 0 ≤ x16) (h29 : x16 ≤ 1) (h30 : ((x16 = 0 ∧ (x10 < x11 ∨ x15 < x10)) ∨ (x16 = 1 ∧ x11 ≤ x10 ∧ x10 ≤ x15))) (h31 : ¬ x16 = 0) (h32 : x17 = x9) (h33 : x18 = 0) (h34 : 0 ≤ x19) (h35 : x19 ≤ 5) (h36 : 1 ≤ x19) (h37 : x20 = 1) (h38 : x21 = x19 - x20) (h39 : x22 = x21) (h40 : 0 ≤ x23) (h41 : x23 ≤ 1) (h42 : ((x23 = 0 ∧ (x17 < x18 ∨ x22 < x17)) ∨ (x23 = 1 ∧ x18 ≤ x17 ∧ x17 ≤ x22))) (h43 : ¬ x23 = 0) (h44 : 0 ≤ x24) (h45 : x24 ≤ 5) (h46 : x24 = x3) (h47 : 1 ≤ x24) (h48 : 1 * 1 ≤ x0) (h49 : x0 ≤ 5 * 4) (h50 : -2147483648 ≤ x0) (h51 : x0 ≤ 2147483647) (h52 : -2147483648 ≤ x1) (h53 : x1 ≤ 2147483647) (h54 : -2147483648 ≤ x2) (h55 : x2 ≤ 2147483647) (h56 : -2147483648 ≤ x3) (h57 : x3 ≤ 2147483647) (h58 : -2147483648 ≤ x4) (h59 : x4 ≤ 2147483647) (h60 : -2147483648 ≤ x5) (h61 : x5 ≤ 2147483647) (h62 : -2147483648 ≤ x6) (h63 : x6 ≤ 2147483647) (h64 : -2147483648 ≤ x7) (h65 : x7 ≤ 2147483647) (h66 : -2147483648 ≤ x8) (h67 : x8 ≤ 2147483647) (h68 : -2147483648 ≤ x9) (h69 : x9 ≤ 2147483647) (h70 : -2147483648 ≤ x12) (h71 : x12 ≤ 2147483647) (h72 : -2147483648 ≤ x13) (h73 : x13 ≤ 2147483647) (h74 : -2147483648 ≤ x14) (h75 : x14 ≤ 2147483647) (h76 : -2147483648 ≤ x16) (h77 : x16 ≤ 2147483647) (h78 : -2147483648 ≤ x19) (h79 : x19 ≤ 2147483647) (h80 : -2147483648 ≤ x20) (h81 : x20 ≤ 2147483647) (h82 : -2147483648 ≤ x21) (h83 : x21 ≤ 2147483647) (h84 : -2147483648 ≤ x23) (h85 : x23 ≤ 2147483647) (h86 : -2147483648 ≤ x24) (h87 : x24 ≤ 2147483647) : x0 + x1 ≤ 2147483647 := by omega
theorem o32_167 {x0 x1 x2 x3 x4 x5 x6 x7 x8 x9 x10 x11 x12 x13 x14 x15 x16 x17 x18 x19 x20 x21 x22 x23 x24 x25 : Int} (h0 : 0 ≤ x1) (h1 : x1 ≤ 24) (h2 : 0 ≤ x2) (h3 : x2 ≤ 5) (h4 : 1 ≤ x2) (h5 : x3 = x1 % x2) (h6 : 0 ≤ x3) (h7 : x3 < x2) (h8 : x4 = 0) (h9 : x5 = x3 + x4) (h10 : 0 ≤ x6) (h11 : x6 ≤ 5) (h12 : x6 = x2) (h13 : 1 ≤ x6) (h14 : x7 = x1 / x6) (h15 : 0 ≤ x7) (h16 : x7 ≤ x1) (h17 : x8 = 1) (h18 : x9 = x7 + x8) (h19 : x10 = x5) (h20 : x11 = 0) (h21 : 0 ≤ x12) (h22 : x12 ≤ 5) (h23 : x12 = x2) (h24 : 1 ≤ x12) (h25 : x13 = 1) (h26 : x14 = x12 - x13) (h27 : x15 = x14) (h28 : 0 ≤ x16) (h29 : x16 ≤ 1) (h30 : ((x16 = 0 ∧ (x10 < x11 ∨ x15 < x10)) ∨ (x16 = 1 ∧ x11 ≤ x10 ∧ x10 ≤ x15))) (h31 : ¬ x16 = 0) (h32 : x17 = x9) (h33 : x18 = 0) (h34 : x19 = x20 - x21) (h35 : x22 = x19) (h36 : 0 ≤ x23) (h37 : x23 ≤ 1) (h38 : ((x23 = 0 ∧ (x17 < x18 ∨ x22 < x17)) ∨ (x23 = 1 ∧ x18 ≤ x17 ∧ x17 ≤ x22))) (h39 : ¬ x23 = 0) (h40 : 0 ≤ x24) (h41 : x24 ≤ 5) (h42 : x24 = x2) (h43 : 1 ≤ x24) (h44 : 1 * 1 ≤ x25) (h45 : x25 ≤ 5 * 4) (h46 : x0 = x25 + x5) : (-1) ≤ x0 := by omega
theorem o32_168 {x0 x1 x2 x3 x4 x5 x6 x7 x8 x9 x10 x11 x12 x13 x14 x15 x16 x17 x18 x19 x20 x21 x22 x23 x24 x25 : Int} (h0 : 0 ≤ x1) (h1 : x1 ≤ 24) (h2 : 0 ≤ x2) (h3 : x2 ≤ 5) (h4 : 1 ≤ x2) (h5 : x3 = x1 % x2) (h6 : 0 ≤ x3) (h7 : x3 < x2) (h8 : x4 = 0) (h9 : x5 = x3 + x4) (h10 : 0 ≤ x6) (h11 : x6 ≤ 5) (h12 : x6 = x2) (h13 : 1 ≤ x6) (h14 : x7 = x1 / x6) (h15 : 0 ≤ x7) (h16 : x7 ≤ x1) (h17 : x8 = 1) (h18 : x9 = x7 + x8) (h19 : x10 = x5) (h20 : x11 = 0) (h21 : 0 ≤ x12) (h22 : x12 ≤ 5) (h23 : x12 = x2) (h24 : 1 ≤ x12) (h25 : x13 = 1) (h26 : x14 = x12 - x13) (h27 : x15 = x14) (h28 : 0 ≤ x16) (h29 : x16 ≤ 1) (h30 : ((x16 = 0 ∧ (x10 < x11 ∨ x15 < x10)) ∨ (x16 = 1 ∧ x11 ≤ x10 ∧ x10 ≤ x15))) (h31 : ¬ x16 = 0) (h32 : x17 = x9) (h33 : x18 = 0) (h34 : x19 = x20 - x21) (h35 : x22 = x19) (h36 : 0 ≤ x23) (h37 : x23 ≤ 1) (h38 : ((x23 = 0 ∧ (x17 < x18 ∨ x22 < x17)) ∨ (x23 = 1 ∧ x18 ≤ x17 ∧ x17 ≤ x22))) (h39 : ¬ x23 = 0) (h40 : 0 ≤ x24) (h41 : x24 ≤ 5) (h42 : x24 = x2) (h43 : 1 ≤ x24) (h44 : 1 * 1 ≤ x25) (h45 : x25 ≤ 5 * 4) (h46 : x0 = x25 + x5) : x0 ≤ 24 := by omega
theorem o32_169 {x0 x1 x2 x3 x4 x5 x6 x7 x8 x9 x10 x11 x12 x13 x14 x15 x16 x17 x18 x19 x20 x21 x22 x23 x24 x25 : Int} (h0 : 0 ≤ x2) (h1 : x2 ≤ 24) (h2 : 0 ≤ x1) (h3 : x1 ≤ 5) (h4 : 1 ≤ x1) (h5 : x3 = x2 % x1) (h6 : 0 ≤ x3) (h7 : x3 < x1) (h8 : x4 = 0) (h9 : x5 = x3 + x4) (h10 : 0 ≤ x6) (h11 : x6 ≤ 5) (h12 : x6 = x1) (h13 : 1 ≤ x6) (h14 : x7 = x2 / x6) (h15 : 0 ≤ x7) (h16 : x7 ≤ x2) (h17 : x8 = 1) (h18 : x9 = x7 + x8) (h19 : x10 = x5) (h20 : x11 = 0) (h21 : 0 ≤ x12) (h22 : x12 ≤ 5) (h23 : x12 = x1) (h24 : 1 ≤ x12) (h25 : x13 = 1) (h26 : x14 = x12 - x13) (h27 : x15 = x14) (h28 : 0 ≤ x16) (h29 : x16 ≤ 1) (h30 : ((x16 = 0 ∧ (x10 < x11 ∨ x15 < x10)) ∨ (x16 = 1 ∧ x11 ≤ x10 ∧ x10 ≤ x15))) (h31 : ¬ x16 = 0) (h32 : x17 = x9) (h33 : x18 = 0) (h34 : 0 ≤ x19) (h35 : x19 ≤ 5) (h36 : 1 ≤ x19) (h37 : x20 = 1) (h38 : x21 = x19 - x20) (h39 : x22 = x21) (h40 : 0 ≤ x23) (h41 : x23 ≤ 1) (h42 : ((x23 = 0 ∧ (x17 < x18 ∨ x22 < x17)) ∨ (x23 = 1 ∧ x18 ≤ x17 ∧ x17 ≤ x22))) (h43 : ¬ x23 = 0) (h44 : 0 ≤ x0) (h45 : x0 ≤ 5) (h46 : x0 = x1) (h47 : 1 ≤ x0) (h48 : 1 * 1 ≤ x24) (h49 : x24 ≤ 5 * 4) (h50 : x25 = x24 + x5) : x0 = x1 := by omega
theorem o32_170 {x0 x1 x2 x3 x4 x5 x6 x7 x8 x9 x10 x11 x12 x13 x14 x15 x16 x17 x18 x19 x20 x21 x22 x23 x24 x25 : Int} (h0 : 0 ≤ x1) (h1 : x1 ≤ 24) (h2 : 0 ≤ x2) (h3 : x2 ≤ 5) (h4 : 1 ≤ x2) (h5 : x3 = x1 % x2) (h6 : 0 ≤ x3) (h7 : x3 < x2) (h8 : x4 = 0) (h9 : x5 = x3 + x4) (h10 : 0 ≤ x6) (h11 : x6 ≤ 5) (h12 : x6 = x2) (h13 : 1 ≤ x6) (h14 : x7 = x1 / x6) (h15 : 0 ≤ x7) (h16 : x7 ≤ x1) (h17 : x8 = 1) (h18 : x0 = x7 + x8) (h19 : x9 = x5) (h20 : x10 = 0) (h21 : 0 ≤ x11) (h22 : x11 ≤ 5) (h23 : x11 = x2) (h24 : 1 ≤ x11) (h25 : x12 = 1) (h26 : x13 = x11 - x12) (h27 : x14 = x13) (h28 : 0 ≤ x15) (h29 : x15 ≤ 1) (h30 : ((x15 = 0 ∧ (x9 < x10 ∨ x14 < x9)) ∨ (x15 = 1 ∧ x10 ≤ x9 ∧ x9 ≤ x14))) (h31 : ¬ x15 = 0) (h32 : x16 = x0) (h33 : x17 = 0) (h34 : 0 ≤ x18) (h35 : x18 ≤ 5) (h36 : 1 ≤ x18) (h37 : x19 = 1) (h38 : x20 = x18 - x19) (h39 : x21 = x20) (h40 : 0 ≤ x22) (h41 : x22 ≤ 1) (h42 : ((x22 = 0 ∧ (x16 < x17 ∨ x21 < x16)) ∨ (x22 = 1 ∧ x17 ≤ x16 ∧ x16 ≤ x21))) (h43 : ¬ x22 = 0) (h44 : 0 ≤ x23) (h45 : x23 ≤ 5) (h46 : x23 = x2) (h47 : 1 ≤ x23) (h48 : 1 * 1 ≤ x24) (h49 : x24 ≤ 5 * 4) (h50 : x25 = x24 + x5) : x0 = x0 := by omega
theorem o32_171 {x0 x1 x2 x3 x4 x5 x6 x7 x8 x9 x10 x11 x12 x13 x14 x15 x16 x17 x18 x19 x20 x21 x22 x23 x24 x25 : Int} (h0 : 0 ≤ x2) (h1 : x2 ≤ 24) (h2 : 0 ≤ x1) (h3 : x1 ≤ 5) (h4 : 1 ≤ x1) (h5 : x3 = x2 % x1) (h6 : 0 ≤ x3) (h7 : x3 < x1) (h8 : x4 = 0) (h9 : x5 = x3 + x4) (h10 : 0 ≤ x0) (h11 : x0 ≤ 5) (h12 : x0 = x1) (h13 : 1 ≤ x0) (h14 : x6 = x2 / x0) (h15 : 0 ≤ x6) (h16 : x6 ≤ x2) (h17 : x7 = 1) (h18 : x8 = x6 + x7) (h19 : x9 = x5) (h20 : x10 = 0) (h21 : 0 ≤ x11) (h22 : x11 ≤ 5) (h23 : x11 = x1) (h24 : 1 ≤ x11) (h25 : x12 = 1) (h26 : x13 = x11 - x12) (h27 : x14 = x13) (h28 : 0 ≤ x15) (h29 : x15 ≤ 1) (h30 : ((x15 = 0 ∧ (x9 < x10 ∨ x14 < x9)) ∨ (x15 = 1 ∧ x10 ≤ x9 ∧ x9 ≤ x14))) (h31 : ¬ x15 = 0) (h32 : x16 = x8) (h33 : x17 = 0) (h34 : 0 ≤ x18) (h35 : x18 ≤ 5) (h36 : 1 ≤ x18) (h37 : x19 = 1) (h38 : x20 = x18 - x19) (h39 : x21 = x20) (h40 : 0 ≤ x22) (h41 : x22 ≤ 1) (h42 : ((x22 = 0 ∧ (x16 < x17 ∨ x21 < x16)) ∨ (x22 = 1 ∧ x17 ≤ x16 ∧ x16 ≤ x21))) (h43 : ¬ x22 = 0) (h44 : 0 ≤ x23) (h45 : x23 ≤ 5) (h46 : x23 = x1) (h47 : 1 ≤ x23) (h48 : 1 * 1 ≤ x24) (h49 : x24 ≤ 5 * 4) (h50 : x25 = x24 + x5) : x0 = x1 := by omega
theorem o32_172 {x0 x1 x2 x3 : Int} (h0 : 0 ≤ x2) (h1 : x2 ≤ 24) (h2 : 0 ≤ x3) (h3 : x3 ≤ 5) (h4 : 1 ≤ x3) (h5 : x0 = x2 % x3) (h6 : 0 ≤ x0) (h7 : x0 < x3) (h8 : x1 = (-1)) (h9 : -2147483648 ≤ x0) (h10 : x0 ≤ 2147483647) (h11 : -2147483648 ≤ x1) (h12 : x1 ≤ 2147483647) (h13 : -2147483648 ≤ x2) (h14 : x2 ≤ 2147483647) (h15 : -2147483648 ≤ x3) (h16 : x3 ≤ 2147483647) : -2147483648 ≤ x0 + x1 := by omega
theorem o32_173 {x0 x1 x2 x3 : Int} (h0 : 0 ≤ x2) (h1 : x2 ≤ 24) (h2 : 0 ≤ x3) (h3 : x3 ≤ 5) (h4 : 1 ≤ x3) (h5 : x0 = x2 % x3) (h6 : 0 ≤ x0) (h7 : x0 < x3) (h8 : x1 = (-1)) (h9 : -2147483648 ≤ x0) (h10 : x0 ≤ 2147483647) (h11 : -2147483648 ≤ x1) (h12 : x1 ≤ 2147483647) (h13 : -2147483648 ≤ x2) (h14 : x2 ≤ 2147483647) (h15 : -2147483648 ≤ x3) (h16 : x3 ≤ 2147483647) : x0 + x1 ≤ 2147483647 := by omega
theorem o32_174 {x0 x1 x2 x3 x4 x5 : Int} (h0 : 0 ≤ x1) (h1 : x1 ≤ 24) (h2 : 0 ≤ x2) (h3 : x2 ≤ 5) (h4 : 1 ≤ x2) (h5 : x3 = x1 % x2) (h6 : 0 ≤ x3) (h7 : x3 < x2) (h8 : x4 = (-1)) (h9 : x5 = x3 + x4) (h10 : 0 ≤ x0) (h11 : x0 ≤ 5) (h12 : x0 = x2) (h13 : 1 ≤ x0) : 0 < x0 := by omega
theorem o32_175 {x0 x1 x2 x3 x4 x5 : Int} (h0 : 0 ≤ x0) (h1 : x0 ≤ 24) (h2 : 0 ≤ x1) (h3 : x1 ≤ 5) (h4 : 1 ≤ x1) (h5 : x2 = x0 % x1) (h6 : 0 ≤ x2) (h7 : x2 < x1) (h8 : x3 = (-1)) (h9 : x4 = x2 + x3) (h10 : 0 ≤ x5) (h11 : x5 ≤ 5) (h12 : x5 = x1) (h13 : 1 ≤ x5) : 0 ≤ x0 := by omega
theorem o32_176 {x0 x1 x2 x3 : Int} (h0 : 0 ≤ x0) (h1 : x0 ≤ 3) (h2 : x2 = 1) (h3 : ¬ x0 = x2) (h4 : x3 = 3) (h5 : x0 = x3) (h6 : x1 = 2) (h7 : x0 = x1) : False := by omega
theorem o32_177 {x0 x1 x2 x3 : Int} (h0 : 0 ≤ x0) (h1 : x0 ≤ 3) (h2 : x1 = 1) (h3 : ¬ x0 = x1) (h4 : x2 = 3) (h5 : x0 = x2) (h6 : x3 = 2) (h7 : ¬ x0 = x3) (h8 : x0 = 0) : False := by omega
theorem o32_178 {x0 x1 x2 x3 x4 x5 x6 x7 : Int} (h0 : 0 ≤ x2) (h1 : x2 ≤ 24) (h2 : 0 ≤ x3) (h3 : x3 ≤ 5) (h4 : 1 ≤ x3) (h5 : x4 = x2 % x3) (h6 : 0 ≤ x4) (h7 : x4 < x3) (h8 : x5 = (-1)) (h9 : x6 = x4 + x5) (h10 : 0 ≤ x7) (h11 : x7 ≤ 5) (h12 : x7 = x3) (h13 : 1 ≤ x7) (h14 : x0 = x2 / x7) (h15 : 0 ≤ x0) (h16 : x0 ≤ x2) (h17 : x1 = 0) (h18 : -2147483648 ≤ x0) (h19 : x0 ≤ 2147483647) (h20 : -2147483648 ≤ x1) (h21 : x1 ≤ 2147483647) (h22 : -2147483648 ≤ x2) (h23 : x2 ≤ 2147483647) (h24 : -2147483648 ≤ x3) (h25 : x3 ≤ 2147483647) (h26 : -2147483648 ≤ x4) (h27 : x4 ≤ 2147483647) (h28 : -2147483648 ≤ x5) (h29 : x5 ≤ 2147483647) (h30 : -2147483648 ≤ x6) (h31 : x6 ≤ 2147483647) (h32 : -2147483648 ≤ x7) (h33 : x7 ≤ 2147483647) : -2147483648 ≤ x0 + x1 := by omega
theorem o32_179 {x0 x1 x2 x3 x4 x5 x6 x7 : Int} (h0 : 0 ≤ x2) (h1 : x2 ≤ 24) (h2 : 0 ≤ x3) (h3 : x3 ≤ 5) (h4 : 1 ≤ x3) (h5 : x4 = x2 % x3) (h6 : 0 ≤ x4) (h7 : x4 < x3) (h8 : x5 = (-1)) (h9 : x6 = x4 + x5) (h10 : 0 ≤ x7) (h11 : x7 ≤ 5) (h12 : x7 = x3) (h13 : 1 ≤ x7) (h14 : x0 = x2 / x7) (h15 : 0 ≤ x0) (h16 : x0 ≤ x2) (h17 : x1 = 0) (h18 : -2147483648 ≤ x0) (h19 : x0 ≤ 2147483647) (h20 : -2147483648 ≤ x1) (h21 : x1 ≤ 2147483647) (h22 : -2147483648 ≤ x2) (h23 : x2 ≤ 2147483647) (h24 : -2147483648 ≤ x3) (h25 : x3 ≤ 2147483647) (h26 : -2147483648 ≤ x4) (h27 : x4 ≤ 2147483647) (h28 : -2147483648 ≤ x5) (h29 : x5 ≤ 2147483647) (h30 : -2147483648 ≤ x6) (h31 : x6 ≤ 2147483647) (h32 : -2147483648 ≤ x7) (h33 : x7 ≤ 2147483647) : x0 + x1 ≤ 2147483647 := by omega
theorem o32_180 {x0 x1 x2 x3 x4 x5 x6 x7 x8 x9 x10 x11 : Int} (h0 : 0 ≤ x2) (h1 : x2 ≤ 24) (h2 : 0 ≤ x3) (h3 : x3 ≤ 5) (h4 : 1 ≤ x3) (h5 : x4 = x2 % x3) (h6 : 0 ≤ x4) (h7 : x4 < x3) (h8 : x5 = (-1)) (h9 : x6 = x4 + x5) (h10 : 0 ≤ x7) (h11 : x7 ≤ 5) (h12 : x7 = x3) (h13 : 1 ≤ x7) (h14 : x8 = x2 / x7) (h15 : 0 ≤ x8) (h16 : x8 ≤ x2) (h17 : x9 = 0) (h18 : x10 = x8 + x9) (h19 : x11 = x6) (h20 : 0 ≤ x0) (h21 : x0 ≤ 5) (h22 : x0 = x3) (h23 : 1 ≤ x0) (h24 : x1 = 1) (h25 : -2147483648 ≤ x0) (h26 : x0 ≤ 2147483647) (h27 : -2147483648 ≤ x1) (h28 : x1 ≤ 2147483647) (h29 : -2147483648 ≤ x2) (h30 : x2 ≤ 2147483647) (h31 : -2147483648 ≤ x3) (h32 : x3 ≤ 2147483647) (h33 : -2147483648 ≤ x4) (h34 : x4 ≤ 2147483647) (h35 : -2147483648 ≤ x5) (h36 : x5 ≤ 2147483647) (h37 : -2147483648 ≤ x6) (h38 : x6 ≤ 2147483647) (h39 : -2147483648 ≤ x7) (h40 : x7 ≤ 2147483647) (h41 : -2147483648 ≤ x8) (h42 : x8 ≤ 2147483647) (h43 : -2147483648 ≤ x9) (h44 : x9 ≤ 2147483647) (h45 : -2147483648 ≤ x10) (h46 : x10 ≤ 2147483647) : -2147483648 ≤ x0 - x1 := by omega
theorem o32_181 {x0 x1 x2 x3 x4 x5 x6 x7 x8 x9 x10 x11 : Int} (h0 : 0 ≤ x2) (h1 : x2 ≤ 24) (h2 : 0 ≤ x3) (h3 : x3 ≤ 5) (h4 : 1 ≤ x3) (h5 : x4 = x2 % x3) (h6 : 0 ≤ x4) (h7 : x4 < x3) (h8 : x5 = (-1)) (h9 : x6 = x4 + x5) (h10 : 0 ≤ x7) (h11 : x7 ≤ 5) (h12 : x7 = x3) (h13 : 1 ≤ x7) (h14 : x8 = x2 / x7) (h15 : 0 ≤ x8) (h16 : x8 ≤ x2) (h17 : x9 = 0) (h18 : x10 = x8 + x9) (h19 : x11 = x6) (h20 : 0 ≤ x0) (h21 : x0 ≤ 5) (h22 : x0 = x3) (h23 : 1 ≤ x0) (h24 : x1 = 1) (h25 : -2147483648 ≤ x0) (h26 : x0 ≤ 2147483647) (h27 : -2147483648 ≤ x1) (h28 : x1 ≤ 2147483647) (h29 : -2147483648 ≤ x2) (h30 : x2 ≤ 2147483647) (h31 : -2147483648 ≤ x3) (h32 : x3 ≤ 2147483647) (h33 : -2147483648 ≤ x4) (h34 : x4 ≤ 2147483647) (h35 : -2147483648 ≤ x5) (h36 : x5 ≤ 2147483647) (h37 : -2147483648 ≤ x6) (h38 : x6 ≤ 2147483647) (h39 : -2147483648 ≤ x7) (h40 : x7 ≤ 2147483647) (h41 : -2147483648 ≤ x8) (h42 : x8 ≤ 2147483647) (h43 : -2147483648 ≤ x9) (h44 : x9 ≤ 2147483647) (h45 : -2147483648 ≤ x10) (h46 : x10 ≤ 2147483647) : x0 - x1 ≤ 2147483647 := by omega
theorem o32_182 {x0 x1 x2 x3 x4 x5 x6 x7 x8 x9 x10 x11 x12 x13 x14 x15 : Int} (h0 : 0 ≤ x2) (h1 : x2 ≤ 24) (h2 : 0 ≤ x1) (h3 : x1 ≤ 5) (h4 : 1 ≤ x1) (h5 : x3 = x2 % x1) (h6 : 0 ≤ x3) (h7 : x3 < x1) (h8 : x4 = (-1)) (h9 : x5 = x3 + x4) (h10 : 0 ≤ x0) (h11 : x0 ≤ 5) (h12 : x0 = x1) (h13 : 1 ≤ x0) (h14 : x6 = x2 / x0) (h15 : 0 ≤ x6) (h16 : x6 ≤ x2) (h17 : x7 = 0) (h18 : x8 = x6 + x7) (h19 : x9 = x5) (h20 : x10 = 0) (h21 : 0 ≤ x11) (h22 : x11 ≤ 5) (h23 : x11 = x1) (h24 : 1 ≤ x11) (h25 : x12 = 1) (h26 : x13 = x11 - x12) (h27 : x14 = x13) (h28 : 0 ≤ x15) (h29 : x15 ≤ 1) (h30 : ((x15 = 0 ∧ (x9 < x10 ∨ x14 < x9)) ∨ (x15 = 1 ∧ x10 ≤ x9 ∧ x9 ≤ x14))) (h31 : x15 = 0) : x0 = x1 := by omega
theorem o32_183 {x0 x1 x2 x3 x4 x5 x6 x7 x8 x9 x10 x11 x12 x13 x14 x15 x16 x17 x18 x19 x20 x21 x22 : Int} (h0 : 0 ≤ x2) (h1 : x2 ≤ 24) (h2 : 0 ≤ x1) (h3 : x1 ≤ 5) (h4 : 1 ≤ x1) (h5 : x3 = x2 % x1) (h6 : 0 ≤ x3) (h7 : x3 < x1) (h8 : x4 = (-1)) (h9 : x5 = x3 + x4) (h10 : 0 ≤ x0) (h11 : x0 ≤ 5) (h12 : x0 = x1) (h13 : 1 ≤ x0) (h14 : x6 = x2 / x0) (h15 : 0 ≤ x6) (h16 : x6 ≤ x2) (h17 : x7 = 0) (h18 : x8 = x6 + x7) (h19 : x9 = x5) (h20 : x10 = 0) (h21 : 0 ≤ x11) (h22 : x11 ≤ 5) (h23 : x11 = x1) (h24 : 1 ≤ x11) (h25 : x12 = 1) (h26 : x13 = x11 - x12) (h27 : x14 = x13) (h28 : 0 ≤ x15) (h29 : x15 ≤ 1) (h30 : ((x15 = 0 ∧ (x9 < x10 ∨ x14 < x9)) ∨ (x15 = 1 ∧ x10 ≤ x9 ∧ x9 ≤ x14))) (h31 : ¬ x15 = 0) (h32 : x16 = x8) (h33 : x17 = 0) (h34 : 0 ≤ x18) (h35 : x18 ≤ 5) (h36 : 1 ≤ x18) (h37 : x19 = 1) (h38 : x20 = x18 - x19) (h39 : x21 = x20) (h40 : 0 ≤ x22) (h41 : x22 ≤ 1) (h42 : ((x22 = 0 ∧ (x16 < x17 ∨ x21 < x16)) ∨ (x22 = 1 ∧ x17 ≤ x16 ∧ x16 ≤ x21))) (h43 : x22 = 0) : x0 = x1 := by omega
theorem o32_184 {x0 x1 x2 x3 x4 x5 x6 x7 x8 x9 x10 x11 x12 x13 x14 x15 x16 x17 x18 x19 x20 x21 x22 x23 : Int} (h0 : 0 ≤ x1) (h1 : x1 ≤ 24) (h2 : 0 ≤ x2) (h3 : x2 ≤ 5) (h4 : 1 ≤ x2) (h5 : x3 = x1 % x2) (h6 : 0 ≤ x3) (h7 : x3 < x2) (h8 : x4 = (-1)) (h9 : x5 = x3 + x4) (h10 : 0 ≤ x6) (h11 : x6 ≤ 5) (h12 : x6 = x2) (h13 : 1 ≤ x6) (h14 : x7 = x1 / x6) (h15 : 0 ≤ x7) (h16 : x7 ≤ x1) (h17 : x8 = 0) (h18 : x9 = x7 + x8) (h19 : x10 = x5) (h20 : x11 = 0) (h21 : 0 ≤ x12) (h22 : x12 ≤ 5) (h23 : x12 = x2) (h24 : 1 ≤ x12) (h25 : x13 = 1) (h26 : x14 = x12 - x13) (h27 : x15 = x14) (h28 : 0 ≤ x16) (h29 : x16 ≤ 1) (h30 : ((x16 = 0 ∧ (x10 < x11 ∨ x15 < x10)) ∨ (x16 = 1 ∧ x11 ≤ x10 ∧ x10 ≤ x15))) (h31 : ¬ x16 = 0) (h32 : x17 = x9) (h33 : x18 = 0) (h34 : 0 ≤ x19) (h35 : x19 ≤ 5) (h36 : 1 ≤ x19) (h37 : x20 = 1) (h38 : x21 = x19 - x20) (h39 : x22 = x21) (h40 : 0 ≤ x23) (h41 : x23 ≤ 1) (h42 : ((x23 = 0 ∧ (x17 < x18 ∨ x22 < x17)) ∨ (x23 = 1 ∧ x18 ≤ x17 ∧ x17 ≤ x22))) (h43 : ¬ x23 = 0) (h44 : 0 ≤ x0) (h45 : x0 ≤ 5) (h46 : x0 = x2) (h47 : 1 ≤ x0) : 1 ≤ x0 := by omega
theorem o32_185 {x0 x1 x2 x3 x4 x5 x6 x7 x8 x9 x10 x11 x12 x13 x14 x15 x16 x17 x18 x19 x20 x21 x22 x23 : Int} (h0 : 0 ≤ x1) (h1 : x1 ≤ 24) (h2 : 0 ≤ x2) (h3 : x2 ≤ 5) (h4 : 1 ≤ x2) (h5 : x3 = x1 % x2) (h6 : 0 ≤ x3) (h7 : x3 < x2) (h8 : x4 = (-1)) (h9 : x5 = x3 + x4) (h10 : 0 ≤ x6) (h11 : x6 ≤ 5) (h12 : x6 = x2) (h13 : 1 ≤ x6) (h14 : x7 = x1 / x6) (h15 : 0 ≤ x7) (h16 : x7 ≤ x1) (h17 : x8 = 0) (h18 : x9 = x7 + x8) (h19 : x10 = x5) (h20 : x11 = 0) (h21 : 0 ≤ x12) (h22 : x12 ≤ 5) (h23 : x12 = x2) (h24 : 1 ≤ x12) (h25 : x13 = 1) (h26 : x14 = x12 - x13) (h27 : x15 = x14) (h28 : 0 ≤ x16) (h29 : x16 ≤ 1) (h30 : ((x16 = 0 ∧ (x10 < x11 ∨ x15 < x10)) ∨ (x16 = 1 ∧ x11 ≤ x10 ∧ x10 ≤ x15))) (h31 : ¬ x16 = 0) (h32 : x17 = x9) (h33 : x18 = 0) (h34 : 0 ≤ x19) (h35 : x19 ≤ 5) (h36 : 1 ≤ x19) (h37 : x20 = 1) (h38 : x21 = x19 - x20) (h39 : x22 = x21) (h40 : 0 ≤ x23) (h41 : x23 ≤ 1) (h42 : ((x23 = 0 ∧ (x17 < x18 ∨ x22 < x17)) ∨ (x23 = 1 ∧ x18 ≤ x17 ∧ x17 ≤ x22))) (h43 : ¬ x23 = 0) (h44 : 0 ≤ x0) (h45 : x0 ≤ 5) (h46 : x0 = x2) (h47 : 1 ≤ x0) : x0 ≤ 5 := by omega
theorem o32_186 {x0 x1 x2 x3 x4 x5 x6 x7 x8 x9 x10 x11 x12 x13 x14 x15 x16 x17 x18 x19 x20 x21 x22 x23 : Int} (h0 : 0 ≤ x1) (h1 : x1 ≤ 24) (h2 : 0 ≤ x2) (h3 : x2 ≤ 5) (h4 : 1 ≤ x2) (h5 : x3 = x1 % x2) (h6 : 0 ≤ x3) (h7 : x3 < x2) (h8 : x4 = (-1)) (h9 : x5 = x3 + x4) (h10 : 0 ≤ x6) (h11 : x6 ≤ 5) (h12 : x6 = x2) (h13 : 1 ≤ x6) (h14 : x7 = x1 / x6) (h15 : 0 ≤ x7) (h16 : x7 ≤ x1) (h17 : x8 = 0) (h18 : x0 = x7 + x8) (h19 : x9 = x5) (h20 : x10 = 0) (h21 : 0 ≤ x11) (h22 : x11 ≤ 5) (h23 : x11 = x2) (h24 : 1 ≤ x11) (h25 : x12 = 1) (h26 : x13 = x11 - x12) (h27 : x14 = x13) (h28 : 0 ≤ x15) (h29 : x15 ≤ 1) (h30 : ((x15 = 0 ∧ (x9 < x10 ∨ x14 < x9)) ∨ (x15 = 1 ∧ x10 ≤ x9 ∧ x9 ≤ x14))) (h31 : ¬ x15 = 0) (h32 : x16 = x0) (h33 : x17 = 0) (h34 : 0 ≤ x18) (h35 : x18 ≤ 5) (h36 : 1 ≤ x18) (h37 : x19 = 1) (h38 : x20 = x18 - x19) (h39 : x21 = x20) (h40 : 0 ≤ x22) (h41 : x22 ≤ 1) (h42 : ((x22 = 0 ∧ (x16 < x17 ∨ x21 < x16)) ∨ (x22 = 1 ∧ x17 ≤ x16 ∧ x16 ≤ x21))) (h43 : ¬ x22 = 0) (h44 : 0 ≤ x23) (h45 : x23 ≤ 5) (h46 : x23 = x2) (h47 : 1 ≤ x23) : 0 ≤ x0 := by omega
theorem o32_187 {x0 x1 x2 x3 x4 x5 x6 x7 x8 x9 x10 x11 x12 x13 x14 x15 x16 x17 x18 x19 x20 x21 x22 x23 : Int} (h0 : 0 ≤ x1) (h1 : x1 ≤ 24) (h2 : 0 ≤ x2) (h3 : x2 ≤ 5) (h4 : 1 ≤ x2) (h5 : x3 = x1 % x2) (h6 : 0 ≤ x3) (h7 : x3 < x2) (h8 : x4 = (-1)) (h9 : x5 = x3 + x4) (h10 : 0 ≤ x6) (h11 : x6 ≤ 5) (h12 : x6 = x2) (h13 : 1 ≤ x6) (h14 : x7 = x1 / x6) (h15 : 0 ≤ x7) (h16 : x7 ≤ x1) (h17 : x8 = 0) (h18 : x0 = x7 + x8) (h19 : x9 = x5) (h20 : x10 = 0) (h21 : 0 ≤ x11) (h22 : x11 ≤ 5) (h23 : x11 = x2) (h24 : 1 ≤ x11) (h25 : x12 = 1) (h26 : x13 = x11 - x12) (h27 : x14 = x13) (h28 : 0 ≤ x15) (h29 : x15 ≤ 1) (h30 : ((x15 = 0 ∧ (x9 < x10 ∨ x14 < x9)) ∨ (x15 = 1 ∧ x10 ≤ x9 ∧ x9 ≤ x14))) (h31 : ¬ x15 = 0) (h32 : x16 = x0) (h33 : x17 = 0) (h34 : 0 ≤ x18) (h35 : x18 ≤ 5) (h36 : 1 ≤ x18) (h37 : x19 = 1) (h38 : x20 = x18 - x19) (h39 : x21 = x20) (h40 : 0 ≤ x22) (h41 : x22 ≤ 1) (h42 : ((x22 = 0 ∧ (x16 < x17 ∨ x21 < x16)) ∨ (x22 = 1 ∧ x17 ≤ x16 ∧ x16 ≤ x21))) (h43 : ¬ x22 = 0) (h44 : 0 ≤ x23) (h45 : x23 ≤ 5) (h46 : x23 = x2) (h47 : 1 ≤ x23) : x0 ≤ 4 := by omega
theorem o32_188 {x0 x1 x2 x3 x4 x5 x6 x7 x8 x9 x10 x11 x12 x13 x14 x15 x16 x17 x18 x19 x20 x21 x22 x23 x24 : Int} (h0 : 0 ≤ x2) (h1 : x2 ≤ 24) (h2 : 0 ≤ x3) (h3 : x3 ≤ 5) (h4 : 1 ≤ x3) (h5 : x4 = x2 % x3) (h6 : 0 ≤ x4) (h7 : x4 < x3) (h8 : x5 = (-1)) (h9 : x1 = x4 + x5) (h10 : 0 ≤ x6) (h11 : x6 ≤ 5) (h12 : x6 = x3) (h13 : 1 ≤ x6) (h14 : x7 = x2 / x6) (h15 : 0 ≤ x7) (h16 : x7 ≤ x2) (h17 : x8 = 0) (h18 : x9 = x7 + x8) (h19 : x10 = x1) (h20 : x11 = 0) (h21 : 0 ≤ x12) (h22 : x12 ≤ 5) (h23 : x12 = x3) (h24 : 1 ≤ x12) (h25 : x13 = 1) (h26 : x14 = x12 - x13) (h27 : x15 = x14) (h28 : 0 ≤ x16) (h29 : x16 ≤ 1) (h30 : ((x16 = 0 ∧ (x10 < x11 ∨ x15 < x10)) ∨ (x16 = 1 ∧ x11 ≤ x10 ∧ x10 ≤ x15))) (h31 : ¬ x16 = 0) (h32 : x17 = x9) (h33 : x18 = 0) (h34 : 0 ≤ x19) (h35 : x19 ≤ 5) (h36 : 1 ≤ x19) (h37 : x20 = 1) (h38 : x21 = x19 - x20) (h39 : x22 = x21) (h40 : 0 ≤ x23) (h41 : x23 ≤ 1) (h42 : ((x23 = 0 ∧ (x17 < x18 ∨ x22 < x17)) ∨ (x23 = 1 ∧ x18 ≤ x17 ∧ x17 ≤ x22))) (h43 : ¬ x23 = 0) (h44 : 0 ≤ x24) (h45 : x24 ≤ 5) (h46 : x24 = x3) (h47 : 1 ≤ x24) (h48 : 1 * 0 ≤ x0) (h49 : x0 ≤ 5 * 4) (h50 : -2147483648 ≤ x0) (h51 : x0 ≤ 2147483647) (h52 : -2147483648 ≤ x1) (h53 : x1 ≤ 2147483647) (h54 : -2147483648 ≤ x2) (h55 : x2 ≤ 2147483647) (h56 : -2147483648 ≤ x3) (h57 : x3 ≤ 2147483647) (h58 : -2147483648 ≤ x4) (h59 : x4 ≤ 2147483647) (h60 : -2147483648 ≤ x5) (h61 : x5 ≤ 2147483647) (h62 : -2147483648 ≤ x6) (h63 : x6 ≤ 2147483647) (h64 : -2147483648 ≤ x7) (h65 : x7 ≤ 2147483647) (h66 : -2147483648 ≤ x8) (h67 : x8 ≤ 2147483647) (h68 : -2147483648 ≤ x9) (h69 : x9 ≤ 2147483647) (h70 : -2147483648 ≤ x12) (h71 : x12 ≤ 2147483647) (h72 : -2147483648 ≤ x13) (h73 : x13 ≤ 2147483647) (h74 : -2147483648 ≤ x14) (h75 : x14 ≤ 2147483647) (h76 : -2147483648 ≤ x16) (h77 : x16 ≤ 2147483647) (h78 : -2147483648 ≤ x19) (h79 : x19 ≤ 2147483647) (h80 : -2147483648 ≤ x20) (h81 : x20 ≤ 2147483647) (h82 : -2147483648 ≤ x21) (h83 : x21 ≤ 2147483647) (h84 : -2147483648 ≤ x23) (h85 : x23 ≤ 2147483647) (h86 : -2147483648 ≤ x24) (h87 : x24 ≤ 2147483647) : -2147483648 ≤ x0 + x1 := by omega
theorem o32_189 {x0 x1 x2 x3 x4 x5 x6 x7 x8 x9 x10 x11 x12 x13 x14 x15 x16 x17 x18 x19 x20 x21 x22 x23 x24 : Int} (h0 : 0 ≤ x2) (h1 : x2 ≤ 24) (h2 : 0 ≤ x3) (h3 : x3 ≤ 5) (h4 : 1 ≤ x3) (h5 : x4 = x2 % x3) (h6 : 0 ≤ x4) (h7 : x4 < x3) (h8 : x5 = (-1)) (h9 : x1 = x4 + x5) (h10 : 0 ≤ x6) (h11 : x6 ≤ 5) (h12 : x6 = x3) (h13 : 1 ≤ x6) (h14 : x7 = x2 / x6) (h15 : 0 ≤ x7) (h16 : x7 ≤ x2) (h17 : x8 = 0) (h18 : x9 = x7 + x8) (h19 : x10 = x1) (h20 : x11 = 0) (h21 : 0 ≤ x12) (h22 : x12 ≤ 5) (h23 : x12 = x3) (h24 : 1 ≤ x12) (h25 : x13 = 1) (h26 : x14 = x12 - x13) (h27 : x15 = x14) (h28 : 0 ≤ x16) (h29 : x16 ≤ 1) (h30 : ((x16 = 0 ∧ (x10 < x11 ∨ x15 < x10)) ∨ (x16 = 1 ∧ x11 ≤ x10 ∧ x10 ≤ x15))) (h31 : ¬ x16 = 0) (h32 : x17 = x9) (h33 : x18 = 0) (h34 : 0 ≤ x19) (h35 : x19 ≤ 5) (h36 : 1 ≤ x19) (h37 : x20 = 1) (h38 : x21 = x19 - x20) (h39 : x22 = x21) (h40 : 0 ≤ x23) (h41 : x23 ≤ 1) (h42 : ((x23 = 0 ∧ (x17 < x18 ∨ x22 < x17)) ∨ (x23 = 1 ∧ x18 ≤ x17 ∧ x17 ≤ x22))) (h43 : ¬ x23 = 0) (h44 : 0 ≤ x24) (h45 : x24 ≤ 5) (h46 : x24 = x3) (h47 : 1 ≤ x24) (h48 : 1 * 0 ≤ x0) (h49 : x0 ≤ 5 * 4) (h50 : -2147483648 ≤ x0) (h51 : x0 ≤ 2147483647) (h52 : -2147483648 ≤ x1) (h53 : x1 ≤ 2147483647) (h54 : -2147483648 ≤ x2) (h55 : x2 ≤ 2147483647) (h56 : -2147483648 ≤ x3) (h57 : x3 ≤ 2147483647) (h58 : -2147483648 ≤ x4) (h59 : x4 ≤ 2147483647) (h60 : -2147483648 ≤ x5) (h61 : x5 ≤ 2147483647) (h62 : -2147483648 ≤ x6) (h63 : x6 ≤ 2147483647) (h64 : -2147483648 ≤ x7) (h65 : x7 ≤ 2147483647) (h66 : -2147483648 ≤ x8) (h67 : x8 ≤ 2147483647) (h68 : -2147483648 ≤ x9) (h69 : x9 ≤ 2147483647) (h70 : -2147483648 ≤ x12) (h71 : x12 ≤ 2147483647) (h72 : -2147483648 ≤ x13) (h73 : x13 ≤ 2147483647) (h74 : -2147483648 ≤ x14) (h75 : x14 ≤ 2147483647) (h76 : -2147483648 ≤ x16) (h77 : x16 ≤ 2147483647) (h78 : -2147483648 ≤ x19) (h79 : x19 ≤ 2147483647) (h80 : -2147483648 ≤ x20) (h81 : x20 ≤ 2147483647) (h82 : -2147483648 ≤ x21) (h83 : x21 ≤ 2147483647) (h84 : -2147483648 ≤ x23) (h85 : x23 ≤ 2147483647) (h86 : -2147483648 ≤ x24) (h87 : x24 ≤ 2147483647) : x0 + x1 ≤ 2147483647 := by omega
theorem o32_190 {x0 x1 x2 x3 x4 x5 x6 x7 x8 x9 x10 x11 x12 x13 x14 x15 x16 x17 x18 x19 x20 x21 x22 x23 x24 x25 : Int} (h0 : 0 ≤ x1) (h1 : x1 ≤ 24) (h2 : 0 ≤ x2) (h3 : x2 ≤ 5) (h4 : 1 ≤ x2) (h5 : x3 = x1 % x2) (h6 : 0 ≤ x3) (h7 : x3 < x2) (h8 : x4 = (-1)) (h9 : x5 = x3 + x4) (h10 : 0 ≤ x6) (h11 : x6 ≤ 5) (h12 : x6 = x2) (h13 : 1 ≤ x6) (h14 : x7 = x1 / x6) (h15 : 0 ≤ x7) (h16 : x7 ≤ x1) (h17 : x8 = 0) (h18 : x9 = x7 + x8) (h19 : x10 = x5) (h20 : x11 = 0) (h21 : 0 ≤ x12) (h22 : x12 ≤ 5) (h23 : x12 = x2) (h24 : 1 ≤ x12) (h25 : x13 = 1) (h26 : x14 = x12 - x13) (h27 : x15 = x14) (h28 : 0 ≤ x16) (h29 : x16 ≤ 1) (h30 : ((x16 = 0 ∧ (x10 < x11 ∨ x15 < x10)) ∨ (x16 = 1 ∧ x11 ≤ x10 ∧ x10 ≤ x15))) (h31 : ¬ x16 = 0) (h32 : x17 = x9) (h33 : x18 = 0) (h34 : x19 = x20 - x21) (h35 : x22 = x19) (h36 : 0 ≤ x23) (h37 : x23 ≤ 1) (h38 : ((x23 = 0 ∧ (x17 < x18 ∨ x22 < x17)) ∨ (x23 = 1 ∧ x18 ≤ x17 ∧ x17 ≤ x22))) (h39 : ¬ x23 = 0) (h40 : 0 ≤ x24) (h41 : x24 ≤ 5) (h42 : x24 = x2) (h43 : 1 ≤ x24) (h44 : 1 * 0 ≤ x25) (h45 : x25 ≤ 5 * 4) (h46 : x0 = x25 + x5) : (-1) ≤ x0 := by omega
theorem o32_191 {x0 x1 x2 x3 x4 x5 x6 x7 x8 x9 x10 x11 x12 x13 x14 x15 x16 x17 x18 x19 x20 x21 x22 x23 x24 x25 : Int} (h0 : 0 ≤ x1) (h1 : x1 ≤ 24) (h2 : 0 ≤ x2) (h3 : x2 ≤ 5) (h4 : 1 ≤ x2) (h5 : x3 = x1 % x2) (h6 : 0 ≤ x3) (h7 : x3 < x2) (h8 : x4 = (-1)) (h9 : x5 = x3 + x4) (h10 : 0 ≤ x6) (h11 : x6 ≤ 5) (h12 : x6 = x2) (h13 : 1 ≤ x6) (h14 : x7 = x1 / x6) (h15 : 0 ≤ x7) (h16 : x7 ≤ x1) (h17 : x8 = 0) (h18 : x9 = x7 + x8) (h19 : x10 = x5) (h20 : x11 = 0) (h21 : 0 ≤ x12) (h22 : x12 ≤ 5) (h23 : x12 = x2) (h24 : 1 ≤ x12) (h25 : x13 = 1) (h26 : x14 = x12 - x13) (h27 : x15 = x14) (h28 : 0 ≤ x16) (h29 : x16 ≤ 1) (h30 : ((x16 = 0 ∧ (x10 < x11 ∨ x15 < x10)) ∨ (x16 = 1 ∧ x11 ≤ x10 ∧ x10 ≤ x15))) (h31 : ¬ x16 = 0) (h32 : x17 = x9) (h33 : x18 = 0) (h34 : x19 = x20 - x21) (h35 : x22 = x19) (h36 : 0 ≤ x23) (h37 : x23 ≤ 1) (h38 : ((x23 = 0 ∧ (x17 < x18 ∨ x22 < x17)) ∨ (x23 = 1 ∧ x18 ≤ x17 ∧ x17 ≤ x22))) (h39 : ¬ x23 = 0) (h40 : 0 ≤ x24) (h41 : x24 ≤ 5) (h42 : x24 = x2) (h43 : 1 ≤ x24) (h44 : 1 * 0 ≤ x25) (h45 : x25 ≤ 5 * 4) (h46 : x0 = x25 + x5) : x0 ≤ 24 := by omega
theorem o32_192 {x0 x1 x2 x3 x4 x5 x6 x7 x8 x9 x10 x11 x12 x13 x14 x15 x16 x17 x18 x19 x20 x21 x22 x23 x24 x25 : Int} (h0 : 0 ≤ x2) (h1 : x2 ≤ 24) (h2 : 0 ≤ x1) (h3 : x1 ≤ 5) (h4 : 1 ≤ x1) (h5 : x3 = x2 % x1) (h6 : 0 ≤ x3) (h7 : x3 < x1) (h8 : x4 = (-1)) (h9 : x5 = x3 + x4) (h10 : 0 ≤ x6) (h11 : x6 ≤ 5) (h12 : x6 = x1) (h13 : 1 ≤ x6) (h14 : x7 = x2 / x6) (h15 : 0 ≤ x7) (h16 : x7 ≤ x2) (h17 : x8 = 0) (h18 : x9 = x7 + x8) (h19 : x10 = x5) (h20 : x11 = 0) (h21 : 0 ≤ x12) (h22 : x12 ≤ 5) (h23 : x12 = x1) (h24 : 1 ≤ x12) (h25 : x13 = 1) (h26 : x14 = x12 - x13) (h27 : x15 = x14) (h28 : 0 ≤ x16) (h29 : x16 ≤ 1) (h30 : ((x16 = 0 ∧ (x10 < x11 ∨ x15 < x10)) ∨ (x16 = 1 ∧ x11 ≤ x10 ∧ x10 ≤ x15))) (h31 : ¬ x16 = 0) (h32 : x17 = x9) (h33 : x18 = 0) (h34 : 0 ≤ x19) (h35 : x19 ≤ 5) (h36 : 1 ≤ x19) (h37 : x20 = 1) (h38 : x21 = x19 - x20) (h39 : x22 = x21) (h40 : 0 ≤ x23) (h41 : x23 ≤ 1) (h42 : ((x23 = 0 ∧ (x17 < x18 ∨ x22 < x17)) ∨ (x23 = 1 ∧ x18 ≤ x17 ∧ x17 ≤ x22))) (h43 : ¬ x23 = 0) (h44 : 0 ≤ x0) (h45 : x0 ≤ 5) (h46 : x0 = x1) (h47 : 1 ≤ x0) (h48 : 1 * 0 ≤ x24) (h49 : x24 ≤ 5 * 4) (h50 : x25 = x24 + x5) : x0 = x1 := by omega
theorem o32_193 {x0 x1 x2 x3 x4 x5 x6 x7 x8 x9 x10 x11 x12 x13 x14 x15 x16 x17 x18 x19 x20 x21 x22 x23 x24 x25 : Int} (h0 : 0 ≤ x1) (h1 : x1 ≤ 24) (h2 : 0 ≤ x2) (h3 : x2 ≤ 5) (h4 : 1 ≤ x2) (h5 : x3 = x1 % x2) (h6 : 0 ≤ x3) (h7 : x3 < x2) (h8 : x4 = (-1)) (h9 : x5 = x3 + x4) (h10 : 0 ≤ x6) (h11 : x6 ≤ 5) (h12 : x6 = x2) (h13 : 1 ≤ x6) (h14 : x7 = x1 / x6) (h15 : 0 ≤ x7) (h16 : x7 ≤ x1) (h17 : x8 = 0) (h18 : x0 = x7 + x8) (h19 : x9 = x5) (h20 : x10 = 0) (h21 : 0 ≤ x11) (h22 : x11 ≤ 5) (h23 : x11 = x2) (h24 : 1 ≤ x11) (h25 : x12 = 1) (h26 : x13 = x11 - x12) (h27 : x14 = x13) (h28 : 0 ≤ x15) (h29 : x15 ≤ 1) (h30 : ((x15 = 0 ∧ (x9 < x10 ∨ x14 < x9)) ∨ (x15 = 1 ∧ x10 ≤ x9 ∧ x9 ≤ x14))) (h31 : ¬ x15 = 0) (h32 : x16 = x0) (h33 : x17 = 0) (h34 : 0 ≤ x18) (h35 : x18 ≤ 5) (h36 : 1 ≤ x18) (h37 : x19 = 1) (h38 : x20 = x18 - x19) (h39 : x21 = x20) (h40 : 0 ≤ x22) (h41 : x22 ≤ 1) (h42 : ((x22 = 0 ∧ (x16 < x17 ∨ x21 < x16)) ∨ (x22 = 1 ∧ x17 ≤ x16 ∧ x16 ≤ x21))) (h43 : ¬ x22 = 0) (h44 : 0 ≤ x23) (h45 : x23 ≤ 5) (h46 : x23 = x2) (h47 : 1 ≤ x23) (h48 : 1 * 0 ≤ x24) (h49 : x24 ≤ 5 * 4) (h50 : x25 = x24 + x5) : x0 = x0 := by omega
theorem o32_194 {x0 x1 x2 x3 x4 x5 x6 x7 x8 x9 x10 x11 x12 x13 x14 x15 x16 x17 x18 x19 x20 x21 x22 x23 x24 x25 : Int} (h0 : 0 ≤ x2) (h1 : x2 ≤ 24) (h2 : 0 ≤ x1) (h3 : x1 ≤ 5) (h4 : 1 ≤ x1) (h5 : x3 = x2 % x1) (h6 : 0 ≤ x3) (h7 : x3 < x1) (h8 : x4 = (-1)) (h9 : x5 = x3 + x4) (h10 : 0 ≤ x0) (h11 : x0 ≤ 5) (h12 : x0 = x1) (h13 : 1 ≤ x0) (h14 : x6 = x2 / x0) (h15 : 0 ≤ x6) (h16 : x6 ≤ x2) (h17 : x7 = 0) (h18 : x8 = x6 + x7) (h19 : x9 = x5) (h20 : x10 = 0) (h21 : 0 ≤ x11) (h22 : x11 ≤ 5) (h23 : x11 = x1) (h24 : 1 ≤ x11) (h25 : x12 = 1) (h26 : x13 = x11 - x12) (h27 : x14 = x13) (h28 : 0 ≤ x15) (h29 : x15 ≤ 1) (h30 : ((x15 = 0 ∧ (x9 < x10 ∨ x14 < x9)) ∨ (x15 = 1 ∧ x10 ≤ x9 ∧ x9 ≤ x14))) (h31 : ¬ x15 = 0) (h32 : x16 = x8) (h33 : x17 = 0) (h34 : 0 ≤ x18) (h35 : x18 ≤ 5) (h36 : 1 ≤ x18) (h37 : x19 = 1) (h38 : x20 = x18 - x19) (h39 : x21 = x20) (h40 : 0 ≤ x22) (h41 : x22 ≤ 1) (h42 : ((x22 = 0 ∧ (x16 < x17 ∨ x21 < x16)) ∨ (x22 = 1 ∧ x17 ≤ x16 ∧ x16 ≤ x21))) (h43 : ¬ x22 = 0) (h44 : 0 ≤ x23) (h45 : x23 ≤ 5) (h46 : x23 = x1) (h47 : 1 ≤ x23) (h48 : 1 * 0 ≤ x24) (h49 : x24 ≤ 5 * 4) (h50 : x25 = x24 + x5) : x0 = x1 := by omega
theorem o32_195 {x0 x1 x2 x3 : Int} (h0 : 0 ≤ x2) (h1 : x2 ≤ 24) (h2 : 0 ≤ x3) (h3 : x3 ≤ 5) (h4 : 1 ≤ x3) (h5 : x0 = x2 % x3) (h6 : 0 ≤ x0) (h7 : x0 < x3) (h8 : x1 = 1) (h9 : -2147483648 ≤ x0) (h10 : x0 ≤ 2147483647) (h11 : -2147483648 ≤ x1) (h12 : x1 ≤ 2147483647) (h13 : -2147483648 ≤ x2) (h14 : x2 ≤ 2147483647) (h15 : -2147483648 ≤ x3) (h16 : x3 ≤ 2147483647) : -2147483648 ≤ x0 + x1 := by omega
theorem o32_196 {x0 x1 x2 x3 : Int} (h0 : 0 ≤ x2) (h1 : x2 ≤ 24) (h2 : 0 ≤ x3) (h3 : x3 ≤ 5) (h4 : 1 ≤ x3) (h5 : x0 = x2 % x3) (h6 : 0 ≤ x0) (h7 : x0 < x3) (h8 : x1 = 1) (h9 : -2147483648 ≤ x0) (h10 : x0 ≤ 2147483647) (h11 : -2147483648 ≤ x1) (h12 : x1 ≤ 2147483647) (h13 : -2147483648 ≤ x2) (h14 : x2 ≤ 2147483647) (h15 : -2147483648 ≤ x3) (h16 : x3 ≤ 2147483647) : x0 + x1 ≤ 2147483647 := by omega
theorem o32_197 {x0 x1 x2 x3 x4 x5 : Int} (h0 : 0 ≤ x1) (h1 : x1 ≤ 24) (h2 : 0 ≤ x2) (h3 : x2 ≤ 5) (h4 : 1 ≤ x2) (h5 : x3 = x1 % x2) (h6 : 0 ≤ x3) (h7 : x3 < x2) (h8 : x4 = 1) (h9 : x5 = x3 + x4) (h10 : 0 ≤ x0) (h11 : x0 ≤ 5) (h12 : x0 = x2) (h13 : 1 ≤ x0) : 0 < x0 := by omega
theorem o32_198 {x0 x1 x2 x3 x4 x5 : Int} (h0 : 0 ≤ x0) (h1 : x0 ≤ 24) (h2 : 0 ≤ x1) (h3 : x1 ≤ 5) (h4 : 1 ≤ x1) (h5 : x2 = x0 % x1) (h6 : 0 ≤ x2) (h7 : x2 < x1) (h8 : x3 = 1) (h9 : x4 = x2 + x3) (h10 : 0 ≤ x5) (h11 : x5 ≤ 5) (h12 : x5 = x1) (h13 : 1 ≤ x5) : 0 ≤ x0 := by omega
theorem o32_199 {x0 x1 x2 : Int} (h0 : 0 ≤ x0) (h1 : x0 ≤ 3) (h2 : x2 = 1) (h3 : x0 = x2) (h4 : x1 = 2) (h5 : x0 = x1) : False := by omega
theorem o32_200 {x0 x1 x2 : Int} (h0 : 0 ≤ x0) (h1 : x0 ≤ 3) (h2 : x1 = 1) (h3 : x0 = x1) (h4 : x2 = 2) (h5 : ¬ x0 = x2) (h6 : x0 = 0) : False := by omega
theorem o32_201 {x0 x1 x2 x3 x4 x5 x6 x7 : Int} (h0 : 0 ≤ x2) (h1 : x2 ≤ 24) (h2 : 0 ≤ x3) (h3 : x3 ≤ 5) (h4 : 1 ≤ x3) (h5 : x4 = x2 % x3) (h6 : 0 ≤ x4) (h7 : x4 < x3) (h8 : x5 = 1) (h9 : x6 = x4 + x5) (h10 : 0 ≤ x7) (h11 : x7 ≤ 5) (h12 : x7 = x3) (h13 : 1 ≤ x7) (h14 : x0 = x2 / x7) (h15 : 0 ≤ x0) (h16 : x0 ≤ x2) (h17 : x1 = 0) (h18 : -2147483648 ≤ x0) (h19 : x0 ≤ 2147483647) (h20 : -2147483648 ≤ x1) (h21 : x1 ≤ 2147483647) (h22 : -2147483648 ≤ x2) (h23 : x2 ≤ 2147483647) (h24 : -2147483648 ≤ x3) (h25 : x3 ≤ 2147483647) (h26 : -2147483648 ≤ x4) (h27 : x4 ≤ 2147483647) (h28 : -2147483648 ≤ x5) (h29 : x5 ≤ 2147483647) (h30 : -2147483648 ≤ x6) (h31 : x6 ≤ 2147483647) (h32 : -2147483648 ≤ x7) (h33 : x7 ≤ 2147483647) : -2147483648 ≤ x0 + x1 := by omega
theorem o32_202 {x0 x1 x2 x3 x4 x5 x6 x7 : Int} (h0 : 0 ≤ x2) (h1 : x2 ≤ 24) (h2 : 0 ≤ x3) (h3 : x3 ≤ 5) (h4 : 1 ≤ x3) (h5 : x4 = x2 % x3) (h6 : 0 ≤ x4) (h7 : x4 < x3) (h8 : x5 = 1) (h9 : x6 = x4 + x5) (h10 : 0 ≤ x7) (h11 : x7 ≤ 5) (h12 : x7 = x3) (h13 : 1 ≤ x7) (h14 : x0 = x2 / x7) (h15 : 0 ≤ x0) (h16 : x0 ≤ x2) (h17 : x1 = 0) (h18 : -2147483648 ≤ x0) (h19 : x0 ≤ 2147483647) (h20 : -2147483648 ≤ x1) (h21 : x1 ≤ 2147483647) (h22 : -2147483648 ≤ x2) (h23 : x2 ≤ 2147483647) (h24 : -2147483648 ≤ x3) (h25 : x3 ≤ 2147483647) (h26 : -2147483648 ≤ x4) (h27 : x4 ≤ 2147483647) (h28 : -2147483648 ≤ x5) (h29 : x5 ≤ 2147483647) (h30 : -2147483648 ≤ x6) (h31 : x6 ≤ 2147483647) (h32 : -2147483648 ≤ x7) (h33 : x7 ≤ 2147483647) : x0 + x1 ≤ 2147483647 := by omega
theorem o32_203 {x0 x1 x2 x3 x4 x5 x6 x7 x8 x9 x10 x11 : Int} (h0 : 0 ≤ x2) (h1 : x2 ≤ 24) (h2 : 0 ≤ x3) (h3 : x3 ≤ 5) (h4 : 1 ≤ x3) (h5 : x4 = x2 % x3) (h6 : 0 ≤ x4) (h7 : x4 < x3) (h8 : x5 = 1) (h9 : x6 = x4 + x5) (h10 : 0 ≤ x7) (h11 : x7 ≤ 5) (h12 : x7 = x3) (h13 : 1 ≤ x7) (h14 : x8 = x2 / x7) (h15 : 0 ≤ x8) (h16 : x8 ≤ x2) (h17 : x9 = 0) (h18 : x10 = x8 + x9) (h19 : x11 = x6) (h20 : 0 ≤ x0) (h21 : x0 ≤ 5) (h22 : x0 = x3) (h23 : 1 ≤ x0) (h24 : x1 = 1) (h25 : -2147483648 ≤ x0) (h26 : x0 ≤ 2147483647) (h27 : -2147483648 ≤ x1) (h28 : x1 ≤ 2147483647) (h29 : -2147483648 ≤ x2) (h30 : x2 ≤ 2147483647) (h31 : -2147483648 ≤ x3) (h32 : x3 ≤ 2147483647) (h33 : -2147483648 ≤ x4) (h34 : x4 ≤ 2147483647) (h35 : -2147483648 ≤ x5) (h36 : x5 ≤ 2147483647) (h37 : -2147483648 ≤ x6) (h38 : x6 ≤ 2147483647) (h39 : -2147483648 ≤ x7) (h40 : x7 ≤ 2147483647) (h41 : -2147483648 ≤ x8) (h42 : x8 ≤ 2147483647) (h43 : -2147483648 ≤ x9) (h44 : x9 ≤ 2147483647) (h45 : -2147483648 ≤ x10) (h46 : x10 ≤ 2147483647) : -2147483648 ≤ x0 - x1 := by omega
theorem o32_204 {x0 x1 x2 x3 x4 x5 x6 x7 x8 x9 x10 x11 : Int} (h0 : 0 ≤ x2) (h1 : x2 ≤ 24) (h2 : 0 ≤ x3) (h3 : x3 ≤ 5) (h4 : 1 ≤ x3) (h5 : x4 = x2 % x3) (h6 : 0 ≤ x4) (h7 : x4 < x3) (h8 : x5 = 1) (h9 : x6 = x4 + x5) (h10 : 0 ≤ x7) (h11 : x7 ≤ 5) (h12 : x7 = x3) (h13 : 1 ≤ x7) (h14 : x8 = x2 / x7) (h15 : 0 ≤ x8) (h16 : x8 ≤ x2) (h17 : x9 = 0) (h18 : x10 = x8 + x9) (h19 : x11 = x6) (h20 : 0 ≤ x0) (h21 : x0 ≤ 5) (h22 : x0 = x3) (h23 : 1 ≤ x0) (h24 : x1 = 1) (h25 : -2147483648 ≤ x0) (h26 : x0 ≤ 2147483647) (h27 : -2147483648 ≤ x1) (h28 : x1 ≤ 2147483647) (h29 : -2147483648 ≤ x2) (h30 : x2 ≤ 2147483647) (h31 : -2147483648 ≤ x3) (h32 : x3 ≤ 2147483647) (h33 : -2147483648 ≤ x4) (h34 : x4 ≤ 2147483647) (h35 : -2147483648 ≤ x5) (h36 : x5 ≤ 2147483647) (h37 : -2147483648 ≤ x6) (h38 : x6 ≤ 2147483647) (h39 : -2147483648 ≤ x7) (h40 : x7 ≤ 2147483647) (h41 : -2147483648 ≤ x8) (h42 : x8 ≤ 2147483647) (h43 : -2147483648 ≤ x9) (h44 : x9 ≤ 2147483647) (h45 : -2147483648 ≤ x10) (h46 : x10 ≤ 2147483647) : x0 - x1 ≤ 2147483647 := by omega
theorem o32_205 {x0 x1 x2 x3 x4 x5 x6 x7 x8 x9 x10 x11 x12 x13 x14 x15 : Int} (h0 : 0 ≤ x2) (h1 : x2 ≤ 24) (h2 : 0 ≤ x1) (h3 : x1 ≤ 5) (h4 : 1 ≤ x1) (h5 : x3 = x2 % x1) (h6 : 0 ≤ x3) (h7 : x3 < x1) (h8 : x4 = 1) (h9 : x5 = x3 + x4) (h10 : 0 ≤ x0) (h11 : x0 ≤ 5) (h12 : x0 = x1) (h13 : 1 ≤ x0) (h14 : x6 = x2 / x0) (h15 : 0 ≤ x6) (h16 : x6 ≤ x2) (h17 : x7 = 0) (h18 : x8 = x6 + x7) (h19 : x9 = x5) (h20 : x10 = 0) (h21 : 0 ≤ x11) (h22 : x11 ≤ 5) (h23 : x11 = x1) (h24 : 1 ≤ x11) (h25 : x12 = 1) (h26 : x13 = x11 - x12) (h27 : x14 = x13) (h28 : 0 ≤ x15) (h29 : x15 ≤ 1) (h30 : ((x15 = 0 ∧ (x9 < x10 ∨ x14 < x9)) ∨ (x15 = 1 ∧ x10 ≤ x9 ∧ x9 ≤ x14))) (h31 : x15 = 0) : x0 = x1 := by omega
theorem o32_206 {x0 x1 x2 x3 x4 x5 x6 x7 x8 x9 x10 x11 x12 x13 x14 x15 x16 x17 x18 x19 x20 x21 x22 : Int} (h0 : 0 ≤ x2) (h1 : x2 ≤ 24) (h2 : 0 ≤ x1) (h3 : x1 ≤ 5) (h4 : 1 ≤ x1) (h5 : x3 = x2 % x1) (h6 : 0 ≤ x3) (h7 : x3 < x1) (h8 : x4 = 1) (h9 : x5 = x3 + x4) (h10 : 0 ≤ x0) (h11 : x0 ≤ 5) (h12 : x0 = x1) (h13 : 1 ≤ x0) (h14 : x6 = x2 / x0) (h15 : 0 ≤ x6) (h16 : x6 ≤ x2) (h17 : x7 = 0) (h18 : x8 = x6 + x7) (h19 : x9 = x5) (h20 : x10 = 0) (h21 : 0 ≤ x11) (h22 : x11 ≤ 5) (h23 : x11 = x1) (h24 : 1 ≤ x11) (h25 : x12 = 1) (h26 : x13 = x11 - x12) (h27 : x14 = x13) (h28 : 0 ≤ x15) (h29 : x15 ≤ 1) (h30 : ((x15 = 0 ∧ (x9 < x10 ∨ x14 < x9)) ∨ (x15 = 1 ∧ x10 ≤ x9 ∧ x9 ≤ x14))) (h31 : ¬ x15 = 0) (h32 : x16 = x8) (h33 : x17 = 0) (h34 : 0 ≤ x18) (h35 : x18 ≤ 5) (h36 : 1 ≤ x18) (h37 : x19 = 1) (h38 : x20 = x18 - x19) (h39 : x21 = x20) (h40 : 0 ≤ x22) (h41 : x22 ≤ 1) (h42 : ((x22 = 0 ∧ (x16 < x17 ∨ x21 < x16)) ∨ (x22 = 1 ∧ x17 ≤ x16 ∧ x16 ≤ x21))) (h43 : x22 = 0) : x0 = x1 := by omega
theorem o32_207 {x0 x1 x2 x3 x4 x5 x6 x7 x8 x9 x10 x11 x12 x13 x14 x15 x16 x17 x18 x19 x20 x21 x22 x23 : Int} (h0 : 0 ≤ x1) (h1 : x1 ≤ 24) (h2 : 0 ≤ x2) (h3 : x2 ≤ 5) (h4 : 1 ≤ x2) (h5 : x3 = x1 % x2) (h6 : 0 ≤ x3) (h7 : x3 < x2) (h8 : x4 = 1) (h9 : x5 = x3 + x4) (h10 : 0 ≤ x6) (h11 : x6 ≤ 5) (h12 : x6 = x2) (h13 : 1 ≤ x6) (h14 : x7 = x1 / x6) (h15 : 0 ≤ x7) (h16 : x7 ≤ x1) (h17 : x8 = 0) (h18 : x9 = x7 + x8) (h19 : x10 = x5) (h20 : x11 = 0) (h21 : 0 ≤ x12) (h22 : x12 ≤ 5) (h23 : x12 = x2) (h24 : 1 ≤ x12) (h25 : x13 = 1) (h26 : x14 = x12 - x13) (h27 : x15 = x14) (h28 : 0 ≤ x16) (h29 : x16 ≤ 1) (h30 : ((x16 = 0 ∧ (x10 < x11 ∨ x15 < x10)) ∨ (x16 = 1 ∧ x11 ≤ x10 ∧ x10 ≤ x15))) (h31 : ¬ x16 = 0) (h32 : x17 = x9) (h33 : x18 = 0) (h34 : 0 ≤ x19) (h35 : x19 ≤ 5) (h36 : 1 ≤ x19) (h37 : x20 = 1) (h38 : x21 = x19 - x20) (h39 : x22 = x21) (h40 : 0 ≤ x23) (h41 : x23 ≤ 1) (h42 : ((x23 = 0 ∧ (x17 < x18 ∨ x22 < x17)) ∨ (x23 = 1 ∧ x18 ≤ x17 ∧ x17 ≤ x22))) (h43 : ¬ x23 = 0) (h44 : 0 ≤ x0) (h45 : x0 ≤ 5) (h46 : x0 = x2) (h47 : 1 ≤ x0) : 1 ≤ x0 := by omega
theorem o32_208 {x0 x1 x2 x3 x4 x5 x6 x7 x8 x9 x10 x11 x12 x13 x14 x15 x16 x17 x18 x19 x20 x21 x22 x23 : Int} (h0 : 0 ≤ x1) (h1 : x1 ≤ 24) (h2 : 0 ≤ x2) (h3 : x2 ≤ 5) (h4 : 1 ≤ x2) (h5 : x3 = x1 % x2) (h6 : 0 ≤ x3) (h7 : x3 < x2) (h8 : x4 = 1) (h9 : x5 = x3 + x4) (h10 : 0 ≤ x6) (h11 : x6 ≤ 5) (h12 : x6 = x2) (h13 : 1 ≤ x6) (h14 : x7 = x1 / x6) (h15 : 0 ≤ x7) (h16 : x7 ≤ x1) (h17 : x8 = 0) (h18 : x9 = x7 + x8) (h19 : x10 = x5) (h20 : x11 = 0) (h21 : 0 ≤ x12) (h22 : x12 ≤ 5) (h23 : x12 = x2) (h24 : 1 ≤ x12) (h25 : x13 = 1) (h26 : x14 = x12 - x13) (h27 : x15 = x14) (h28 : 0 ≤ x16) (h29 : x16 ≤ 1) (h30 : ((x16 = 0 ∧ (x10 < x11 ∨ x15 < x10)) ∨ (x16 = 1 ∧ x11 ≤ x10 ∧ x10 ≤ x15))) (h31 : ¬ x16 = 0) (h32 : x17 = x9) (h33 : x18 = 0) (h34 : 0 ≤ x19) (h35 : x19 ≤ 5) (h36 : 1 ≤ x19) (h37 : x20 = 1) (h38 : x21 = x19 - x20) (h39 : x22 = x21) (h40 : 0 ≤ x23) (h41 : x23 ≤ 1) (h42 : ((x23 = 0 ∧ (x17 < x18 ∨ x22 < x17)) ∨ (x23 = 1 ∧ x18 ≤ x17 ∧ x17 ≤ x22))) (h43 : ¬ x23 = 0) (h44 : 0 ≤ x0) (h45 : x0 ≤ 5) (h46 : x0 = x2) (h47 : 1 ≤ x0) : x0 ≤ 5 := by omega
theorem o32_209 {x0 x1 x2 x3 x4 x5 x6 x7 x8 x9 x10 x11 x12 x13 x14 x15 x16 x17 x18 x19 x20 x21 x22 x23 : Int} (h0 : 0 ≤ x1) (h1 : x1 ≤ 24) (h2 : 0 ≤ x2) (h3 : x2 ≤ 5) (h4 : 1 ≤ x2) (h5 : x3 = x1 % x2) (h6 : 0 ≤ x3) (h7 : x3 < x2) (h8 : x4 = 1) (h9 : x5 = x3 + x4) (h10 : 0 ≤ x6) (h11 : x6 ≤ 5) (h12 : x6 = x2) (h13 : 1 ≤ x6) (h14 : x7 = x1 / x6) (h15 : 0 ≤ x7) (h16 : x7 ≤ x1) (h17 : x8 = 0) (h18 : x0 = x7 + x8) (h19 : x9 = x5) (h20 : x10 = 0) (h21 : 0 ≤ x11) (h22 : x11 ≤ 5) (h23 : x11 = x2) (h24 : 1 ≤ x11) (h25 : x12 = 1) (h26 : x13 = x11 - x12) (h27 : x14 = x13) (h28 : 0 ≤ x15) (h29 : x15 ≤ 1) (h30 : ((x15 = 0 ∧ (x9 < x10 ∨ x14 < x9)) ∨ (x15 = 1 ∧ x10 ≤ x9 ∧ x9 ≤ x14))) (h31 : ¬ x15 = 0) (h32 : x16 = x0) (h33 : x17 = 0) (h34 : 0 ≤ x18) (h35 : x18 ≤ 5) (h36 : 1 ≤ x18) (h37 : x19 = 1) (h38 : x20 = x18 - x19) (h39 : x21 = x20) (h40 : 0 ≤ x22) (h41 : x22 ≤ 1) (h42 : ((x22 = 0 ∧ (x16 < x17 ∨ x21 < x16)) ∨ (x22 = 1 ∧ x17 ≤ x16 ∧ x16 ≤ x21))) (h43 : ¬ x22 = 0) (h44 : 0 ≤ x23) (h45 : x23 ≤ 5) (h46 : x23 = x2) (h47 : 1 ≤ x23) : 0 ≤ x0 := by omega
theorem o32_210 {x0 x1 x2 x3 x4 x5 x6 x7 x8 x9 x10 x11 x12 x13 x14 x15 x16 x17 x18 x19 x20 x21 x22 x23 : Int} (h0 : 0 ≤ x1) (h1 : x1 ≤ 24) (h2 : 0 ≤ x2) (h3 : x2 ≤ 5) (h4 : 1 ≤ x2) (h5 : x3 = x1 % x2) (h6 : 0 ≤ x3) (h7 : x3 < x2) (h8 : x4 = 1) (h9 : x5 = x3 + x4) (h10 : 0 ≤ x6) (h11 : x6 ≤ 5) (h12 : x6 = x2) (h13 : 1 ≤ x6) (h14 : x7 = x1 / x6) (h15 : 0 ≤ x7) (h16 : x7 ≤ x1) (h17 : x8 = 0) (h18 : x0 = x7 + x8) (h19 : x9 = x5) (h20 : x10 = 0) (h21 : 0 ≤ x11) (h22 : x11 ≤ 5) (h23 : x11 = x2) (h24 : 1 ≤ x11) (h25 : x12 = 1) (h26 : x13 = x11 - x12) (h27 : x14 = x13) (h28 : 0 ≤ x15) (h29 : x15 ≤ 1) (h30 : ((x15 = 0 ∧ (x9 < x10 ∨ x14 < x9)) ∨ (x15 = 1 ∧ x10 ≤ x9 ∧ x9 ≤ x14))) (h31 : ¬ x15 = 0) (h32 : x16 = x0) (h33 : x17 = 0) (h34 : 0 ≤ x18) (h35 : x18 ≤ 5) (h36 : 1 ≤ x18) (h37 : x19 = 1) (h38 : x20 = x18 - x19) (h39 : x21 = x20) (h40 : 0 ≤ x22) (h41 : x22 ≤ 1) (h42 : ((x22 = 0 ∧ (x16 < x17 ∨ x21 < x16)) ∨ (x22 = 1 ∧ x17 ≤ x16 ∧ x16 ≤ x21))) (h43 : ¬ x22 = 0) (h44 : 0 ≤ x23) (h45 : x23 ≤ 5) (h46 : x23 = x2) (h47 : 1 ≤ x23) : x0 ≤ 4 := by omega
theorem o32_211 {x0 x1 x2 x3 x4 x5 x6 x7 x8 x9 x10 x11 x12 x13 x14 x15 x16 x17 x18 x19 x20 x21 x22 x23 x24 : Int} (h0 : 0 ≤ x2) (h1 : x2 ≤ 24) (h2 : 0 ≤ x3) (h3 : x3 ≤ 5) (h4 : 1 ≤ x3) (h5 : x4 = x2 % x3) (h6 : 0 ≤ x4) (h7 : x4 < x3) (h8 : x5 = 1) (h9 : x1 = x4 + x5) (h10 : 0 ≤ x6) (h11 : x6 ≤ 5) (h12 : x6 = x3) (h13 : 1 ≤ x6) (h14 : x7 = x2 / x6) (h15 : 0 ≤ x7) (h16 : x7 ≤ x2) (h17 : x8 = 0) (h18 : x9 = x7 + x8) (h19 : x10 = x1) (h20 : x11 = 0) (h21 : 0 ≤ x12) (h22 : x12 ≤ 5) (h23 : x12 = x3) (h24 : 1 ≤ x12) (h25 : x13 = 1) (h26 : x14 = x12 - x13) (h27 : x15 = x14) (h28 : 0 ≤ x16) (h29 : x16 ≤ 1) (h30 : ((x16 = 0 ∧ (x10 < x11 ∨ x15 < x10)) ∨ (x16 = 1 ∧ x11 ≤ x10 ∧ x10 ≤ x15))) (h31 : ¬ x16 = 0) (h32 : x17 = x9) (h33 : x18 = 0) (h34 : 0 ≤ x19) (h35 : x19 ≤ 5) (h36 : 1 ≤ x19) (h37 : x20 = 1) (h38 : x21 = x19 - x20) (h39 : x22 = x21) (h40 : 0 ≤ x23) (h41 : x23 ≤ 1) (h42 : ((x23 = 0 ∧ (x17 < x18 ∨ x22 < x17)) ∨ (x23 = 1 ∧ x18 ≤ x17 ∧ x17 ≤ x22))) (h43 : ¬ x23 = 0) (h44 : 0 ≤ x24) (h45 : x24 ≤ 5) (h46 : x24 = x3) (h47 : 1 ≤ x24) (h48 : 1 * 0 ≤ x0) (h49 : x0 ≤ 5 * 4) (h50 : -2147483648 ≤ x0) (h51 : x0 ≤ 2147483647) (h52 : -2147483648 ≤ x1) (h53 : x1 ≤ 2147483647) (h54 : -2147483648 ≤ x2) (h55 : x2 ≤ 2147483647) (h56 : -2147483648 ≤ x3) (h57 : x3 ≤ 2147483647) (h58 : -2147483648 ≤ x4) (h59 : x4 ≤ 2147483647) (h60 : -2147483648 ≤ x5) (h61 : x5 ≤ 2147483647) (h62 : -2147483648 ≤ x6) (h63 : x6 ≤ 2147483647) (h64 : -2147483648 ≤ x7) (h65 : x7 ≤ 2147483647) (h66 : -2147483648 ≤ x8) (h67 : x8 ≤ 2147483647) (h68 : -2147483648 ≤ x9) (h69 : x9 ≤ 2147483647) (h70 : -2147483648 ≤ x12) (h71 : x12 ≤ 2147483647) (h72 : -2147483648 ≤ x13) (h73 : x13 ≤ 2147483647) (h74 : -2147483648 ≤ x14) (h75 : x14 ≤ 2147483647) (h76 : -2147483648 ≤ x16) (h77 : x16 ≤ 2147483647) (h78 : -2147483648 ≤ x19) (h79 : x19 ≤ 2147483647) (h80 : -2147483648 ≤ x20) (h81 : x20 ≤ 2147483647) (h82 : -2147483648 ≤ x21) (h83 : x21 ≤ 2147483647) (h84 : -2147483648 ≤ x23) (h85 : x23 ≤ 2147483647) (h86 : -2147483648 ≤ x24) (h87 : x24 ≤ 2147483647) : -2147483648 ≤ x0 + x1 := by omega
theorem o32_212 {x0 x1 x2 x3 x4 x5 x6 x7 x8 x9 x10 x11 x12 x13 x14 x15 x16 x17 x18 x19 x20 x21 x22 x23 x24 : Int} (h0 : 0 ≤ x2) (h1 : x2 ≤ 24) (h2 : 0 ≤ x3) (h3 : x3 ≤ 5) (h4 : 1 ≤ x3) (h5 : x4 = x2 % x3) (h6 : 0 ≤ x4) (h7 : x4 < x3) (h8 : x5 = 1) (h9 : x1 = x4 + x5) (h10 : 0 ≤ x6) (h11 : x6 ≤ 5) (h12 : x6 = x3) (h13 : 1 ≤ x6) (h14 : x7 = x2 / x6) (h15 : 0 ≤ x7) (h16 : x7 ≤ x2) (h17 : x8 = 0) (h18 : x9 = x7 + x8) (h19 : x10 = x1) (h20 : x11 = 0) (h21 : 0 ≤ x12) (h22 : x12 ≤ 5) (h23 : x12 = x3) (h24 : 1 ≤ x12) (h25 : x13 = 1) (h26 : x14 = x12 - x13) (h27 : x15 = x14) (h28 : 0 ≤ x16) (h29 : x16 ≤ 1) (h30 : ((x16 = 0 ∧ (x10 < x11 ∨ x15 < x10)) ∨ (x16 = 1 ∧ x11 ≤ x10 ∧ x10 ≤ x15))) (h31 : ¬ x16 = 0) (h32 : x17 = x9) (h33 : x18 = 0) (h34 : 0 ≤ x19) (h35 : x19 ≤ 5) (h36 : 1 ≤ x19) (h37 : x20 = 1) (h38 : x21 = x19 - x20) (h39 : x22 = x21) (h40 : 0 ≤ x23) (h41 : x23 ≤ 1) (h42 : ((x23 = 0 ∧ (x17 < x18 ∨ x22 < x17)) ∨ (x23 = 1 ∧ x18 ≤ x17 ∧ x17 ≤ x22))) (h43 : ¬ x23 = 0) (h44 : 0 ≤ x24) (h45 : x24 ≤ 5) (h46 : x24 = x3) (h47 : 1 ≤ x24) (h48 : 1 * 0 ≤ x0) (h49 : x0 ≤ 5 * 4) (h50 : -2147483648 ≤ x0) (h51 : x0 ≤ 2147483647) (h52 : -2147483648 ≤ x1) (h53 : x1 ≤ 2147483647) (h54 : -2147483648 ≤ x2) (h55 : x2 ≤ 2147483647) (h56 : -2147483648 ≤ x3) (h57 : x3 ≤ 2147483647) (h58 : -2147483648 ≤ x4) (h59 : x4 ≤ 2147483647) (h60 : -2147483648 ≤ x5) (h61 : x5 ≤ 2147483647) (h62 : -2147483648 ≤ x6) (h63 : x6 ≤ 2147483647) (h64 : -2147483648 ≤ x7) (h65 : x7 ≤ 2147483647) (h66 : -2147483648 ≤ x8) (h67 : x8 ≤ 2147483647) (h68 : -2147483648 ≤ x9) (h69 : x9 ≤ 2147483647) (h70 : -2147483648 ≤ x12) (h71 : x12 ≤ 2147483647) (h72 : -2147483648 ≤ x13) (h73 : x13 ≤ 2147483647) (h74 : -2147483648 ≤ x14) (h75 : x14 ≤ 2147483647) (h76 : -2147483648 ≤ x16) (h77 : x16 ≤ 2147483647) (h78 : -2147483648 ≤ x19) (h79 : x19 ≤ 2147483647) (h80 : -2147483648 ≤ x20) (h81 : x20 ≤ 2147483647) (h82 : -2147483648 ≤ x21) (h83 : x21 ≤ 2147483647) (h84 : -2147483648 ≤ x23) (h85 : x23 ≤ 2147483647) (h86 : -2147483648 ≤ x24) (h87 : x24 ≤ 2147483647) : x0 + x1 ≤ 2147483647 := by omega
theorem o32_213 {x0 x1 x2 x3 x4 x5 x6 x7 x8 x9 x10 x11 x12 x13 x14 x15 x16 x17 x18 x19 x20 x21 x22 x23 x24 x25 : Int} (h0 : 0 ≤ x1) (h1 : x1 ≤ 24) (h2 : 0 ≤ x2) (h3 : x2 ≤ 5) (h4 : 1 ≤ x2) (h5 : x3 = x1 % x2) (h6 : 0 ≤ x3) (h7 : x3 < x2) (h8 : x4 = 1) (h9 : x5 = x3 + x4) (h10 : 0 ≤ x6) (h11 : x6 ≤ 5) (h12 : x6 = x2) (h13 : 1 ≤ x6) (h14 : x7 = x1 / x6) (h15 : 0 ≤ x7) (h16 : x7 ≤ x1) (h17 : x8 = 0) (h18 : x9 = x7 + x8) (h19 : x10 = x5) (h20 : x11 = 0) (h21 : 0 ≤ x12) (h22 : x12 ≤ 5) (h23 : x12 = x2) (h24 : 1 ≤ x12) (h25 : x13 = 1) (h26 : x14 = x12 - x13) (h27 : x15 = x14) (h28 : 0 ≤ x16) (h29 : x16 ≤ 1) (h30 : ((x16 = 0 ∧ (x10 < x11 ∨ x15 < x10)) ∨ (x16 = 1 ∧ x11 ≤ x10 ∧ x10 ≤ x15))) (h31 : ¬ x16 = 0) (h32 : x17 = x9) (h33 : x18 = 0) (h34 : x19 = x20 - x21) (h35 : x22 = x19) (h36 : 0 ≤ x23) (h37 : x23 ≤ 1) (h38 : ((x23 = 0 ∧ (x17 < x18 ∨ x22 < x17)) ∨ (x23 = 1 ∧ x18 ≤ x17 ∧ x17 ≤ x22))) (h39 : ¬ x23 = 0) (h40 : 0 ≤ x24) (h41 : x24 ≤ 5) (h42 : x24 = x2) (h43 : 1 ≤ x24) (h44 : 1 * 0 ≤ x25) (h45 : x25 ≤ 5 * 4) (h46 : x0 = x25 + x5) : (-1) ≤ x0 := by omega
theorem o32_214 {x0 x1 x2 x3 x4 x5 x6 x7 x8 x9 x10 x11 x12 x13 x14 x15 x16 x17 x18 x19 x20 x21 x22 x23 x24 x25 : Int} (h0 : 0 ≤ x1) (h1 : x1 ≤ 24) (h2 : 0 ≤ x2) (h3 : x2 ≤ 5) (h4 : 1 ≤ x2) (h5 : x3 = x1 % x2) (h6 : 0 ≤ x3) (h7 : x3 < x2) (h8 : x4 = 1) (h9 : x5 = x3 + x4) (h10 : 0 ≤ x6) (h11 : x6 ≤ 5) (h12 : x6 = x2) (h13 : 1 ≤ x6) (h14 : x7 = x1 / x6) (h15 : 0 ≤ x7) (h16 : x7 ≤ x1) (h17 : x8 = 0) (h18 : x9 = x7 + x8) (h19 : x10 = x5) (h20 : x11 = 0) (h21 : 0 ≤ x12) (h22 : x12 ≤ 5) (h23 : x12 = x2) (h24 : 1 ≤ x12) (h25 : x13 = 1) (h26 : x14 = x12 - x13) (h27 : x15 = x14) (h28 : 0 ≤ x16) (h29 : x16 ≤ 1) (h30 : ((x16 = 0 ∧ (x10 < x11 ∨ x15 < x10)) ∨ (x16 = 1 ∧ x11 ≤ x10 ∧ x10 ≤ x15))) (h31 : ¬ x16 = 0) (h32 : x17 = x9) (h33 : x18 = 0) (h34 : x19 = x20 - x21) (h35 : x22 = x19) (h36 : 0 ≤ x23) (h37 : x23 ≤ 1) (h38 : ((x23 = 0 ∧ (x17 < x18 ∨ x22 < x17)) ∨ (x23 = 1 ∧ x18 ≤ x17 ∧ x17 ≤ x22))) (h39 : ¬ x23 = 0) (h40 : 0 ≤ x24) (h41 : x24 ≤ 5) (h42 : x24 = x2) (h43 : 1 ≤ x24) (h44 : 1 * 0 ≤ x25) (h45 : x25 ≤ 5 * 4) (h46 : x0 = x25 + x5) : x0 ≤ 24 := by omega
theorem o32_215 {x0 x1 x2 x3 x4 x5 x6 x7 x8 x9 x10 x11 x12 x13 x14 x15 x16 x17 x18 x19 x20 x21 x22 x23 x24 x25 : Int} (h0 : 0 ≤ x2) (h1 : x2 ≤ 24) (h2 : 0 ≤ x1) (h3 : x1 ≤ 5) (h4 : 1 ≤ x1) (h5 : x3 = x2 % x1) (h6 : 0 ≤ x3) (h7 : x3 < x1) (h8 : x4 = 1) (h9 : x5 = x3 + x4) (h10 : 0 ≤ x6) (h11 : x6 ≤ 5) (h12 : x6 = x1) (h13 : 1 ≤ x6) (h14 : x7 = x2 / x6) (h15 : 0 ≤ x7) (h16 : x7 ≤ x2) (h17 : x8 = 0) (h18 : x9 = x7 + x8) (h19 : x10 = x5) (h20 : x11 = 0) (h21 : 0 ≤ x12) (h22 : x12 ≤ 5) (h23 : x12 = x1) (h24 : 1 ≤ x12) (h25 : x13 = 1) (h26 : x14 = x12 - x13) (h27 : x15 = x14) (h28 : 0 ≤ x16) (h29 : x16 ≤ 1) (h30 : ((x16 = 0 ∧ (x10 < x11 ∨ x15 < x10)) ∨ (x16 = 1 ∧ x11 ≤ x10 ∧ x10 ≤ x15))) (h31 : ¬ x16 = 0) (h32 : x17 = x9) (h33 : x18 = 0) (h34 : 0 ≤ x19) (h35 : x19 ≤ 5) (h36 : 1 ≤ x19) (h37 : x20 = 1) (h38 : x21 = x19 - x20) (h39 : x22 = x21) (h40 : 0 ≤ x23) (h41 : x23 ≤ 1) (h42 : ((x23 = 0 ∧ (x17 < x18 ∨ x22 < x17)) ∨ (x23 = 1 ∧ x18 ≤ x17 ∧ x17 ≤ x22))) (h43 : ¬ x23 = 0) (h44 : 0 ≤ x0) (h45 : x0 ≤ 5) (h46 : x0 = x1) (h47 : 1 ≤ x0) (h48 : 1 * 0 ≤ x24) (h49 : x24 ≤ 5 * 4) (h50 : x25 = x24 + x5) : x0 = x1 := by omega
theorem o32_216 {x0 x1 x2 x3 x4 x5 x6 x7 x8 x9 x10 x11 x12 x13 x14 x15 x16 x17 x18 x19 x20 x21 x22 x23 x24 x25 : Int} (h0 : 0 ≤ x1) (h1 : x1 ≤ 24) (h2 : 0 ≤ x2) (h3 : x2 ≤ 5) (h4 : 1 ≤ x2) (h5 : x3 = x1 % x2) (h6 : 0 ≤ x3) (h7 : x3 < x2) (h8 : x4 = 1) (h9 : x5 = x3 + x4) (h10 : 0 ≤ x6) (h11 : x6 ≤ 5) (h12 : x6 = x2) (h13 : 1 ≤ x6) (h14 : x7 = x1 / x6) (h15 : 0 ≤ x7) (h16 : x7 ≤ x1) (h17 : x8 = 0) (h18 : x0 = x7 + x8) (h19 : x9 = x5) (h20 : x10 = 0) (h21 : 0 ≤ x11) (h22 : x11 ≤ 5) (h23 : x11 = x2) (h24 : 1 ≤ x11) (h25 : x12 = 1) (h26 : x13 = x11 - x12) (h27 : x14 = x13) (h28 : 0 ≤ x15) (h29 : x15 ≤ 1) (h30 : ((x15 = 0 ∧ (x9 < x10 ∨ x14 < x9)) ∨ (x15 = 1 ∧ x10 ≤ x9 ∧ x9 ≤ x14))) (h31 : ¬ x15 = 0) (h32 : x16 = x0) (h33 : x17 = 0) (h34 : 0 ≤ x18) (h35 : x18 ≤ 5) (h36 : 1 ≤ x18) (h37 : x19 = 1) (h38 : x20 = x18 - x19) (h39 : x21 = x20) (h40 : 0 ≤ x22) (h41 : x22 ≤ 1) (h42 : ((x22 = 0 ∧ (x16 < x17 ∨ x21 < x16)) ∨ (x22 = 1 ∧ x17 ≤ x16 ∧ x16 ≤ x21))) (h43 : ¬ x22 = 0) (h44 : 0 ≤ x23) (h45 : x23 ≤ 5) (h46 : x23 = x2) (h47 : 1 ≤ x23) (h48 : 1 * 0 ≤ x24) (h49 : x24 ≤ 5 * 4) (h50 : x25 = x24 + x5) : x0 = x0 := by omega
theorem o32_217 {x0 x1 x2 x3 x4 x5 x6 x7 x8 x9 x10 x11 x12 x13 x14 x15 x16 x17 x18 x19 x20 x21 x22 x23 x24 x25 : Int} (h0 : 0 ≤ x2) (h1 : x2 ≤ 24) (h2 : 0 ≤ x1) (h3 : x1 ≤ 5) (h4 : 1 ≤ x1) (h5 : x3 = x2 % x1) (h6 : 0 ≤ x3) (h7 : x3 < x1) (h8 : x4 = 1) (h9 : x5 = x3 + x4) (h10 : 0 ≤ x0) (h11 : x0 ≤ 5) (h12 : x0 = x1) (h13 : 1 ≤ x0) (h14 : x6 = x2 / x0) (h15 : 0 ≤ x6) (h16 : x6 ≤ x2) (h17 : x7 = 0) (h18 : x8 = x6 + x7) (h19 : x9 = x5) (h20 : x10 = 0) (h21 : 0 ≤ x11) (h22 : x11 ≤ 5) (h23 : x11 = x1) (h24 : 1 ≤ x11) (h25 : x12 = 1) (h26 : x13 = x11 - x12) (h27 : x14 = x13) (h28 : 0 ≤ x15) (h29 : x15 ≤ 1) (h30 : ((x15 = 0 ∧ (x9 < x10 ∨ x14 < x9)) ∨ (x15 = 1 ∧ x10 ≤ x9 ∧ x9 ≤ x14))) (h31 : ¬ x15 = 0) (h32 : x16 = x8) (h33 : x17 = 0) (h34 : 0 ≤ x18) (h35 : x18 ≤ 5) (h36 : 1 ≤ x18) (h37 : x19 = 1) (h38 : x20 = x18 - x19) (h39 : x21 = x20) (h40 : 0 ≤ x22) (h41 : x22 ≤ 1) (h42 : ((x22 = 0 ∧ (x16 < x17 ∨ x21 < x16)) ∨ (x22 = 1 ∧ x17 ≤ x16 ∧ x16 ≤ x21))) (h43 : ¬ x22 = 0) (h44 : 0 ≤ x23) (h45 : x23 ≤ 5) (h46 : x23 = x1) (h47 : 1 ≤ x23) (h48 : 1 * 0 ≤ x24) (h49 : x24 ≤ 5 * 4) (h50 : x25 = x24 + x5) : x0 = x1 := by omega
theorem o32_218 {x0 x1 : Int} (h0 : 0 ≤ x1) (h1 : x1 ≤ 24) (h2 : x0 = 11) (h3 : -2147483648 ≤ x0) (h4 : x0 ≤ 2147483647) (h5 : -2147483648 ≤ x1) (h6 : x1 ≤ 2147483647) : -2147483648 ≤ x0 + x1 := by omega
theorem o32_219 {x0 x1 : Int} (h0 : 0 ≤ x1) (h1 : x1 ≤ 24) (h2 : x0 = 11) (h3 : -2147483648 ≤ x0) (h4 : x0 ≤ 2147483647) (h5 : -2147483648 ≤ x1) (h6 : x1 ≤ 2147483647) : x0 + x1 ≤ 2147483647 := by omega
theorem o32_220 {x0 x1 x2 : Int} (h0 : 0 ≤ x1) (h1 : x1 ≤ 24) (h2 : x2 = 11) (h3 : x0 = x2 + x1) : 0 ≤ x0 := by omega
theorem o32_221 {x0 x1 x2 : Int} (h0 : 0 ≤ x1) (h1 : x1 ≤ 24) (h2 : x2 = 11) (h3 : x0 = x2 + x1) : x0 < (5322 : Nat) := by omega
theorem o32_222 {x0 x1 x2 : Int} (h0 : 0 ≤ x0) (h1 : x0 ≤ 24) (h2 : x1 = 11) (h3 : x2 = x1 + x0) : 0 ≤ x0 := by omega
theorem o32_223 {x0 x1 x2 : Int} (h0 : 0 ≤ x0) (h1 : x0 ≤ 24) (h2 : x1 = 11) (h3 : x2 = x1 + x0) : x0 ≤ 24 := by omega
theorem o32_224 {x0 : Int} (h0 : 0 ≤ x0) (h1 : x0 ≤ 3) : 0 ≤ x0 := by omega
theorem o32_225 {x0 : Int} (h0 : 0 ≤ x0) (h1 : x0 ≤ 3) : x0 ≤ 3 := by omega
theorem o32_226 {x0 : Int} (h0 : (-1) ≤ x0) (h1 : x0 ≤ 24) : (-1) ≤ x0 := by omega
theorem o32_227 {x0 : Int} (h0 : (-1) ≤ x0) (h1 : x0 ≤ 24) : x0 ≤ 24 := by omega
theorem o32_228 {x0 x1 x2 : Int} (h0 : 0 ≤ x1) (h1 : x1 ≤ 24) (h2 : x2 = 11) (h3 : x0 = x2 + x1) : (x0).toNat = 11 + (x1).toNat := by omega
theorem o32_229 {x0 : Int} (h0 : 0 ≤ x0) (h1 : x0 ≤ 1) (h2 : x0 = 0) (h3 : x0 = 1) : False := by omega
theorem o32_230 {x0 : Int} (h0 : 0 ≤ x0) (h1 : x0 ≤ 1) (h2 : ¬ x0 = 0) (h3 : x0 = 0) : False := by omega
theorem o32_231 {x0 : Int} (h0 : x0 = (-1)) : x0 = -1 := by omega
theorem o32_232 {x0 : Int} (h0 : x0 = 10) : 0 ≤ x0 := by omega
theorem o32_233 {x0 : Int} (h0 : x0 = 10) : x0 < (5322 : Nat) := by omega
theorem o32_234 {x0 : Int} (h0 : x0 = 10) : x0 = ((10 : Nat) : Int) := by omega
theorem o32_235 {x0 : Int} (h0 : x0 = 111) : 0 ≤ x0 := by omega
theorem o32_236 {x0 : Int} (h0 : x0 = 111) : x0 < (5322 : Nat) := by omega
theorem o32_237 {x0 : Int} (h0 : x0 = 111) : x0 = ((111 : Nat) : Int) := by omega
theorem o32_238 {x0 x1 : Int} (h0 : 0 ≤ x1) (h1 : x1 ≤ 24) (h2 : x0 = 86) (h3 : -2147483648 ≤ x0) (h4 : x0 ≤ 2147483647) (h5 : -2147483648 ≤ x1) (h6 : x1 ≤ 2147483647) : -2147483648 ≤ x0 + x1 := by omega
theorem o32_239 {x0 x1 : Int} (h0 : 0 ≤ x1) (h1 : x1 ≤ 24) (h2 : x0 = 86) (h3 : -2147483648 ≤ x0) (h4 : x0 ≤ 2147483647) (h5 : -2147483648 ≤ x1) (h6 : x1 ≤ 2147483647) : x0 + x1 ≤ 2147483647 := by omega
theorem o32_240 {x0 x1 x2 : Int} (h0 : 0 ≤ x1) (h1 : x1 ≤ 24) (h2 : x2 = 86) (h3 : x0 = x2 + x1) : 0 ≤ x0 := by omega
theorem o32_241 {x0 x1 x2 : Int} (h0 : 0 ≤ x1) (h1 : x1 ≤ 24) (h2 : x2 = 86) (h3 : x0 = x2 + x1) : x0 < (5322 : Nat) := by omega
theorem o32_242 {x0 x1 x2 : Int} (h0 : 0 ≤ x1) (h1 : x1 ≤ 24) (h2 : x2 = 86) (h3 : x0 = x2 + x1) : (x0).toNat = 86 + (x1).toNat := by omega
theorem o32_243 {x0 x1 : Int} (h0 : x1 ≤ x0) (h1 : x0 < x1) : False := by omega
theorem o32_244 {x0 x1 : Int} (h0 : x0 < x1) : x0 < x1 := by omega
theorem o32_245 {x0 : Int} (h0 : x0 = 3002) : x0 = 3002 := by omega
theorem o32_246 {x0 x1 : Int} (h0 : x1 = 3002) (h1 : x1 < x0) : 3002 < x0 := by omega
theorem o32_247 {x0 x1 : Int} (h0 : x1 = 3002) (h1 : x0 ≤ x1) : ¬ 3002 < x0 := by omega
theorem o32_248 {x0 : Int} (h0 : x0 = 3003) : x0 = 3003 := by omega
theorem o32_249 {x0 x1 x2 : Int} (h0 : x1 = 3002) (h1 : x1 < x0) (h2 : x2 = 3003) (h3 : ¬ x0 = x2) : ¬ x0 = 3003 := by omega
theorem o32_250 {x0 x1 x2 : Int} (h0 : x1 = 3002) (h1 : x1 < x0) (h2 : x2 = 3003) (h3 : x0 = x2) : x0 = 3003 := by omega
theorem o32_251 {x0 : Int} (h0 : x0 = 3004) : x0 = 3004 := by omega
theorem o32_252 {x0 x1 x2 x3 : Int} (h0 : x1 = 3002) (h1 : x1 < x0) (h2 : x2 = 3003) (h3 : ¬ x0 = x2) (h4 : x3 = 3004) (h5 : ¬ x0 = x3) : ¬ x0 = 3004 := by omega
theorem o32_253 {x0 x1 x2 x3 : Int} (h0 : x1 = 3002) (h1 : x1 < x0) (h2 : x2 = 3003) (h3 : ¬ x0 = x2) (h4 : x3 = 3004) (h5 : x0 = x3) : x0 = 3004 := by omega
theorem o32_254 {x0 : Int} (h0 : x0 = 3005) : x0 = 3005 := by omega
theorem o32_255 {x0 x1 x2 x3 x4 : Int} (h0 : x1 = 3002) (h1 : x1 < x0) (h2 : x2 = 3003) (h3 : ¬ x0 = x2) (h4 : x3 = 3004) (h5 : ¬ x0 = x3) (h6 : x4 = 3005) (h7 : ¬ x0 = x4) : ¬ x0 = 3005 := by omega
theorem o32_256 {x0 x1 x2 x3 x4 : Int} (h0 : x1 = 3002) (h1 : x1 < x0) (h2 : x2 = 3003) (h3 : ¬ x0 = x2) (h4 : x3 = 3004) (h5 : ¬ x0 = x3) (h6 : x4 = 3005) (h7 : x0 = x4) : x0 = 3005 := by omega
theorem o32_257 {x0 : Int} (h0 : x0 = 3006) : x0 = 3006 := by omega
theorem o32_258 {x0 x1 x2 x3 x4 x5 : Int} (h0 : x1 = 3002) (h1 : x1 < x0) (h2 : x2 = 3003) (h3 : ¬ x0 = x2) (h4 : x3 = 3004) (h5 : ¬ x0 = x3) (h6 : x4 = 3005) (h7 : ¬ x0 = x4) (h8 : x5 = 3006) (h9 : ¬ x0 = x5) : ¬ x0 = 3006 := by omega
theorem o32_259 {x0 x1 x2 x3 x4 x5 : Int} (h0 : x1 = 3002) (h1 : x1 < x0) (h2 : x2 = 3003) (h3 : ¬ x0 = x2) (h4 : x3 = 3004) (h5 : ¬ x0 = x3) (h6 : x4 = 3005) (h7 : ¬ x0 = x4) (h8 : x5 = 3006) (h9 : x0 = x5) : x0 = 3006 := by omega
theorem o32_260 {x0 : Int} (h0 : x0 = 0) (h1 : ¬ x0 = 0) : False := by omega
theorem o32_261 {x0 : Int} (h0 : x0 = 1) (h1 : x0 = 0) : False := by omega
theorem o32_262 {x0 x1 : Int} (h0 : x1 = 2) (h1 : ¬ x0 = x1) : ¬ x0 = 2 := by omega
theorem o32_263 {x0 x1 : Int} (h0 : x1 = 2) (h1 : x0 = x1) : x0 = 2 := by omega
theorem o32_264 {x0 : Int} (h0 : x0 = 3000) : x0 = 3000 := by omega
theorem o32_265 {x0 x1 x2 : Int} (h0 : x1 = 3002) (h1 : x0 ≤ x1) (h2 : x2 = 3000) (h3 : ¬ x0 = x2) : ¬ x0 = 3000 := by omega
theorem o32_266 {x0 x1 x2 : Int} (h0 : x1 = 3002) (h1 : x0 ≤ x1) (h2 : x2 = 3000) (h3 : x0 = x2) : x0 = 3000 := by omega
theorem o32_267 {x0 : Int} (h0 : x0 = 3001) : x0 = 3001 := by omega
theorem o32_268 {x0 x1 x2 x3 : Int} (h0 : x1 = 3002) (h1 : x0 ≤ x1) (h2 : x2 = 3000) (h3 : ¬ x0 = x2) (h4 : x3 = 3001) (h5 : ¬ x0 = x3) : ¬ x0 = 3001 := by omega
theorem o32_269 {x0 x1 x2 x3 : Int} (h0 : x1 = 3002) (h1 : x0 ≤ x1) (h2 : x2 = 3000) (h3 : ¬ x0 = x2) (h4 : x3 = 3001) (h5 : x0 = x3) : x0 = 3001 := by omega
theorem o32_270 {x0 : Int} (h0 : x0 = (-1000000)) : -2147483648 ≤ x0 := by omega
theorem o32_271 {x0 : Int} (h0 : x0 = (-1000000)) : x0 ≤ 2147483647 := by omega
theorem o32_272 {x0 : Int} (h0 : x0 = 1000000) : -2147483648 ≤ x0 := by omega
theorem o32_273 {x0 : Int} (h0 : x0 = 1000000) : x0 ≤ 2147483647 := by omega
theorem o32_274 {x0 : Int} (h0 : x0 = 24) : x0 ≠ 0 := by omega
theorem o32_275 {x0 x1 : Int} (h0 : 0 ≤ x1) (h1 : x1 ≤ 24) (h2 : x0 = 61) (h3 : -2147483648 ≤ x0) (h4 : x0 ≤ 2147483647) (h5 : -2147483648 ≤ x1) (h6 : x1 ≤ 2147483647) : -2147483648 ≤ x0 + x1 := by omega
theorem o32_276 {x0 x1 : Int} (h0 : 0 ≤ x1) (h1 : x1 ≤ 24) (h2 : x0 = 61) (h3 : -2147483648 ≤ x0) (h4 : x0 ≤ 2147483647) (h5 : -2147483648 ≤ x1) (h6 : x1 ≤ 2147483647) : x0 + x1 ≤ 2147483647 := by omega
theorem o32_277 {x0 x1 x2 : Int} (h0 : 0 ≤ x1) (h1 : x1 ≤ 24) (h2 : x2 = 61) (h3 : x0 = x2 + x1) : 0 ≤ x0 := by omega
theorem o32_278 {x0 x1 x2 : Int} (h0 : 0 ≤ x1) (h1 : x1 ≤ 24) (h2 : x2 = 61) (h3 : x0 = x2 + x1) : x0 < (5322 : Nat) := by omega
theorem o32_279 {x0 x1 : Int} (h0 : x0 ≤ x1) : (x0 = x1 ∨ x0 = x0) := by omega
theorem o32_280 {x0 x1 : Int} (h0 : x0 ≤ x1) : x0 ≤ x1 ∧ x0 ≤ x0 := by omega
theorem o32_281 {x0 x1 : Int} (h0 : x0 < x1) : (x0 = x0 ∨ x0 = x1) := by omega
theorem o32_282 {x0 x1 : Int} (h0 : x0 < x1) : x0 ≤ x0 ∧ x0 ≤ x1 := by omega
theorem o32_283 {x0 : Int} (h0 : x0 = 1000000000) : x0 = 1000000000 := by omega
theorem o32_284 {x0 x1 : Int} (h0 : x1 = 1000000000) (h1 : ¬ x0 = x1) : ¬ x0 = 1000000000 := by omega
theorem o32_285 {x0 x1 : Int} (h0 : x1 = 1000000000) (h1 : x0 = x1) : x0 = 1000000000 := by omega
theorem o32_286 {x0 x1 : Int} (h0 : ¬ x0 = 0) (h1 : x1 = 1) (h2 : ¬ x0 = x1) : ¬ x0 = 1 := by omega
theorem o32_287 {x0 x1 : Int} (h0 : ¬ x0 = 0) (h1 : x1 = 1) (h2 : x0 = x1) : x0 = 1 := by omega
theorem o32_288 {x0 x1 x2 : Int} (h0 : ¬ x0 = 0) (h1 : x1 = 1) (h2 : ¬ x0 = x1) (h3 : x2 = 2) (h4 : ¬ x0 = x2) : ¬ x0 = 2 := by omega
theorem o32_289 {x0 x1 x2 : Int} (h0 : ¬ x0 = 0) (h1 : x1 = 1) (h2 : ¬ x0 = x1) (h3 : x2 = 2) (h4 : x0 = x2) : x0 = 2 := by omega
noncomputable def g2_X12_within (s : XS) : XR := (s, 0)
noncomputable def g5_X12_within (s : XS) : XR := (s, 0)
noncomputable def g6_X12_within (s : XS) : XR := (s, 1)
noncomputable def g4b_X12_within (s : XS) (v_6 : Int) : XR := if 0 < v_6 then g5_X12_within s else g6_X12_within s
noncomputable def g3_X12_within (s : XS) (a0 : Int) (a2 : Int) : XR := g4b_X12_within s ((Xcmp a0 a2))
noncomputable def g1b_X12_within (s : XS) (v_1 : Int) (a0 : Int) (a2 : Int) : XR := if v_1 < 0 then g2_X12_within s else g3_X12_within s a0 a2
noncomputable def f_X12_within (s : XS) (a0 : Int) (a1 : Int) (a2 : Int) : XR := g1b_X12_within s ((Xcmp a0 a1)) a0 a2
set_option maxHeartbeats 4000000 in
set_option maxRecDepth 100000 in
theorem c_X12_within (l : Launch) (G : GG) (Z : RZ) (ad : Nat → Nat) (ws0 : va_W) (hT : Ty G SM ad ws0) (a0 : Int64) (a1 : Int64) (a2 : Int64) : Mq l yX12_within cX12_within 6 (some .boolean) 1 G Z [.long a0, .long a1, .long a2] ws0 (PI G SM ad [] ws0 (fun r u => (xso SM ad u = (f_X12_within (xso SM ad ws0) a0.toInt a1.toInt a2.toInt).1) ∧ (r.toInt = (f_X12_within (xso SM ad ws0) a0.toInt a1.toInt a2.toInt).2) ∧ (0 ≤ r.toInt) ∧ (r.toInt ≤ 1) ∧ (((r.toInt = 0 ∧ (a0.toInt < a1.toInt ∨ a2.toInt < a0.toInt)) ∨ (r.toInt = 1 ∧ a1.toInt ≤ a0.toInt ∧ a0.toInt ≤ a2.toInt))))) := by
  refine Mq.start (by decide) (Nat.le_of_ble_eq_true rfl) ?_
  intro p e s m below meth c A ls C0 hZ h hl
  have hl : lv_has ls 6 [(0, .long a0), (2, .long a1), (4, .long a2)] := hl
  have h : Wt G SM ad A s s.heap [] ws0 := ⟨h, hT⟩
  obtain ⟨args, hargs⟩ : ∃ z, z = ([.long a0, .long a1, .long a2] : List Value).toArray := ⟨_, rfl⟩
  rw [← hargs] at C0 ⊢
  have C0 : Cx p s m args meth c RX12 cX12_within 6 (some .boolean) := C0
  obtain ⟨Q, hQ⟩ : ∃ z, z = MQ below ((PI G SM ad [] ws0 (fun r u => (xso SM ad u = (f_X12_within (xso SM ad ws0) a0.toInt a1.toInt a2.toInt).1) ∧ (r.toInt = (f_X12_within (xso SM ad ws0) a0.toInt a1.toInt a2.toInt).2) ∧ (0 ≤ r.toInt) ∧ (r.toInt ≤ 1) ∧ (((r.toInt = 0 ∧ (a0.toInt < a1.toInt ∨ a2.toInt < a0.toInt)) ∨ (r.toInt = 1 ∧ a1.toInt ≤ a0.toInt ∧ a0.toInt ≤ a2.toInt))))) A) args s 0 0 A := ⟨_, rfl⟩
  rw [← hQ]
  obtain ⟨FT, hFT⟩ : ∃ z, z = f_X12_within (xso SM ad ws0) a0.toInt a1.toInt a2.toInt := ⟨_, rfl⟩
  have HE : FT = f_X12_within (xso SM ad ws0) a0.toInt a1.toInt a2.toInt := hFT
  refine lv_lload_n C0.1 C0.2.1 dX12_within_0 rfl (lv_at hl 0 rfl) ?_
  refine lv_lload_n C0.1 C0.2.1 dX12_within_1 rfl (lv_at hl 1 rfl) ?_
  refine y_lcmp C0 dX12_within_2 (fun v_1 e_2 => ?_)
  replace HE : FT = g1b_X12_within (xso SM ad ws0) v_1.toInt a0.toInt a2.toInt := HE.trans (by rw [(ix_cmp e_2)]; rfl)
  refine y_if_lt (tgt := 17) C0 dX12_within_3 (by decide) (fun c_3 => ?_) (fun c_3 => ?_)
  · -- 3
    replace HE : FT = g2_X12_within (xso SM ad ws0) := HE.trans (if_pos c_3)
    refine y_c1 (n := 0) C0 (by decide) dX12_within_17 (fun v_4 e_5 => ?_)
    replace HE : FT = ((xso SM ad ws0), v_4.toInt) := HE.trans (by rw [e_5]; rfl)
    rw [hQ]
    exact y_zret C0 h (o32_1 e_5) (o32_2 e_5) Fr.rf ⟨(congrArg Prod.fst (HE.symm.trans hFT)), (congrArg Prod.snd (HE.symm.trans hFT)), (o32_1 e_5), (o32_2 e_5), (o32_3 e_2 c_3 e_5)⟩ dX12_within_18
  · -- 3
    replace HE : FT = g3_X12_within (xso SM ad ws0) a0.toInt a2.toInt := HE.trans (if_neg (Int.not_lt.mpr c_3))
    refine lv_lload_n C0.1 C0.2.1 dX12_within_6 rfl (lv_at hl 0 rfl) ?_
    refine lv_lload C0.1 C0.2.1 dX12_within_7 (lv_at hl 2 rfl) ?_
    refine y_lcmp C0 dX12_within_9 (fun v_6 e_7 => ?_)
    replace HE : FT = g4b_X12_within (xso SM ad ws0) v_6.toInt := HE.trans (by rw [(ix_cmp e_7)]; rfl)
    refine y_if_gt (tgt := 17) C0 dX12_within_10 (by decide) (fun c_8 => ?_) (fun c_8 => ?_)
    · -- 10
      replace HE : FT = g5_X12_within (xso SM ad ws0) := HE.trans (if_pos c_8)
      refine y_c1 (n := 0) C0 (by decide) dX12_within_17 (fun v_9 e_10 => ?_)
      replace HE : FT = ((xso SM ad ws0), v_9.toInt) := HE.trans (by rw [e_10]; rfl)
      rw [hQ]
      exact y_zret C0 h (o32_1 e_10) (o32_2 e_10) Fr.rf ⟨(congrArg Prod.fst (HE.symm.trans hFT)), (congrArg Prod.snd (HE.symm.trans hFT)), (o32_1 e_10), (o32_2 e_10), (o32_4 e_2 c_3 e_7 c_8 e_10)⟩ dX12_within_18
    · -- 10
      replace HE : FT = g6_X12_within (xso SM ad ws0) := HE.trans (if_neg (Int.not_lt.mpr c_8))
      refine y_c1 (n := 1) C0 (by decide) dX12_within_13 (fun v_11 e_12 => ?_)
      refine lv_goto (tgt := 18) C0.1 C0.2.1 dX12_within_14 (by decide) ?_
      replace HE : FT = ((xso SM ad ws0), v_11.toInt) := HE.trans (by rw [e_12]; rfl)
      rw [hQ]
      exact y_zret C0 h (o32_5 e_12) (o32_6 e_12) Fr.rf ⟨(congrArg Prod.fst (HE.symm.trans hFT)), (congrArg Prod.snd (HE.symm.trans hFT)), (o32_5 e_12), (o32_6 e_12), (o32_7 e_2 c_3 e_7 c_8 e_12)⟩ dX12_within_18
noncomputable def g2_X12_isIn (s : XS) : XR := (s, 0)
noncomputable def g3_X12_isIn (s : XS) : XR := (s, 1)
noncomputable def g1b_X12_isIn (s : XS) (v_9 : Int) : XR := if v_9 = 0 then g3_X12_isIn s else g2_X12_isIn s
noncomputable def f_X12_isIn (s : XS) (a0 : Int) (a1 : Int) : XR := g1b_X12_isIn s ((Xcmp (Xland (Xlshr a0 a1) 1) 1))
set_option maxHeartbeats 4000000 in
set_option maxRecDepth 100000 in
theorem c_X12_isIn (l : Launch) (G : GG) (Z : RZ) (ad : Nat → Nat) (ws0 : va_W) (hT : Ty G SM ad ws0) (a0 : Int64) (a1 : Int32) : Mq l yX12_isIn cX12_isIn 3 (some .boolean) 1 G Z [.long a0, .int a1] ws0 (PI G SM ad [] ws0 (fun r u => (xso SM ad u = (f_X12_isIn (xso SM ad ws0) a0.toInt a1.toInt).1) ∧ (r.toInt = (f_X12_isIn (xso SM ad ws0) a0.toInt a1.toInt).2) ∧ (0 ≤ r.toInt) ∧ (r.toInt ≤ 1) ∧ ((r.toInt = 1 ∧ inB a0 a1) ∨ (r.toInt = 0 ∧ ¬ inB a0 a1)))) := by
  refine Mq.start (by decide) (Nat.le_of_ble_eq_true rfl) ?_
  intro p e s m below meth c A ls C0 hZ h hl
  have hl : lv_has ls 3 [(0, .long a0), (2, .int a1)] := hl
  have h : Wt G SM ad A s s.heap [] ws0 := ⟨h, hT⟩
  obtain ⟨args, hargs⟩ : ∃ z, z = ([.long a0, .int a1] : List Value).toArray := ⟨_, rfl⟩
  rw [← hargs] at C0 ⊢
  have C0 : Cx p s m args meth c RX12 cX12_isIn 3 (some .boolean) := C0
  obtain ⟨Q, hQ⟩ : ∃ z, z = MQ below ((PI G SM ad [] ws0 (fun r u => (xso SM ad u = (f_X12_isIn (xso SM ad ws0) a0.toInt a1.toInt).1) ∧ (r.toInt = (f_X12_isIn (xso SM ad ws0) a0.toInt a1.toInt).2) ∧ (0 ≤ r.toInt) ∧ (r.toInt ≤ 1) ∧ ((r.toInt = 1 ∧ inB a0 a1) ∨ (r.toInt = 0 ∧ ¬ inB a0 a1)))) A) args s 0 0 A := ⟨_, rfl⟩
  rw [← hQ]
  obtain ⟨FT, hFT⟩ : ∃ z, z = f_X12_isIn (xso SM ad ws0) a0.toInt a1.toInt := ⟨_, rfl⟩
  have HE : FT = f_X12_isIn (xso SM ad ws0) a0.toInt a1.toInt := hFT
  refine lv_lload_n C0.1 C0.2.1 dX12_isIn_0 rfl (lv_at hl 0 rfl) ?_
  refine lv_iload_n C0.1 C0.2.1 dX12_isIn_1 rfl (lv_at hl 1 rfl) ?_
  refine y_lshrX C0 dX12_isIn_2 (fun w_1 e_2 => ?_)
  refine y_lc (v := 1) C0 (by decide) dX12_isIn_3 (fun w_3 e_4 => ?_)
  refine y_landX C0 dX12_isIn_4 (fun w_5 e_6 => ?_)
  refine y_lc (v := 1) C0 (by decide) dX12_isIn_5 (fun w_7 e_8 => ?_)
  refine y_lcmp C0 dX12_isIn_6 (fun v_9 e_10 => ?_)
  replace HE : FT = g1b_X12_isIn (xso SM ad ws0) v_9.toInt := HE.trans (by rw [(ix_cmp e_10), e_8, (ix_land e_6), e_4, (ix_lshr e_2)]; rfl)
  refine y_if_ne (tgt := 14) C0 dX12_isIn_7 (by decide) (fun c_11 => ?_) (fun c_11 => ?_)
  · -- 7
    replace HE : FT = g2_X12_isIn (xso SM ad ws0) := HE.trans (if_neg c_11)
    refine y_c1 (n := 0) C0 (by decide) dX12_isIn_14 (fun v_12 e_13 => ?_)
    replace HE : FT = ((xso SM ad ws0), v_12.toInt) := HE.trans (by rw [e_13]; rfl)
    rw [hQ]
    exact y_zret C0 h (o32_1 e_13) (o32_2 e_13) Fr.rf ⟨(congrArg Prod.fst (HE.symm.trans hFT)), (congrArg Prod.snd (HE.symm.trans hFT)), (o32_1 e_13), (o32_2 e_13), (Or.inr ⟨(o32_8 e_13), fun q => (o32_9 e_8 e_10 c_11 ((inB_of e_2 e_4 e_6).mp q))⟩)⟩ dX12_isIn_15
  · -- 7
    replace HE : FT = g3_X12_isIn (xso SM ad ws0) := HE.trans (if_pos c_11)
    refine y_c1 (n := 1) C0 (by decide) dX12_isIn_10 (fun v_14 e_15 => ?_)
    refine lv_goto (tgt := 15) C0.1 C0.2.1 dX12_isIn_11 (by decide) ?_
    replace HE : FT = ((xso SM ad ws0), v_14.toInt) := HE.trans (by rw [e_15]; rfl)
    rw [hQ]
    exact y_zret C0 h (o32_5 e_15) (o32_6 e_15) Fr.rf ⟨(congrArg Prod.fst (HE.symm.trans hFT)), (congrArg Prod.snd (HE.symm.trans hFT)), (o32_5 e_15), (o32_6 e_15), (Or.inl ⟨(o32_10 e_15), (inB_of e_2 e_4 e_6).mpr (o32_11 e_8 e_10 c_11)⟩)⟩ dX12_isIn_15
noncomputable def g2_X12_see (s : XS) : XR := (s, ((-1)))
noncomputable def g3_X12_see (s : XS) (a1 : Int) : XR := (s, (s 1 3 (Int.toNat a1)))
noncomputable def g1b_X12_see (s : XS) (v_1 : Int) (a1 : Int) : XR := if a1 < v_1 then g3_X12_see s a1 else g2_X12_see s
noncomputable def f_X12_see (s : XS) (a1 : Int) : XR := g1b_X12_see s ((s 0 0 8)) a1
set_option maxHeartbeats 4000000 in
set_option maxRecDepth 100000 in
theorem c_X12_see (l : Launch) (G : GG) (Z : RZ) (ad : Nat → Nat) (ws0 : va_W) (hT : Ty G SM ad ws0) (a1 : Int32) (l1 : 0 ≤ a1.toInt) (u1 : a1.toInt ≤ 901) : Mq l yX12_see cX12_see 2 (some .int) 1 G Z [.ref (ad 0), .int a1] ws0 (PI G SM ad [] ws0 (fun r u => (xso SM ad u = (f_X12_see (xso SM ad ws0) a1.toInt).1) ∧ (r.toInt = (f_X12_see (xso SM ad ws0) a1.toInt).2) ∧ ((-1) ≤ r.toInt) ∧ (r.toInt ≤ 255) ∧ ((r.toInt = -1 ∨ a1.toInt ≤ 899)))) := by
  refine Mq.start (by decide) (Nat.le_of_ble_eq_true rfl) ?_
  intro p e s m below meth c A ls C0 hZ h hl
  have hl : lv_has ls 2 [(0, .ref (ad 0)), (1, .int a1)] := hl
  have h : Wt G SM ad A s s.heap [] ws0 := ⟨h, hT⟩
  obtain ⟨args, hargs⟩ : ∃ z, z = ([.ref (ad 0), .int a1] : List Value).toArray := ⟨_, rfl⟩
  rw [← hargs] at C0 ⊢
  have C0 : Cx p s m args meth c RX12 cX12_see 2 (some .int) := C0
  obtain ⟨Q, hQ⟩ : ∃ z, z = MQ below ((PI G SM ad [] ws0 (fun r u => (xso SM ad u = (f_X12_see (xso SM ad ws0) a1.toInt).1) ∧ (r.toInt = (f_X12_see (xso SM ad ws0) a1.toInt).2) ∧ ((-1) ≤ r.toInt) ∧ (r.toInt ≤ 255) ∧ ((r.toInt = -1 ∨ a1.toInt ≤ 899)))) A) args s 0 0 A := ⟨_, rfl⟩
  rw [← hQ]
  obtain ⟨FT, hFT⟩ : ∃ z, z = f_X12_see (xso SM ad ws0) a1.toInt := ⟨_, rfl⟩
  have HE : FT = f_X12_see (xso SM ad ws0) a1.toInt := hFT
  refine lv_iload_n C0.1 C0.2.1 dX12_see_0 rfl (lv_at hl 1 rfl) ?_
  refine lv_aload_n C0.1 C0.2.1 dX12_see_1 rfl (lv_at hl 0 rfl) ?_
  refine ng_X12_size C0 h kSM_0 q_1446 dX12_see_2 (fun v_1 e_2 e_3 e_4 => ?_)
  replace HE : FT = g1b_X12_see (xso SM ad ws0) v_1.toInt a1.toInt := HE.trans (by rw [(xg0 e_2 : v_1.toInt = (xso SM ad ws0) 0 0 8)]; rfl)
  refine y_icmp_ge (tgt := 17) C0 dX12_see_5 (by decide) (fun c_5 => ?_) (fun c_5 => ?_)
  · -- 5
    replace HE : FT = g2_X12_see (xso SM ad ws0) := HE.trans (if_neg (Int.not_lt.mpr c_5))
    refine y_c1 (n := (-1)) C0 (by decide) dX12_see_17 (fun v_6 e_7 => ?_)
    replace HE : FT = ((xso SM ad ws0), v_6.toInt) := HE.trans (by rw [e_7]; rfl)
    rw [hQ]
    exact y_iret C0 h Fr.rf ⟨(congrArg Prod.fst (HE.symm.trans hFT)), (congrArg Prod.snd (HE.symm.trans hFT)), (o32_12 e_7), (o32_13 e_7), (o32_14 l1 u1 e_3 e_4 c_5 e_7)⟩ dX12_see_18
  · -- 5
    replace HE : FT = g3_X12_see (xso SM ad ws0) a1.toInt := HE.trans (if_pos c_5)
    refine lv_aload_n C0.1 C0.2.1 dX12_see_8 rfl (lv_at hl 0 rfl) ?_
    refine ng_X12_tape C0 h kSM_0 q_1441 dX12_see_9 ?_
    refine lv_iload_n C0.1 C0.2.1 dX12_see_12 rfl (lv_at hl 1 rfl) ?_
    refine y_iald C0 h kSM_3 rfl (by decide) (o32_15 l1 u1 e_3 e_4 c_5) (o32_16 l1 u1 e_3 e_4 c_5) dX12_see_13 (fun v_8 e_9 e_10 e_11 => ?_)
    refine lv_goto (tgt := 18) C0.1 C0.2.1 dX12_see_14 (by decide) ?_
    replace HE : FT = ((xso SM ad ws0), v_8.toInt) := HE.trans (by rw [(xg1 e_9 : v_8.toInt = (xso SM ad ws0) 1 3 a1.toInt.toNat)]; rfl)
    rw [hQ]
    exact y_iret C0 h Fr.rf ⟨(congrArg Prod.fst (HE.symm.trans hFT)), (congrArg Prod.snd (HE.symm.trans hFT)), (o32_17 e_10 e_11), (o32_18 e_10 e_11), (o32_19 l1 u1 e_3 e_4 c_5 e_10 e_11)⟩ dX12_see_18
noncomputable def g2_X12_isSmall (s : XS) : XR := (s, 0)
noncomputable def g5_X12_isSmall (s : XS) : XR := (s, 0)
noncomputable def g6_X12_isSmall (s : XS) : XR := (s, 1)
noncomputable def g4b_X12_isSmall (s : XS) (a0 : Int) : XR := if 122 < a0 then g5_X12_isSmall s else g6_X12_isSmall s
noncomputable def g3_X12_isSmall (s : XS) (a0 : Int) : XR := g4b_X12_isSmall s a0
noncomputable def g1b_X12_isSmall (s : XS) (a0 : Int) : XR := if a0 < 97 then g2_X12_isSmall s else g3_X12_isSmall s a0
noncomputable def f_X12_isSmall (s : XS) (a0 : Int) : XR := g1b_X12_isSmall s a0
set_option maxHeartbeats 4000000 in
set_option maxRecDepth 100000 in
theorem c_X12_isSmall (l : Launch) (G : GG) (Z : RZ) (ad : Nat → Nat) (ws0 : va_W) (hT : Ty G SM ad ws0) (a0 : Int32) : Mq l yX12_isSmall cX12_isSmall 1 (some .boolean) 1 G Z [.int a0] ws0 (PI G SM ad [] ws0 (fun r u => (xso SM ad u = (f_X12_isSmall (xso SM ad ws0) a0.toInt).1) ∧ (r.toInt = (f_X12_isSmall (xso SM ad ws0) a0.toInt).2) ∧ (0 ≤ r.toInt) ∧ (r.toInt ≤ 1) ∧ ((r.toInt = 0 ∨ (97 ≤ a0.toInt ∧ a0.toInt ≤ 122))))) := by
  refine Mq.start (by decide) (Nat.le_of_ble_eq_true rfl) ?_
  intro p e s m below meth c A ls C0 hZ h hl
  have hl : lv_has ls 1 [(0, .int a0)] := hl
  have h : Wt G SM ad A s s.heap [] ws0 := ⟨h, hT⟩
  obtain ⟨args, hargs⟩ : ∃ z, z = ([.int a0] : List Value).toArray := ⟨_, rfl⟩
  rw [← hargs] at C0 ⊢
  have C0 : Cx p s m args meth c RX12 cX12_isSmall 1 (some .boolean) := C0
  obtain ⟨Q, hQ⟩ : ∃ z, z = MQ below ((PI G SM ad [] ws0 (fun r u => (xso SM ad u = (f_X12_isSmall (xso SM ad ws0) a0.toInt).1) ∧ (r.toInt = (f_X12_isSmall (xso SM ad ws0) a0.toInt).2) ∧ (0 ≤ r.toInt) ∧ (r.toInt ≤ 1) ∧ ((r.toInt = 0 ∨ (97 ≤ a0.toInt ∧ a0.toInt ≤ 122))))) A) args s 0 0 A := ⟨_, rfl⟩
  rw [← hQ]
  obtain ⟨FT, hFT⟩ : ∃ z, z = f_X12_isSmall (xso SM ad ws0) a0.toInt := ⟨_, rfl⟩
  have HE : FT = f_X12_isSmall (xso SM ad ws0) a0.toInt := hFT
  refine lv_iload_n C0.1 C0.2.1 dX12_isSmall_0 rfl (lv_at hl 0 rfl) ?_
  refine y_c2 (n := 97) C0 (by decide) dX12_isSmall_1 (fun v_1 e_2 => ?_)
  replace HE : FT = g1b_X12_isSmall (xso SM ad ws0) a0.toInt := HE.trans rfl
  refine y_icmp_lt (tgt := 16) C0 dX12_isSmall_3 (by decide) (fun c_3 => ?_) (fun c_3 => ?_)
  · -- 3
    replace HE : FT = g2_X12_isSmall (xso SM ad ws0) := HE.trans (if_pos (o32_21 e_2 c_3))
    refine y_c1 (n := 0) C0 (by decide) dX12_isSmall_16 (fun v_4 e_5 => ?_)
    replace HE : FT = ((xso SM ad ws0), v_4.toInt) := HE.trans (by rw [e_5]; rfl)
    rw [hQ]
    exact y_zret C0 h (o32_1 e_5) (o32_2 e_5) Fr.rf ⟨(congrArg Prod.fst (HE.symm.trans hFT)), (congrArg Prod.snd (HE.symm.trans hFT)), (o32_1 e_5), (o32_2 e_5), (o32_23 e_2 c_3 e_5)⟩ dX12_isSmall_17
  · -- 3
    replace HE : FT = g3_X12_isSmall (xso SM ad ws0) a0.toInt := HE.trans (if_neg (o32_22 e_2 c_3))
    refine lv_iload_n C0.1 C0.2.1 dX12_isSmall_6 rfl (lv_at hl 0 rfl) ?_
    refine y_c2 (n := 122) C0 (by decide) dX12_isSmall_7 (fun v_6 e_7 => ?_)
    replace HE : FT = g4b_X12_isSmall (xso SM ad ws0) a0.toInt := HE.trans rfl
    refine y_icmp_gt (tgt := 16) C0 dX12_isSmall_9 (by decide) (fun c_8 => ?_) (fun c_8 => ?_)
    · -- 9
      replace HE : FT = g5_X12_isSmall (xso SM ad ws0) := HE.trans (if_pos (o32_25 e_2 c_3 e_7 c_8))
      refine y_c1 (n := 0) C0 (by decide) dX12_isSmall_16 (fun v_9 e_10 => ?_)
      replace HE : FT = ((xso SM ad ws0), v_9.toInt) := HE.trans (by rw [e_10]; rfl)
      rw [hQ]
      exact y_zret C0 h (o32_1 e_10) (o32_2 e_10) Fr.rf ⟨(congrArg Prod.fst (HE.symm.trans hFT)), (congrArg Prod.snd (HE.symm.trans hFT)), (o32_1 e_10), (o32_2 e_10), (o32_27 e_2 c_3 e_7 c_8 e_10)⟩ dX12_isSmall_17
    · -- 9
      replace HE : FT = g6_X12_isSmall (xso SM ad ws0) := HE.trans (if_neg (o32_26 e_2 c_3 e_7 c_8))
      refine y_c1 (n := 1) C0 (by decide) dX12_isSmall_12 (fun v_11 e_12 => ?_)
      refine lv_goto (tgt := 17) C0.1 C0.2.1 dX12_isSmall_13 (by decide) ?_
      replace HE : FT = ((xso SM ad ws0), v_11.toInt) := HE.trans (by rw [e_12]; rfl)
      rw [hQ]
      exact y_zret C0 h (o32_5 e_12) (o32_6 e_12) Fr.rf ⟨(congrArg Prod.fst (HE.symm.trans hFT)), (congrArg Prod.snd (HE.symm.trans hFT)), (o32_5 e_12), (o32_6 e_12), (o32_28 e_2 c_3 e_7 c_8 e_12)⟩ dX12_isSmall_17
noncomputable def g2_X12_isDigit (s : XS) : XR := (s, 0)
noncomputable def g5_X12_isDigit (s : XS) : XR := (s, 0)
noncomputable def g6_X12_isDigit (s : XS) : XR := (s, 1)
noncomputable def g4b_X12_isDigit (s : XS) (a0 : Int) : XR := if 57 < a0 then g5_X12_isDigit s else g6_X12_isDigit s
noncomputable def g3_X12_isDigit (s : XS) (a0 : Int) : XR := g4b_X12_isDigit s a0
noncomputable def g1b_X12_isDigit (s : XS) (a0 : Int) : XR := if a0 < 48 then g2_X12_isDigit s else g3_X12_isDigit s a0
noncomputable def f_X12_isDigit (s : XS) (a0 : Int) : XR := g1b_X12_isDigit s a0
set_option maxHeartbeats 4000000 in
set_option maxRecDepth 100000 in
theorem c_X12_isDigit (l : Launch) (G : GG) (Z : RZ) (ad : Nat → Nat) (ws0 : va_W) (hT : Ty G SM ad ws0) (a0 : Int32) : Mq l yX12_isDigit cX12_isDigit 1 (some .boolean) 1 G Z [.int a0] ws0 (PI G SM ad [] ws0 (fun r u => (xso SM ad u = (f_X12_isDigit (xso SM ad ws0) a0.toInt).1) ∧ (r.toInt = (f_X12_isDigit (xso SM ad ws0) a0.toInt).2) ∧ (0 ≤ r.toInt) ∧ (r.toInt ≤ 1) ∧ ((r.toInt = 0 ∨ (48 ≤ a0.toInt ∧ a0.toInt ≤ 57))))) := by
  refine Mq.start (by decide) (Nat.le_of_ble_eq_true rfl) ?_
  intro p e s m below meth c A ls C0 hZ h hl
  have hl : lv_has ls 1 [(0, .int a0)] := hl
  have h : Wt G SM ad A s s.heap [] ws0 := ⟨h, hT⟩
  obtain ⟨args, hargs⟩ : ∃ z, z = ([.int a0] : List Value).toArray := ⟨_, rfl⟩
  rw [← hargs] at C0 ⊢
  have C0 : Cx p s m args meth c RX12 cX12_isDigit 1 (some .boolean) := C0
  obtain ⟨Q, hQ⟩ : ∃ z, z = MQ below ((PI G SM ad [] ws0 (fun r u => (xso SM ad u = (f_X12_isDigit (xso SM ad ws0) a0.toInt).1) ∧ (r.toInt = (f_X12_isDigit (xso SM ad ws0) a0.toInt).2) ∧ (0 ≤ r.toInt) ∧ (r.toInt ≤ 1) ∧ ((r.toInt = 0 ∨ (48 ≤ a0.toInt ∧ a0.toInt ≤ 57))))) A) args s 0 0 A := ⟨_, rfl⟩
  rw [← hQ]
  obtain ⟨FT, hFT⟩ : ∃ z, z = f_X12_isDigit (xso SM ad ws0) a0.toInt := ⟨_, rfl⟩
  have HE : FT = f_X12_isDigit (xso SM ad ws0) a0.toInt := hFT
  refine lv_iload_n C0.1 C0.2.1 dX12_isDigit_0 rfl (lv_at hl 0 rfl) ?_
  refine y_c2 (n := 48) C0 (by decide) dX12_isDigit_1 (fun v_1 e_2 => ?_)
  replace HE : FT = g1b_X12_isDigit (xso SM ad ws0) a0.toInt := HE.trans rfl
  refine y_icmp_lt (tgt := 16) C0 dX12_isDigit_3 (by decide) (fun c_3 => ?_) (fun c_3 => ?_)
  · -- 3
    replace HE : FT = g2_X12_isDigit (xso SM ad ws0) := HE.trans (if_pos (o32_30 e_2 c_3))
    refine y_c1 (n := 0) C0 (by decide) dX12_isDigit_16 (fun v_4 e_5 => ?_)
    replace HE : FT = ((xso SM ad ws0), v_4.toInt) := HE.trans (by rw [e_5]; rfl)
    rw [hQ]
    exact y_zret C0 h (o32_1 e_5) (o32_2 e_5) Fr.rf ⟨(congrArg Prod.fst (HE.symm.trans hFT)), (congrArg Prod.snd (HE.symm.trans hFT)), (o32_1 e_5), (o32_2 e_5), (o32_32 e_2 c_3 e_5)⟩ dX12_isDigit_17
  · -- 3
    replace HE : FT = g3_X12_isDigit (xso SM ad ws0) a0.toInt := HE.trans (if_neg (o32_31 e_2 c_3))
    refine lv_iload_n C0.1 C0.2.1 dX12_isDigit_6 rfl (lv_at hl 0 rfl) ?_
    refine y_c2 (n := 57) C0 (by decide) dX12_isDigit_7 (fun v_6 e_7 => ?_)
    replace HE : FT = g4b_X12_isDigit (xso SM ad ws0) a0.toInt := HE.trans rfl
    refine y_icmp_gt (tgt := 16) C0 dX12_isDigit_9 (by decide) (fun c_8 => ?_) (fun c_8 => ?_)
    · -- 9
      replace HE : FT = g5_X12_isDigit (xso SM ad ws0) := HE.trans (if_pos (o32_34 e_2 c_3 e_7 c_8))
      refine y_c1 (n := 0) C0 (by decide) dX12_isDigit_16 (fun v_9 e_10 => ?_)
      replace HE : FT = ((xso SM ad ws0), v_9.toInt) := HE.trans (by rw [e_10]; rfl)
      rw [hQ]
      exact y_zret C0 h (o32_1 e_10) (o32_2 e_10) Fr.rf ⟨(congrArg Prod.fst (HE.symm.trans hFT)), (congrArg Prod.snd (HE.symm.trans hFT)), (o32_1 e_10), (o32_2 e_10), (o32_36 e_2 c_3 e_7 c_8 e_10)⟩ dX12_isDigit_17
    · -- 9
      replace HE : FT = g6_X12_isDigit (xso SM ad ws0) := HE.trans (if_neg (o32_35 e_2 c_3 e_7 c_8))
      refine y_c1 (n := 1) C0 (by decide) dX12_isDigit_12 (fun v_11 e_12 => ?_)
      refine lv_goto (tgt := 17) C0.1 C0.2.1 dX12_isDigit_13 (by decide) ?_
      replace HE : FT = ((xso SM ad ws0), v_11.toInt) := HE.trans (by rw [e_12]; rfl)
      rw [hQ]
      exact y_zret C0 h (o32_5 e_12) (o32_6 e_12) Fr.rf ⟨(congrArg Prod.fst (HE.symm.trans hFT)), (congrArg Prod.snd (HE.symm.trans hFT)), (o32_5 e_12), (o32_6 e_12), (o32_37 e_2 c_3 e_7 c_8 e_12)⟩ dX12_isDigit_17
noncomputable def f_X12_crossings (s : XS) : XR := (s, ((s 1 1 (Int.toNat 1)) * (s 1 1 (Int.toNat 2))))
set_option maxHeartbeats 4000000 in
set_option maxRecDepth 100000 in
theorem c_X12_crossings (l : Launch) (G : GG) (Z : RZ) (ad : Nat → Nat) (ws0 : va_W) (hT : Ty G SM ad ws0) : Mq l yX12_crossings cX12_crossings 1 (some .int) 1 G Z [.ref (ad 0)] ws0 (PI G SM ad [] ws0 (fun r u => (xso SM ad u = (f_X12_crossings (xso SM ad ws0)).1) ∧ (r.toInt = (f_X12_crossings (xso SM ad ws0)).2) ∧ (0 ≤ r.toInt) ∧ (r.toInt ≤ 25) ∧ (r.toInt = 0 ∨ Laid ws0))) := by
  refine Mq.start (by decide) (Nat.le_of_ble_eq_true rfl) ?_
  intro p e s m below meth c A ls C0 hZ h hl
  have hl : lv_has ls 1 [(0, .ref (ad 0))] := hl
  have h : Wt G SM ad A s s.heap [] ws0 := ⟨h, hT⟩
  obtain ⟨args, hargs⟩ : ∃ z, z = ([.ref (ad 0)] : List Value).toArray := ⟨_, rfl⟩
  rw [← hargs] at C0 ⊢
  have C0 : Cx p s m args meth c RX12 cX12_crossings 1 (some .int) := C0
  obtain ⟨Q, hQ⟩ : ∃ z, z = MQ below ((PI G SM ad [] ws0 (fun r u => (xso SM ad u = (f_X12_crossings (xso SM ad ws0)).1) ∧ (r.toInt = (f_X12_crossings (xso SM ad ws0)).2) ∧ (0 ≤ r.toInt) ∧ (r.toInt ≤ 25) ∧ (r.toInt = 0 ∨ Laid ws0))) A) args s 0 0 A := ⟨_, rfl⟩
  rw [← hQ]
  obtain ⟨FT, hFT⟩ : ∃ z, z = f_X12_crossings (xso SM ad ws0) := ⟨_, rfl⟩
  have HE : FT = f_X12_crossings (xso SM ad ws0) := hFT
  refine lv_aload_n C0.1 C0.2.1 dX12_crossings_0 rfl (lv_at hl 0 rfl) ?_
  refine ng_X12_all C0 h kSM_0 q_1439 dX12_crossings_1 ?_
  refine y_c1 (n := 1) C0 (by decide) dX12_crossings_4 (fun v_1 e_2 => ?_)
  refine y_iald C0 h kSM_1 rfl (by decide) (o32_5 e_2) (o32_38 e_2) dX12_crossings_5 (fun v_3 e_4 e_5 e_6 => ?_)
  have f_7 := o32_39 v_1.toInt.toNat (o32_40 e_2) (o32_41 e_2)
  have e_8 : aI ws0 1 1 = v_3 := (congrArg (aI ws0 1) (ix_c (c := 1) (o32_42 e_2))).symm.trans e_4
  refine lv_aload_n C0.1 C0.2.1 dX12_crossings_6 rfl (lv_at hl 0 rfl) ?_
  refine ng_X12_all C0 h kSM_0 q_1439 dX12_crossings_7 ?_
  refine y_c1 (n := 2) C0 (by decide) dX12_crossings_10 (fun v_9 e_10 => ?_)
  refine y_iald C0 h kSM_1 rfl (by decide) (o32_43 e_10) (o32_44 e_10) dX12_crossings_11 (fun v_11 e_12 e_13 e_14 => ?_)
  have f_15 := o32_45 v_9.toInt.toNat (o32_46 e_10) (o32_47 e_10)
  have e_16 : aI ws0 1 2 = v_11 := (congrArg (aI ws0 1) (ix_c (c := 2) (o32_48 e_10))).symm.trans e_12
  refine y_mulb (la := 0) (ha := 5) (lb := 0) (hb := 5) C0 (by decide) (o32_49 (Int.le_trans f_7.1 e_5) (Int.le_trans e_6 f_7.2)) (o32_50 (Int.le_trans f_7.1 e_5) (Int.le_trans e_6 f_7.2)) (by decide) (o32_49 (Int.le_trans f_15.1 e_13) (Int.le_trans e_14 f_15.2)) (o32_50 (Int.le_trans f_15.1 e_13) (Int.le_trans e_14 f_15.2)) (by decide) dX12_crossings_12 (fun v_17 e_18 e_19 e_20 => ?_)
  replace HE : FT = ((xso SM ad ws0), v_17.toInt) := HE.trans (by rw [e_18, (xg1 e_12 : v_11.toInt = (xso SM ad ws0) 1 1 v_9.toInt.toNat), e_10, (xg1 e_4 : v_3.toInt = (xso SM ad ws0) 1 1 v_1.toInt.toNat), e_2]; rfl)
  rw [hQ]
  exact y_iret C0 h Fr.rf ⟨(congrArg Prod.fst (HE.symm.trans hFT)), (congrArg Prod.snd (HE.symm.trans hFT)), (o32_51 e_19 e_20), (o32_52 e_19 e_20), (laid_mul e_8 e_16 e_18 (o32_49 (Int.le_trans f_7.1 e_5) (Int.le_trans e_6 f_7.2)) (o32_49 (Int.le_trans f_15.1 e_13) (Int.le_trans e_14 f_15.2)))⟩ dX12_crossings_13
noncomputable def g2c_X12_isCrossing (s : XS) (r_21 : Int) : XR := (s, r_21)
noncomputable def g1c_X12_isCrossing (s : XS) (r_6 : Int) (a1 : Int) : XR := g2c_X12_isCrossing ((f_X12_within s a1 0 ((r_6 - 1))).1) (((f_X12_within s a1 0 ((r_6 - 1))).2))
noncomputable def f_X12_isCrossing (s : XS) (a1 : Int) : XR := g1c_X12_isCrossing ((f_X12_crossings s).1) (((f_X12_crossings s).2)) a1
set_option maxHeartbeats 4000000 in
set_option maxRecDepth 100000 in
theorem c_X12_isCrossing (l : Launch) (G : GG) (Z : RZ) (ad : Nat → Nat) (ws0 : va_W) (hT : Ty G SM ad ws0) (a1 : Int64) : Mq l yX12_isCrossing cX12_isCrossing 3 (some .boolean) 2 G Z [.ref (ad 0), .long a1] ws0 (PI G SM ad [] ws0 (fun r u => (xso SM ad u = (f_X12_isCrossing (xso SM ad ws0) a1.toInt).1) ∧ (r.toInt = (f_X12_isCrossing (xso SM ad ws0) a1.toInt).2) ∧ (0 ≤ r.toInt) ∧ (r.toInt ≤ 1) ∧ ((r.toInt = 0 ∨ (0 ≤ a1.toInt ∧ a1.toInt ≤ 24))) ∧ (r.toInt = 0 ∨ Laid ws0))) := by
  refine Mq.start (by decide) (Nat.le_of_ble_eq_true rfl) ?_
  intro p e s m below meth c A ls C0 hZ h hl
  have hl : lv_has ls 3 [(0, .ref (ad 0)), (1, .long a1)] := hl
  have h : Wt G SM ad A s s.heap [] ws0 := ⟨h, hT⟩
  obtain ⟨args, hargs⟩ : ∃ z, z = ([.ref (ad 0), .long a1] : List Value).toArray := ⟨_, rfl⟩
  rw [← hargs] at C0 ⊢
  have C0 : Cx p s m args meth c RX12 cX12_isCrossing 3 (some .boolean) := C0
  obtain ⟨Q, hQ⟩ : ∃ z, z = MQ below ((PI G SM ad [] ws0 (fun r u => (xso SM ad u = (f_X12_isCrossing (xso SM ad ws0) a1.toInt).1) ∧ (r.toInt = (f_X12_isCrossing (xso SM ad ws0) a1.toInt).2) ∧ (0 ≤ r.toInt) ∧ (r.toInt ≤ 1) ∧ ((r.toInt = 0 ∨ (0 ≤ a1.toInt ∧ a1.toInt ≤ 24))) ∧ (r.toInt = 0 ∨ Laid ws0))) A) args s 0 0 A := ⟨_, rfl⟩
  rw [← hQ]
  obtain ⟨FT, hFT⟩ : ∃ z, z = f_X12_isCrossing (xso SM ad ws0) a1.toInt := ⟨_, rfl⟩
  have HE : FT = f_X12_isCrossing (xso SM ad ws0) a1.toInt := hFT
  refine lv_lload_n C0.1 C0.2.1 dX12_isCrossing_0 rfl (lv_at hl 1 rfl) ?_
  refine y_lc (v := 0) C0 (by decide) dX12_isCrossing_1 (fun w_1 e_2 => ?_)
  refine lv_aload_n C0.1 C0.2.1 dX12_isCrossing_2 rfl (lv_at hl 0 rfl) ?_
  refine y_ci h (y_rV (As := []) (rest := [.long w_1, .long a1]) C0 hZ h (c_X12_crossings l G Z ad _ h.2) k_X12_crossings q_1705 q_79 q_1703 kSM_0 rfl rfl rfl hl.1 rfl rfl (Nat.le_of_ble_eq_true rfl) dX12_isCrossing_3 ⟨Nat.le_of_ble_eq_true rfl, Nat.le_of_ble_eq_true rfl⟩ ⟨Nat.le_of_ble_eq_true rfl, Nat.le_of_ble_eq_true rfl⟩) (fun r_6 H locs ws_3 h u_4 p_5 => ?_)
  obtain ⟨e_7, e_8, e_9, e_10, e_11⟩ := p_5
  replace HE : FT = g1c_X12_isCrossing (xso SM ad ws_3) r_6.toInt a1.toInt := HE.trans (by rw [e_7, e_8]; rfl)
  refine y_c1 (n := 1) C0 (by decide) dX12_isCrossing_6 (fun v_12 e_13 => ?_)
  refine y_sub C0 (o32_53 e_9 e_10 e_13 (le_min r_6) (le_max r_6) (le_min v_12) (le_max v_12)) (o32_54 e_9 e_10 e_13 (le_min r_6) (le_max r_6) (le_min v_12) (le_max v_12)) dX12_isCrossing_7 (fun v_14 e_15 => ?_)
  refine y_i2l C0 dX12_isCrossing_8 (fun w_16 e_17 => ?_)
  refine y_ci h (y_rS (As := [.long a1, .long w_1, .long w_16]) (rest := []) C0 hZ h (c_X12_within l G Z ad _ h.2 a1 w_1 w_16) k_X12_within q_1580 q_1579 hl.1 rfl rfl (Nat.le_of_ble_eq_true rfl) dX12_isCrossing_9 ⟨Nat.le_of_ble_eq_true rfl, Nat.le_of_ble_eq_true rfl⟩ ⟨Nat.le_of_ble_eq_true rfl, Nat.le_of_ble_eq_true rfl⟩) (fun r_21 H locs ws_18 h u_19 p_20 => ?_)
  obtain ⟨e_22, e_23, e_24, e_25, e_26⟩ := p_20
  replace HE : FT = g2c_X12_isCrossing (xso SM ad ws_18) r_21.toInt := HE.trans (by rw [e_22, e_23, e_17, e_15, e_13, (o32_55 e_2 e_9 e_10 e_13 e_15 e_17 e_24 e_25 e_26)]; rfl)
  replace HE : FT = ((xso SM ad ws_18), r_21.toInt) := HE.trans rfl
  rw [hQ]
  exact y_zret C0 h (o32_56 e_2 e_9 e_10 e_13 e_15 e_17 e_24 e_25 e_26) (o32_57 e_2 e_9 e_10 e_13 e_15 e_17 e_24 e_25 e_26) (Fr.tr u_4 u_19) ⟨(congrArg Prod.fst (HE.symm.trans hFT)), (congrArg Prod.snd (HE.symm.trans hFT)), (o32_56 e_2 e_9 e_10 e_13 e_15 e_17 e_24 e_25 e_26), (o32_57 e_2 e_9 e_10 e_13 e_15 e_17 e_24 e_25 e_26), (o32_58 e_2 e_9 e_10 e_13 e_15 e_17 e_24 e_25 e_26), (Or.elim e_11 (fun q => Or.inl (o32_59 e_2 e_9 e_10 e_13 e_15 e_17 e_24 e_25 e_26 q)) (fun q => Or.inr q))⟩ dX12_isCrossing_12
noncomputable def g1c_X12_isPerson (s : XS) (r_20 : Int) : XR := (s, r_20)
noncomputable def f_X12_isPerson (s : XS) (a1 : Int) : XR := g1c_X12_isPerson ((f_X12_within s a1 0 (((s 1 1 (Int.toNat 3)) - 1))).1) (((f_X12_within s a1 0 (((s 1 1 (Int.toNat 3)) - 1))).2))
set_option maxHeartbeats 4000000 in
set_option maxRecDepth 100000 in
theorem c_X12_isPerson (l : Launch) (G : GG) (Z : RZ) (ad : Nat → Nat) (ws0 : va_W) (hT : Ty G SM ad ws0) (a1 : Int64) (hJ : J ws0) : Mq l yX12_isPerson cX12_isPerson 3 (some .boolean) 2 G Z [.ref (ad 0), .long a1] ws0 (PI G SM ad [] ws0 (fun r u => (xso SM ad u = (f_X12_isPerson (xso SM ad ws0) a1.toInt).1) ∧ (r.toInt = (f_X12_isPerson (xso SM ad ws0) a1.toInt).2) ∧ (0 ≤ r.toInt) ∧ (r.toInt ≤ 1) ∧ ((r.toInt = 0 ∨ (0 ≤ a1.toInt ∧ a1.toInt ≤ 4))) ∧ (r.toInt = 0 ∨ Laid ws0))) := by
  refine Mq.start (by decide) (Nat.le_of_ble_eq_true rfl) ?_
  intro p e s m below meth c A ls C0 hZ h hl
  have hl : lv_has ls 3 [(0, .ref (ad 0)), (1, .long a1)] := hl
  have h : Wt G SM ad A s s.heap [] ws0 := ⟨h, hT⟩
  obtain ⟨args, hargs⟩ : ∃ z, z = ([.ref (ad 0), .long a1] : List Value).toArray := ⟨_, rfl⟩
  rw [← hargs] at C0 ⊢
  have C0 : Cx p s m args meth c RX12 cX12_isPerson 3 (some .boolean) := C0
  obtain ⟨Q, hQ⟩ : ∃ z, z = MQ below ((PI G SM ad [] ws0 (fun r u => (xso SM ad u = (f_X12_isPerson (xso SM ad ws0) a1.toInt).1) ∧ (r.toInt = (f_X12_isPerson (xso SM ad ws0) a1.toInt).2) ∧ (0 ≤ r.toInt) ∧ (r.toInt ≤ 1) ∧ ((r.toInt = 0 ∨ (0 ≤ a1.toInt ∧ a1.toInt ≤ 4))) ∧ (r.toInt = 0 ∨ Laid ws0))) A) args s 0 0 A := ⟨_, rfl⟩
  rw [← hQ]
  obtain ⟨FT, hFT⟩ : ∃ z, z = f_X12_isPerson (xso SM ad ws0) a1.toInt := ⟨_, rfl⟩
  have HE : FT = f_X12_isPerson (xso SM ad ws0) a1.toInt := hFT
  refine lv_lload_n C0.1 C0.2.1 dX12_isPerson_0 rfl (lv_at hl 1 rfl) ?_
  refine y_lc (v := 0) C0 (by decide) dX12_isPerson_1 (fun w_1 e_2 => ?_)
  refine lv_aload_n C0.1 C0.2.1 dX12_isPerson_2 rfl (lv_at hl 0 rfl) ?_
  refine ng_X12_all C0 h kSM_0 q_1439 dX12_isPerson_3 ?_
  refine y_c1 (n := 3) C0 (by decide) dX12_isPerson_6 (fun v_3 e_4 => ?_)
  refine y_iald C0 h kSM_1 rfl (by decide) (o32_60 e_4) (o32_61 e_4) dX12_isPerson_7 (fun v_5 e_6 e_7 e_8 => ?_)
  have f_9 := o32_62 v_3.toInt.toNat (o32_63 e_4) (o32_64 e_4)
  have e_10 : aI ws0 1 3 = v_5 := (congrArg (aI ws0 1) (ix_c (c := 3) (o32_65 e_4))).symm.trans e_6
  refine y_c1 (n := 1) C0 (by decide) dX12_isPerson_8 (fun v_11 e_12 => ?_)
  refine y_sub C0 (o32_66 (Int.le_trans f_9.1 e_7) (Int.le_trans e_8 f_9.2) e_12 (le_min v_5) (le_max v_5) (le_min v_11) (le_max v_11)) (o32_67 (Int.le_trans f_9.1 e_7) (Int.le_trans e_8 f_9.2) e_12 (le_min v_5) (le_max v_5) (le_min v_11) (le_max v_11)) dX12_isPerson_9 (fun v_13 e_14 => ?_)
  refine y_i2l C0 dX12_isPerson_10 (fun w_15 e_16 => ?_)
  refine y_ci h (y_rS (As := [.long a1, .long w_1, .long w_15]) (rest := []) C0 hZ h (c_X12_within l G Z ad _ h.2 a1 w_1 w_15) k_X12_within q_1580 q_1579 hl.1 rfl rfl (Nat.le_of_ble_eq_true rfl) dX12_isPerson_11 ⟨Nat.le_of_ble_eq_true rfl, Nat.le_of_ble_eq_true rfl⟩ ⟨Nat.le_of_ble_eq_true rfl, Nat.le_of_ble_eq_true rfl⟩) (fun r_20 H locs ws_17 h u_18 p_19 => ?_)
  obtain ⟨e_21, e_22, e_23, e_24, e_25⟩ := p_19
  replace HE : FT = g1c_X12_isPerson (xso SM ad ws_17) r_20.toInt := HE.trans (by rw [e_21, e_22, e_16, e_14, e_12, (xg1 e_6 : v_5.toInt = (xso SM ad ws0) 1 1 v_3.toInt.toNat), e_4, e_2]; rfl)
  replace HE : FT = ((xso SM ad ws_17), r_20.toInt) := HE.trans rfl
  rw [hQ]
  exact y_zret C0 h (o32_68 e_2 (Int.le_trans f_9.1 e_7) (Int.le_trans e_8 f_9.2) e_12 e_14 e_16 e_23 e_24 e_25) (o32_69 e_2 (Int.le_trans f_9.1 e_7) (Int.le_trans e_8 f_9.2) e_12 e_14 e_16 e_23 e_24 e_25) u_18 ⟨(congrArg Prod.fst (HE.symm.trans hFT)), (congrArg Prod.snd (HE.symm.trans hFT)), (o32_68 e_2 (Int.le_trans f_9.1 e_7) (Int.le_trans e_8 f_9.2) e_12 e_14 e_16 e_23 e_24 e_25), (o32_69 e_2 (Int.le_trans f_9.1 e_7) (Int.le_trans e_8 f_9.2) e_12 e_14 e_16 e_23 e_24 e_25), (o32_70 e_2 (Int.le_trans f_9.1 e_7) (Int.le_trans e_8 f_9.2) e_12 e_14 e_16 e_23 e_24 e_25), ((Classical.em (r_20.toInt = 0)).imp id (fun q => J.laid hJ (fbd_lo e_10 (o32_71 e_2 (Int.le_trans f_9.1 e_7) (Int.le_trans e_8 f_9.2) e_12 e_14 e_16 e_23 e_24 e_25 q))))⟩ dX12_isPerson_14
noncomputable def g1c_X12_isDirection (s : XS) (r_10 : Int) : XR := (s, r_10)
noncomputable def f_X12_isDirection (s : XS) (a0 : Int) : XR := g1c_X12_isDirection ((f_X12_within s a0 0 3).1) (((f_X12_within s a0 0 3).2))
set_option maxHeartbeats 4000000 in
set_option maxRecDepth 100000 in
theorem c_X12_isDirection (l : Launch) (G : GG) (Z : RZ) (ad : Nat → Nat) (ws0 : va_W) (hT : Ty G SM ad ws0) (a0 : Int32) : Mq l yX12_isDirection cX12_isDirection 1 (some .boolean) 2 G Z [.int a0] ws0 (PI G SM ad [] ws0 (fun r u => (xso SM ad u = (f_X12_isDirection (xso SM ad ws0) a0.toInt).1) ∧ (r.toInt = (f_X12_isDirection (xso SM ad ws0) a0.toInt).2) ∧ (0 ≤ r.toInt) ∧ (r.toInt ≤ 1) ∧ ((r.toInt = 0 ∨ (0 ≤ a0.toInt ∧ a0.toInt ≤ 3))))) := by
  refine Mq.start (by decide) (Nat.le_of_ble_eq_true rfl) ?_
  intro p e s m below meth c A ls C0 hZ h hl
  have hl : lv_has ls 1 [(0, .int a0)] := hl
  have h : Wt G SM ad A s s.heap [] ws0 := ⟨h, hT⟩
  obtain ⟨args, hargs⟩ : ∃ z, z = ([.int a0] : List Value).toArray := ⟨_, rfl⟩
  rw [← hargs] at C0 ⊢
  have C0 : Cx p s m args meth c RX12 cX12_isDirection 1 (some .boolean) := C0
  obtain ⟨Q, hQ⟩ : ∃ z, z = MQ below ((PI G SM ad [] ws0 (fun r u => (xso SM ad u = (f_X12_isDirection (xso SM ad ws0) a0.toInt).1) ∧ (r.toInt = (f_X12_isDirection (xso SM ad ws0) a0.toInt).2) ∧ (0 ≤ r.toInt) ∧ (r.toInt ≤ 1) ∧ ((r.toInt = 0 ∨ (0 ≤ a0.toInt ∧ a0.toInt ≤ 3))))) A) args s 0 0 A := ⟨_, rfl⟩
  rw [← hQ]
  obtain ⟨FT, hFT⟩ : ∃ z, z = f_X12_isDirection (xso SM ad ws0) a0.toInt := ⟨_, rfl⟩
  have HE : FT = f_X12_isDirection (xso SM ad ws0) a0.toInt := hFT
  refine lv_iload_n C0.1 C0.2.1 dX12_isDirection_0 rfl (lv_at hl 0 rfl) ?_
  refine y_i2l C0 dX12_isDirection_1 (fun w_1 e_2 => ?_)
  refine y_lc (v := 0) C0 (by decide) dX12_isDirection_2 (fun w_3 e_4 => ?_)
  refine y_lc2 (n := 3) C0 q_1710 (by decide) dX12_isDirection_3 (fun w_5 e_6 => ?_)
  refine y_ci h (y_rS (As := [.long w_1, .long w_3, .long w_5]) (rest := []) C0 hZ h (c_X12_within l G Z ad _ h.2 w_1 w_3 w_5) k_X12_within q_1580 q_1579 hl.1 rfl rfl (Nat.le_of_ble_eq_true rfl) dX12_isDirection_6 ⟨Nat.le_of_ble_eq_true rfl, Nat.le_of_ble_eq_true rfl⟩ ⟨Nat.le_of_ble_eq_true rfl, Nat.le_of_ble_eq_true rfl⟩) (fun r_10 H locs ws_7 h u_8 p_9 => ?_)
  obtain ⟨e_11, e_12, e_13, e_14, e_15⟩ := p_9
  replace HE : FT = g1c_X12_isDirection (xso SM ad ws_7) r_10.toInt := HE.trans (by rw [e_11, e_12, e_6, e_4, e_2]; rfl)
  replace HE : FT = ((xso SM ad ws_7), r_10.toInt) := HE.trans rfl
  rw [hQ]
  exact y_zret C0 h (o32_72 e_2 e_4 e_6 e_13 e_14 e_15) (o32_73 e_2 e_4 e_6 e_13 e_14 e_15) u_8 ⟨(congrArg Prod.fst (HE.symm.trans hFT)), (congrArg Prod.snd (HE.symm.trans hFT)), (o32_72 e_2 e_4 e_6 e_13 e_14 e_15), (o32_73 e_2 e_4 e_6 e_13 e_14 e_15), (o32_74 e_2 e_4 e_6 e_13 e_14 e_15)⟩ dX12_isDirection_9
noncomputable def g5_X12_directionBy (s : XS) (a0 : Int) (a1 : Int) : XR := (s, ((a0 + a1) % 4))
noncomputable def g6_X12_directionBy (s : XS) (a0 : Int) : XR := (s, ((a0 + 2) % 4))
noncomputable def g4b_X12_directionBy (s : XS) (a1 : Int) (a0 : Int) : XR := if a1 = 3 then g6_X12_directionBy s a0 else g5_X12_directionBy s a0 a1
noncomputable def g2_X12_directionBy (s : XS) (a0 : Int) (a1 : Int) : XR := g4b_X12_directionBy s a1 a0
noncomputable def g3_X12_directionBy (s : XS) (a0 : Int) : XR := (s, ((a0 + 3) % 4))
noncomputable def g1b_X12_directionBy (s : XS) (a1 : Int) (a0 : Int) : XR := if a1 = 2 then g3_X12_directionBy s a0 else g2_X12_directionBy s a0 a1
noncomputable def f_X12_directionBy (s : XS) (a0 : Int) (a1 : Int) : XR := g1b_X12_directionBy s a1 a0
set_option maxHeartbeats 4000000 in
set_option maxRecDepth 100000 in
theorem c_X12_directionBy (l : Launch) (G : GG) (Z : RZ) (ad : Nat → Nat) (ws0 : va_W) (hT : Ty G SM ad ws0) (a0 : Int32) (a1 : Int32) (l0 : 0 ≤ a0.toInt) (u0 : a0.toInt ≤ 3) (l1 : 0 ≤ a1.toInt) (u1 : a1.toInt ≤ 3) : Mq l yX12_directionBy cX12_directionBy 2 (some .int) 1 G Z [.int a0, .int a1] ws0 (PI G SM ad [] ws0 (fun r u => (xso SM ad u = (f_X12_directionBy (xso SM ad ws0) a0.toInt a1.toInt).1) ∧ (r.toInt = (f_X12_directionBy (xso SM ad ws0) a0.toInt a1.toInt).2) ∧ (0 ≤ r.toInt) ∧ (r.toInt ≤ 3) ∧ (r.toInt = dirI a0.toInt a1.toInt))) := by
  refine Mq.start (by decide) (Nat.le_of_ble_eq_true rfl) ?_
  intro p e s m below meth c A ls C0 hZ h hl
  have hl : lv_has ls 2 [(0, .int a0), (1, .int a1)] := hl
  have h : Wt G SM ad A s s.heap [] ws0 := ⟨h, hT⟩
  obtain ⟨args, hargs⟩ : ∃ z, z = ([.int a0, .int a1] : List Value).toArray := ⟨_, rfl⟩
  rw [← hargs] at C0 ⊢
  have C0 : Cx p s m args meth c RX12 cX12_directionBy 2 (some .int) := C0
  obtain ⟨Q, hQ⟩ : ∃ z, z = MQ below ((PI G SM ad [] ws0 (fun r u => (xso SM ad u = (f_X12_directionBy (xso SM ad ws0) a0.toInt a1.toInt).1) ∧ (r.toInt = (f_X12_directionBy (xso SM ad ws0) a0.toInt a1.toInt).2) ∧ (0 ≤ r.toInt) ∧ (r.toInt ≤ 3) ∧ (r.toInt = dirI a0.toInt a1.toInt))) A) args s 0 0 A := ⟨_, rfl⟩
  rw [← hQ]
  obtain ⟨FT, hFT⟩ : ∃ z, z = f_X12_directionBy (xso SM ad ws0) a0.toInt a1.toInt := ⟨_, rfl⟩
  have HE : FT = f_X12_directionBy (xso SM ad ws0) a0.toInt a1.toInt := hFT
  refine lv_iload_n C0.1 C0.2.1 dX12_directionBy_0 rfl (lv_at hl 0 rfl) ?_
  refine lv_iload_n C0.1 C0.2.1 dX12_directionBy_1 rfl (lv_at hl 1 rfl) ?_
  refine y_c1 (n := 2) C0 (by decide) dX12_directionBy_2 (fun v_1 e_2 => ?_)
  replace HE : FT = g1b_X12_directionBy (xso SM ad ws0) a1.toInt a0.toInt := HE.trans rfl
  refine y_icmp_ne (tgt := 10) C0 dX12_directionBy_3 (by decide) (fun c_3 => ?_) (fun c_3 => ?_)
  · -- 3
    replace HE : FT = g2_X12_directionBy (xso SM ad ws0) a0.toInt a1.toInt := HE.trans (if_neg (o32_76 l1 u1 e_2 c_3))
    refine lv_iload_n C0.1 C0.2.1 dX12_directionBy_10 rfl (lv_at hl 1 rfl) ?_
    refine y_c1 (n := 3) C0 (by decide) dX12_directionBy_11 (fun v_4 e_5 => ?_)
    replace HE : FT = g4b_X12_directionBy (xso SM ad ws0) a1.toInt a0.toInt := HE.trans rfl
    refine y_icmp_ne (tgt := 19) C0 dX12_directionBy_12 (by decide) (fun c_6 => ?_) (fun c_6 => ?_)
    · -- 12
      replace HE : FT = g5_X12_directionBy (xso SM ad ws0) a0.toInt a1.toInt := HE.trans (if_neg (o32_79 l1 u1 e_2 c_3 e_5 c_6))
      refine lv_iload_n C0.1 C0.2.1 dX12_directionBy_19 rfl (lv_at hl 1 rfl) ?_
      refine y_add C0 (o32_81 l0 u0 l1 u1 e_2 c_3 e_5 c_6 (le_min a0) (le_max a0) (le_min a1) (le_max a1) (le_min v_1) (le_max v_1) (le_min v_4) (le_max v_4)) (o32_82 l0 u0 l1 u1 e_2 c_3 e_5 c_6 (le_min a0) (le_max a0) (le_min a1) (le_max a1) (le_min v_1) (le_max v_1) (le_min v_4) (le_max v_4)) dX12_directionBy_20 (fun v_7 e_8 => ?_)
      refine y_c1 (n := 4) C0 (by decide) dX12_directionBy_21 (fun v_9 e_10 => ?_)
      refine y_remc (n := 4) C0 (o32_83 e_10) (by decide) (o32_84 l0 u0 l1 u1 e_2 c_3 e_5 c_6 e_8) dX12_directionBy_22 (fun v_11 e_12 => ?_)
      replace HE : FT = ((xso SM ad ws0), v_11.toInt) := HE.trans (by rw [e_12, e_8]; rfl)
      have g_13 : v_11.toInt = dirI a0.toInt a1.toInt := by
        unfold dirI
        (repeat' split) <;> omega
      rw [hQ]
      exact y_iret C0 h Fr.rf ⟨(congrArg Prod.fst (HE.symm.trans hFT)), (congrArg Prod.snd (HE.symm.trans hFT)), (o32_85 l0 u0 l1 u1 e_2 c_3 e_5 c_6 e_8 e_12), (o32_86 l0 u0 l1 u1 e_2 c_3 e_5 c_6 e_8 e_12), g_13⟩ dX12_directionBy_23
    · -- 12
      replace HE : FT = g6_X12_directionBy (xso SM ad ws0) a0.toInt := HE.trans (if_pos (o32_80 l1 u1 e_2 c_3 e_5 c_6))
      refine y_c1 (n := 2) C0 (by decide) dX12_directionBy_15 (fun v_14 e_15 => ?_)
      refine lv_goto (tgt := 20) C0.1 C0.2.1 dX12_directionBy_16 (by decide) ?_
      refine y_add C0 (o32_87 l0 u0 e_15 (le_min a0) (le_max a0) (le_min v_14) (le_max v_14)) (o32_88 l0 u0 e_15 (le_min a0) (le_max a0) (le_min v_14) (le_max v_14)) dX12_directionBy_20 (fun v_16 e_17 => ?_)
      refine y_c1 (n := 4) C0 (by decide) dX12_directionBy_21 (fun v_18 e_19 => ?_)
      refine y_remc (n := 4) C0 (o32_83 e_19) (by decide) (o32_89 l0 u0 e_15 e_17) dX12_directionBy_22 (fun v_20 e_21 => ?_)
      replace HE : FT = ((xso SM ad ws0), v_20.toInt) := HE.trans (by rw [e_21, e_17, e_15]; rfl)
      have g_22 : v_20.toInt = dirI a0.toInt a1.toInt := by
        unfold dirI
        (repeat' split) <;> omega
      rw [hQ]
      exact y_iret C0 h Fr.rf ⟨(congrArg Prod.fst (HE.symm.trans hFT)), (congrArg Prod.snd (HE.symm.trans hFT)), (o32_90 l0 u0 e_15 e_17 e_21), (o32_91 l0 u0 e_15 e_17 e_21), g_22⟩ dX12_directionBy_23
  · -- 3
    replace HE : FT = g3_X12_directionBy (xso SM ad ws0) a0.toInt := HE.trans (if_pos (o32_77 l1 u1 e_2 c_3))
    refine y_c1 (n := 3) C0 (by decide) dX12_directionBy_6 (fun v_23 e_24 => ?_)
    refine lv_goto (tgt := 20) C0.1 C0.2.1 dX12_directionBy_7 (by decide) ?_
    refine y_add C0 (o32_92 l0 u0 e_24 (le_min a0) (le_max a0) (le_min v_23) (le_max v_23)) (o32_93 l0 u0 e_24 (le_min a0) (le_max a0) (le_min v_23) (le_max v_23)) dX12_directionBy_20 (fun v_25 e_26 => ?_)
    refine y_c1 (n := 4) C0 (by decide) dX12_directionBy_21 (fun v_27 e_28 => ?_)
    refine y_remc (n := 4) C0 (o32_83 e_28) (by decide) (o32_94 l0 u0 e_24 e_26) dX12_directionBy_22 (fun v_29 e_30 => ?_)
    replace HE : FT = ((xso SM ad ws0), v_29.toInt) := HE.trans (by rw [e_30, e_26, e_24]; rfl)
    have g_31 : v_29.toInt = dirI a0.toInt a1.toInt := by
      unfold dirI
      (repeat' split) <;> omega
    rw [hQ]
    exact y_iret C0 h Fr.rf ⟨(congrArg Prod.fst (HE.symm.trans hFT)), (congrArg Prod.snd (HE.symm.trans hFT)), (o32_95 l0 u0 e_24 e_26 e_30), (o32_96 l0 u0 e_24 e_26 e_30), g_31⟩ dX12_directionBy_23
noncomputable def g2_X12_leftsOf (s : XS) (a0 : Int) : XR := (s, (a0 - 1))
noncomputable def g3_X12_leftsOf (s : XS) : XR := (s, 0)
noncomputable def g1b_X12_leftsOf (s : XS) (a0 : Int) : XR := if a0 < 2 then g3_X12_leftsOf s else g2_X12_leftsOf s a0
noncomputable def f_X12_leftsOf (s : XS) (a0 : Int) : XR := g1b_X12_leftsOf s a0
set_option maxHeartbeats 4000000 in
set_option maxRecDepth 100000 in
theorem c_X12_leftsOf (l : Launch) (G : GG) (Z : RZ) (ad : Nat → Nat) (ws0 : va_W) (hT : Ty G SM ad ws0) (a0 : Int32) (l0 : 0 ≤ a0.toInt) (u0 : a0.toInt ≤ 3) : Mq l yX12_leftsOf cX12_leftsOf 1 (some .int) 1 G Z [.int a0] ws0 (PI G SM ad [] ws0 (fun r u => (xso SM ad u = (f_X12_leftsOf (xso SM ad ws0) a0.toInt).1) ∧ (r.toInt = (f_X12_leftsOf (xso SM ad ws0) a0.toInt).2) ∧ (0 ≤ r.toInt) ∧ (r.toInt ≤ 2) ∧ (((a0.toInt < 2 ∧ r.toInt = 0) ∨ (2 ≤ a0.toInt ∧ r.toInt = a0.toInt - 1))))) := by
  refine Mq.start (by decide) (Nat.le_of_ble_eq_true rfl) ?_
  intro p e s m below meth c A ls C0 hZ h hl
  have hl : lv_has ls 1 [(0, .int a0)] := hl
  have h : Wt G SM ad A s s.heap [] ws0 := ⟨h, hT⟩
  obtain ⟨args, hargs⟩ : ∃ z, z = ([.int a0] : List Value).toArray := ⟨_, rfl⟩
  rw [← hargs] at C0 ⊢
  have C0 : Cx p s m args meth c RX12 cX12_leftsOf 1 (some .int) := C0
  obtain ⟨Q, hQ⟩ : ∃ z, z = MQ below ((PI G SM ad [] ws0 (fun r u => (xso SM ad u = (f_X12_leftsOf (xso SM ad ws0) a0.toInt).1) ∧ (r.toInt = (f_X12_leftsOf (xso SM ad ws0) a0.toInt).2) ∧ (0 ≤ r.toInt) ∧ (r.toInt ≤ 2) ∧ (((a0.toInt < 2 ∧ r.toInt = 0) ∨ (2 ≤ a0.toInt ∧ r.toInt = a0.toInt - 1))))) A) args s 0 0 A := ⟨_, rfl⟩
  rw [← hQ]
  obtain ⟨FT, hFT⟩ : ∃ z, z = f_X12_leftsOf (xso SM ad ws0) a0.toInt := ⟨_, rfl⟩
  have HE : FT = f_X12_leftsOf (xso SM ad ws0) a0.toInt := hFT
  refine lv_iload_n C0.1 C0.2.1 dX12_leftsOf_0 rfl (lv_at hl 0 rfl) ?_
  refine y_c1 (n := 2) C0 (by decide) dX12_leftsOf_1 (fun v_1 e_2 => ?_)
  replace HE : FT = g1b_X12_leftsOf (xso SM ad ws0) a0.toInt := HE.trans rfl
  refine y_icmp_ge (tgt := 9) C0 dX12_leftsOf_2 (by decide) (fun c_3 => ?_) (fun c_3 => ?_)
  · -- 2
    replace HE : FT = g2_X12_leftsOf (xso SM ad ws0) a0.toInt := HE.trans (if_neg (o32_97 l0 u0 e_2 c_3))
    refine lv_iload_n C0.1 C0.2.1 dX12_leftsOf_9 rfl (lv_at hl 0 rfl) ?_
    refine y_c1 (n := 1) C0 (by decide) dX12_leftsOf_10 (fun v_4 e_5 => ?_)
    refine y_sub C0 (o32_99 l0 u0 e_2 c_3 e_5 (le_min a0) (le_max a0) (le_min v_4) (le_max v_4) (le_min v_1) (le_max v_1)) (o32_100 l0 u0 e_2 c_3 e_5 (le_min a0) (le_max a0) (le_min v_4) (le_max v_4) (le_min v_1) (le_max v_1)) dX12_leftsOf_11 (fun v_6 e_7 => ?_)
    replace HE : FT = ((xso SM ad ws0), v_6.toInt) := HE.trans (by rw [e_7, e_5]; rfl)
    rw [hQ]
    exact y_iret C0 h Fr.rf ⟨(congrArg Prod.fst (HE.symm.trans hFT)), (congrArg Prod.snd (HE.symm.trans hFT)), (o32_101 l0 u0 e_2 c_3 e_5 e_7), (o32_102 l0 u0 e_2 c_3 e_5 e_7), (o32_103 l0 u0 e_2 c_3 e_5 e_7)⟩ dX12_leftsOf_12
  · -- 2
    replace HE : FT = g3_X12_leftsOf (xso SM ad ws0) := HE.trans (if_pos (o32_98 l0 u0 e_2 c_3))
    refine y_c1 (n := 0) C0 (by decide) dX12_leftsOf_5 (fun v_8 e_9 => ?_)
    refine lv_goto (tgt := 12) C0.1 C0.2.1 dX12_leftsOf_6 (by decide) ?_
    replace HE : FT = ((xso SM ad ws0), v_8.toInt) := HE.trans (by rw [e_9]; rfl)
    rw [hQ]
    exact y_iret C0 h Fr.rf ⟨(congrArg Prod.fst (HE.symm.trans hFT)), (congrArg Prod.snd (HE.symm.trans hFT)), (o32_1 e_9), (o32_104 e_9), (o32_105 l0 u0 e_2 c_3 e_9)⟩ dX12_leftsOf_12
noncomputable def g15_X12_beyond (s : XS) : XR := (s, ((-1)))
noncomputable def g19_X12_beyond (s : XS) : XR := (s, ((-1)))
noncomputable def g20_X12_beyond (s : XS) (v_22 : Int) (v_44 : Int) : XR := (s, (((s 1 1 (Int.toNat 1)) * v_44) + v_22))
noncomputable def g18b_X12_beyond (s : XS) (r_104 : Int) (v_22 : Int) (v_44 : Int) : XR := if r_104 = 0 then g19_X12_beyond s else g20_X12_beyond s v_22 v_44
noncomputable def g17c_X12_beyond (s : XS) (r_104 : Int) (v_22 : Int) (v_44 : Int) : XR := g18b_X12_beyond s r_104 v_22 v_44
noncomputable def g16_X12_beyond (s : XS) (v_22 : Int) (v_44 : Int) : XR := g17c_X12_beyond ((f_X12_within s v_44 0 (((s 1 1 (Int.toNat 2)) - 1))).1) (((f_X12_within s v_44 0 (((s 1 1 (Int.toNat 2)) - 1))).2)) v_22 v_44
noncomputable def g14b_X12_beyond (s : XS) (r_69 : Int) (v_22 : Int) (v_44 : Int) : XR := if r_69 = 0 then g15_X12_beyond s else g16_X12_beyond s v_22 v_44
noncomputable def g13c_X12_beyond (s : XS) (r_69 : Int) (v_22 : Int) (v_44 : Int) : XR := g14b_X12_beyond s r_69 v_22 v_44
noncomputable def g11_X12_beyond (s : XS) (v_34 : Int) (v_22 : Int) : XR := g13c_X12_beyond ((f_X12_within s v_22 0 (((s 1 1 (Int.toNat 1)) - 1))).1) (((f_X12_within s v_22 0 (((s 1 1 (Int.toNat 1)) - 1))).2)) v_22 ((v_34 + 0))
noncomputable def g23_X12_beyond (s : XS) : XR := (s, ((-1)))
noncomputable def g27_X12_beyond (s : XS) : XR := (s, ((-1)))
noncomputable def g28_X12_beyond (s : XS) (v_22 : Int) (v_133 : Int) : XR := (s, (((s 1 1 (Int.toNat 1)) * v_133) + v_22))
noncomputable def g26b_X12_beyond (s : XS) (r_193 : Int) (v_22 : Int) (v_133 : Int) : XR := if r_193 = 0 then g27_X12_beyond s else g28_X12_beyond s v_22 v_133
noncomputable def g25c_X12_beyond (s : XS) (r_193 : Int) (v_22 : Int) (v_133 : Int) : XR := g26b_X12_beyond s r_193 v_22 v_133
noncomputable def g24_X12_beyond (s : XS) (v_22 : Int) (v_133 : Int) : XR := g25c_X12_beyond ((f_X12_within s v_133 0 (((s 1 1 (Int.toNat 2)) - 1))).1) (((f_X12_within s v_133 0 (((s 1 1 (Int.toNat 2)) - 1))).2)) v_22 v_133
noncomputable def g22b_X12_beyond (s : XS) (r_158 : Int) (v_22 : Int) (v_133 : Int) : XR := if r_158 = 0 then g23_X12_beyond s else g24_X12_beyond s v_22 v_133
noncomputable def g21c_X12_beyond (s : XS) (r_158 : Int) (v_22 : Int) (v_133 : Int) : XR := g22b_X12_beyond s r_158 v_22 v_133
noncomputable def g12_X12_beyond (s : XS) (v_34 : Int) (v_22 : Int) : XR := g21c_X12_beyond ((f_X12_within s v_22 0 (((s 1 1 (Int.toNat 1)) - 1))).1) (((f_X12_within s v_22 0 (((s 1 1 (Int.toNat 1)) - 1))).2)) v_22 ((v_34 + ((-1))))
noncomputable def g10b_X12_beyond (s : XS) (a2 : Int) (v_34 : Int) (v_22 : Int) : XR := if a2 = 0 then g12_X12_beyond s v_34 v_22 else g11_X12_beyond s v_34 v_22
noncomputable def g8_X12_beyond (s : XS) (v_34 : Int) (a2 : Int) (v_22 : Int) : XR := g10b_X12_beyond s a2 v_34 v_22
noncomputable def g31_X12_beyond (s : XS) : XR := (s, ((-1)))
noncomputable def g35_X12_beyond (s : XS) : XR := (s, ((-1)))
noncomputable def g36_X12_beyond (s : XS) (v_22 : Int) (v_222 : Int) : XR := (s, (((s 1 1 (Int.toNat 1)) * v_222) + v_22))
noncomputable def g34b_X12_beyond (s : XS) (r_282 : Int) (v_22 : Int) (v_222 : Int) : XR := if r_282 = 0 then g35_X12_beyond s else g36_X12_beyond s v_22 v_222
noncomputable def g33c_X12_beyond (s : XS) (r_282 : Int) (v_22 : Int) (v_222 : Int) : XR := g34b_X12_beyond s r_282 v_22 v_222
noncomputable def g32_X12_beyond (s : XS) (v_22 : Int) (v_222 : Int) : XR := g33c_X12_beyond ((f_X12_within s v_222 0 (((s 1 1 (Int.toNat 2)) - 1))).1) (((f_X12_within s v_222 0 (((s 1 1 (Int.toNat 2)) - 1))).2)) v_22 v_222
noncomputable def g30b_X12_beyond (s : XS) (r_247 : Int) (v_22 : Int) (v_222 : Int) : XR := if r_247 = 0 then g31_X12_beyond s else g32_X12_beyond s v_22 v_222
noncomputable def g29c_X12_beyond (s : XS) (r_247 : Int) (v_22 : Int) (v_222 : Int) : XR := g30b_X12_beyond s r_247 v_22 v_222
noncomputable def g9_X12_beyond (s : XS) (v_34 : Int) (v_22 : Int) : XR := g29c_X12_beyond ((f_X12_within s v_22 0 (((s 1 1 (Int.toNat 1)) - 1))).1) (((f_X12_within s v_22 0 (((s 1 1 (Int.toNat 1)) - 1))).2)) v_22 ((v_34 + 1))
noncomputable def g7b_X12_beyond (s : XS) (a2 : Int) (v_34 : Int) (v_22 : Int) : XR := if a2 = 2 then g9_X12_beyond s v_34 v_22 else g8_X12_beyond s v_34 a2 v_22
noncomputable def g5_X12_beyond (s : XS) (v_10 : Int) (a1 : Int) (a2 : Int) : XR := g7b_X12_beyond s a2 ((a1 / (s 1 1 (Int.toNat 1)))) ((v_10 + 0))
noncomputable def g39_X12_beyond (s : XS) : XR := (s, ((-1)))
noncomputable def g43_X12_beyond (s : XS) : XR := (s, ((-1)))
noncomputable def g44_X12_beyond (s : XS) (v_311 : Int) (v_333 : Int) : XR := (s, (((s 1 1 (Int.toNat 1)) * v_333) + v_311))
noncomputable def g42b_X12_beyond (s : XS) (r_393 : Int) (v_311 : Int) (v_333 : Int) : XR := if r_393 = 0 then g43_X12_beyond s else g44_X12_beyond s v_311 v_333
noncomputable def g41c_X12_beyond (s : XS) (r_393 : Int) (v_311 : Int) (v_333 : Int) : XR := g42b_X12_beyond s r_393 v_311 v_333
noncomputable def g40_X12_beyond (s : XS) (v_311 : Int) (v_333 : Int) : XR := g41c_X12_beyond ((f_X12_within s v_333 0 (((s 1 1 (Int.toNat 2)) - 1))).1) (((f_X12_within s v_333 0 (((s 1 1 (Int.toNat 2)) - 1))).2)) v_311 v_333
noncomputable def g38b_X12_beyond (s : XS) (r_358 : Int) (v_311 : Int) (v_333 : Int) : XR := if r_358 = 0 then g39_X12_beyond s else g40_X12_beyond s v_311 v_333
noncomputable def g37c_X12_beyond (s : XS) (r_358 : Int) (v_311 : Int) (v_333 : Int) : XR := g38b_X12_beyond s r_358 v_311 v_333
noncomputable def g6_X12_beyond (s : XS) (v_10 : Int) (a1 : Int) : XR := g37c_X12_beyond ((f_X12_within s ((v_10 + ((-1)))) 0 (((s 1 1 (Int.toNat 1)) - 1))).1) (((f_X12_within s ((v_10 + ((-1)))) 0 (((s 1 1 (Int.toNat 1)) - 1))).2)) ((v_10 + ((-1)))) (((a1 / (s 1 1 (Int.toNat 1))) + 0))
noncomputable def g4b_X12_beyond (s : XS) (a2 : Int) (v_10 : Int) (a1 : Int) : XR := if a2 = 3 then g6_X12_beyond s v_10 a1 else g5_X12_beyond s v_10 a1 a2
noncomputable def g2_X12_beyond (s : XS) (v_10 : Int) (a1 : Int) (a2 : Int) : XR := g4b_X12_beyond s a2 v_10 a1
noncomputable def g47_X12_beyond (s : XS) : XR := (s, ((-1)))
noncomputable def g51_X12_beyond (s : XS) : XR := (s, ((-1)))
noncomputable def g52_X12_beyond (s : XS) (v_422 : Int) (v_444 : Int) : XR := (s, (((s 1 1 (Int.toNat 1)) * v_444) + v_422))
noncomputable def g50b_X12_beyond (s : XS) (r_504 : Int) (v_422 : Int) (v_444 : Int) : XR := if r_504 = 0 then g51_X12_beyond s else g52_X12_beyond s v_422 v_444
noncomputable def g49c_X12_beyond (s : XS) (r_504 : Int) (v_422 : Int) (v_444 : Int) : XR := g50b_X12_beyond s r_504 v_422 v_444
noncomputable def g48_X12_beyond (s : XS) (v_422 : Int) (v_444 : Int) : XR := g49c_X12_beyond ((f_X12_within s v_444 0 (((s 1 1 (Int.toNat 2)) - 1))).1) (((f_X12_within s v_444 0 (((s 1 1 (Int.toNat 2)) - 1))).2)) v_422 v_444
noncomputable def g46b_X12_beyond (s : XS) (r_469 : Int) (v_422 : Int) (v_444 : Int) : XR := if r_469 = 0 then g47_X12_beyond s else g48_X12_beyond s v_422 v_444
noncomputable def g45c_X12_beyond (s : XS) (r_469 : Int) (v_422 : Int) (v_444 : Int) : XR := g46b_X12_beyond s r_469 v_422 v_444
noncomputable def g3_X12_beyond (s : XS) (v_10 : Int) (a1 : Int) : XR := g45c_X12_beyond ((f_X12_within s ((v_10 + 1)) 0 (((s 1 1 (Int.toNat 1)) - 1))).1) (((f_X12_within s ((v_10 + 1)) 0 (((s 1 1 (Int.toNat 1)) - 1))).2)) ((v_10 + 1)) (((a1 / (s 1 1 (Int.toNat 1))) + 0))
noncomputable def g1b_X12_beyond (s : XS) (a2 : Int) (v_10 : Int) (a1 : Int) : XR := if a2 = 1 then g3_X12_beyond s v_10 a1 else g2_X12_beyond s v_10 a1 a2
noncomputable def f_X12_beyond (s : XS) (a1 : Int) (a2 : Int) : XR := g1b_X12_beyond s a2 ((a1 % (s 1 1 (Int.toNat 1)))) a1
set_option maxHeartbeats 4000000 in
set_option maxRecDepth 100000 in
theorem c_X12_beyond (l : Launch) (G : GG) (Z : RZ) (ad : Nat → Nat) (ws0 : va_W) (hT : Ty G SM ad ws0) (a1 : Int32) (a2 : Int32) (l1 : 0 ≤ a1.toInt) (u1 : a1.toInt ≤ 24) (l2 : 0 ≤ a2.toInt) (u2 : a2.toInt ≤ 3) (hLd : Laid ws0) : Mq l yX12_beyond cX12_beyond 5 (some .int) 2 G Z [.ref (ad 1), .int a1, .int a2] ws0 (PI G SM ad [] ws0 (fun r u => (xso SM ad u = (f_X12_beyond (xso SM ad ws0) a1.toInt a2.toInt).1) ∧ (r.toInt = (f_X12_beyond (xso SM ad ws0) a1.toInt a2.toInt).2) ∧ ((-1) ≤ r.toInt) ∧ (r.toInt ≤ 24) ∧ (r.toInt = beyF (aI ws0 1 1).toInt (aI ws0 1 2).toInt a1.toInt a2.toInt))) := by
  refine Mq.start (by decide) (Nat.le_of_ble_eq_true rfl) ?_
  intro p e s m below meth c A ls C0 hZ h hl
  have hl : lv_has ls 5 [(0, .ref (ad 1)), (1, .int a1), (2, .int a2)] := hl
  have h : Wt G SM ad A s s.heap [] ws0 := ⟨h, hT⟩
  obtain ⟨args, hargs⟩ : ∃ z, z = ([.ref (ad 1), .int a1, .int a2] : List Value).toArray := ⟨_, rfl⟩
  rw [← hargs] at C0 ⊢
  have C0 : Cx p s m args meth c RX12 cX12_beyond 5 (some .int) := C0
  obtain ⟨Q, hQ⟩ : ∃ z, z = MQ below ((PI G SM ad [] ws0 (fun r u => (xso SM ad u = (f_X12_beyond (xso SM ad ws0) a1.toInt a2.toInt).1) ∧ (r.toInt = (f_X12_beyond (xso SM ad ws0) a1.toInt a2.toInt).2) ∧ ((-1) ≤ r.toInt) ∧ (r.toInt ≤ 24) ∧ (r.toInt = beyF (aI ws0 1 1).toInt (aI ws0 1 2).toInt a1.toInt a2.toInt))) A) args s 0 0 A := ⟨_, rfl⟩
  rw [← hQ]
  obtain ⟨FT, hFT⟩ : ∃ z, z = f_X12_beyond (xso SM ad ws0) a1.toInt a2.toInt := ⟨_, rfl⟩
  have HE : FT = f_X12_beyond (xso SM ad ws0) a1.toInt a2.toInt := hFT
  refine lv_iload_n C0.1 C0.2.1 dX12_beyond_0 rfl (lv_at hl 1 rfl) ?_
  refine lv_aload_n C0.1 C0.2.1 dX12_beyond_1 rfl (lv_at hl 0 rfl) ?_
  refine y_c1 (n := 1) C0 (by decide) dX12_beyond_2 (fun v_1 e_2 => ?_)
  refine y_iald C0 h kSM_1 rfl (by decide) (o32_5 e_2) (o32_38 e_2) dX12_beyond_3 (fun v_3 e_4 e_5 e_6 => ?_)
  have f_7 := o32_39 v_1.toInt.toNat (o32_40 e_2) (o32_41 e_2)
  have e_8 : aI ws0 1 1 = v_3 := (congrArg (aI ws0 1) (ix_c (c := 1) (o32_42 e_2))).symm.trans e_4
  have e_9 := laid_1 (Laid.pa hLd Pa.rf) e_8
  refine y_remXm C0 (o32_106 (Int.le_trans f_7.1 e_5) (Int.le_trans e_6 f_7.2) e_9) (o32_107 l1 u1) dX12_beyond_4 (fun v_10 e_11 e_12 e_13 => ?_)
  refine lv_iload_n C0.1 C0.2.1 dX12_beyond_5 rfl (lv_at hl 2 rfl) ?_
  refine y_c1 (n := 1) C0 (by decide) dX12_beyond_6 (fun v_14 e_15 => ?_)
  replace HE : FT = g1b_X12_beyond (xso SM ad ws0) a2.toInt v_10.toInt a1.toInt := HE.trans (by rw [e_11, (xg1 e_4 : v_3.toInt = (xso SM ad ws0) 1 1 v_1.toInt.toNat), e_2]; rfl)
  refine y_icmp_ne (tgt := 14) C0 dX12_beyond_7 (by decide) (fun c_16 => ?_) (fun c_16 => ?_)
  · -- 7
    replace HE : FT = g2_X12_beyond (xso SM ad ws0) v_10.toInt a1.toInt a2.toInt := HE.trans (if_neg (o32_108 l2 u2 e_15 c_16))
    refine lv_iload_n C0.1 C0.2.1 dX12_beyond_14 rfl (lv_at hl 2 rfl) ?_
    refine y_c1 (n := 3) C0 (by decide) dX12_beyond_15 (fun v_17 e_18 => ?_)
    replace HE : FT = g4b_X12_beyond (xso SM ad ws0) a2.toInt v_10.toInt a1.toInt := HE.trans rfl
    refine y_icmp_ne (tgt := 23) C0 dX12_beyond_16 (by decide) (fun c_19 => ?_) (fun c_19 => ?_)
    · -- 16
      replace HE : FT = g5_X12_beyond (xso SM ad ws0) v_10.toInt a1.toInt a2.toInt := HE.trans (if_neg (o32_110 l2 u2 e_15 c_16 e_18 c_19))
      refine y_c1 (n := 0) C0 (by decide) dX12_beyond_23 (fun v_20 e_21 => ?_)
      refine y_add C0 (o32_112 l1 u1 (Int.le_trans f_7.1 e_5) (Int.le_trans e_6 f_7.2) e_9 e_11 e_12 e_13 e_21 (le_min v_10) (le_max v_10) (le_min v_20) (le_max v_20) (le_min a1) (le_max a1) (le_min v_3) (le_max v_3)) (o32_113 l1 u1 (Int.le_trans f_7.1 e_5) (Int.le_trans e_6 f_7.2) e_9 e_11 e_12 e_13 e_21 (le_min v_10) (le_max v_10) (le_min v_20) (le_max v_20) (le_min a1) (le_max a1) (le_min v_3) (le_max v_3)) dX12_beyond_24 (fun v_22 e_23 => ?_)
      refine lv_istore_n (lv' := [(3, .int v_22), (0, .ref (ad 1)), (1, .int a1), (2, .int a2)]) C0.1 C0.2.1 dX12_beyond_25 rfl hl (by decide) rfl (fun ls hl => ?_)
      refine lv_iload_n C0.1 C0.2.1 dX12_beyond_26 rfl (lv_at hl 2 rfl) ?_
      refine lv_aload_n C0.1 C0.2.1 dX12_beyond_27 rfl (lv_at hl 1 rfl) ?_
      refine y_c1 (n := 1) C0 (by decide) dX12_beyond_28 (fun v_24 e_25 => ?_)
      refine y_iald C0 h kSM_1 rfl (by decide) (o32_5 e_25) (o32_38 e_25) dX12_beyond_29 (fun v_26 e_27 e_28 e_29 => ?_)
      have f_30 := o32_39 v_24.toInt.toNat (o32_40 e_25) (o32_41 e_25)
      have e_31 : aI ws0 1 1 = v_26 := (congrArg (aI ws0 1) (ix_c (c := 1) (o32_42 e_25))).symm.trans e_27
      have qh_32 : v_26.toInt = v_3.toInt := congrArg Int32.toInt (e_31.symm.trans (Eq.trans rfl e_8))
      have e_33 := laid_1 (Laid.pa hLd Pa.rf) e_31
      refine y_divXm C0 (o32_114 l1 u1 (Int.le_trans f_7.1 e_5) (Int.le_trans e_6 f_7.2) e_9 e_11 e_12 e_13 e_21 e_23 (Int.le_trans f_30.1 e_28) (Int.le_trans e_29 f_30.2) qh_32 e_33) (o32_115 l1 u1 (Int.le_trans f_7.1 e_5) (Int.le_trans e_6 f_7.2) e_9 e_11 e_12 e_13 e_21 e_23 (Int.le_trans f_30.1 e_28) (Int.le_trans e_29 f_30.2) qh_32 e_33) dX12_beyond_30 (fun v_34 e_35 e_36 e_37 => ?_)
      refine lv_iload_n C0.1 C0.2.1 dX12_beyond_31 rfl (lv_at hl 3 rfl) ?_
      refine y_c1 (n := 2) C0 (by decide) dX12_beyond_32 (fun v_38 e_39 => ?_)
      replace HE : FT = g7b_X12_beyond (xso SM ad ws0) a2.toInt v_34.toInt v_22.toInt := HE.trans (by rw [e_23, e_21, e_35, (xg1 e_27 : v_26.toInt = (xso SM ad ws0) 1 1 v_24.toInt.toNat), e_25]; rfl)
      refine y_icmp_ne (tgt := 40) C0 dX12_beyond_33 (by decide) (fun c_40 => ?_) (fun c_40 => ?_)
      · -- 33
        replace HE : FT = g8_X12_beyond (xso SM ad ws0) v_34.toInt a2.toInt v_22.toInt := HE.trans (if_neg (o32_116 l2 u2 e_15 c_16 e_18 c_19 e_39 c_40))
        refine lv_iload_n C0.1 C0.2.1 dX12_beyond_40 rfl (lv_at hl 3 rfl) ?_
        replace HE : FT = g10b_X12_beyond (xso SM ad ws0) a2.toInt v_34.toInt v_22.toInt := HE.trans rfl
        refine y_if_ne (tgt := 48) C0 dX12_beyond_41 (by decide) (fun c_41 => ?_) (fun c_41 => ?_)
        · -- 41
          replace HE : FT = g11_X12_beyond (xso SM ad ws0) v_34.toInt v_22.toInt := HE.trans (if_neg c_41)
          refine y_c1 (n := 0) C0 (by decide) dX12_beyond_48 (fun v_42 e_43 => ?_)
          refine y_add C0 (o32_118 l1 u1 (Int.le_trans f_7.1 e_5) (Int.le_trans e_6 f_7.2) e_9 e_11 e_12 e_13 e_21 e_23 (Int.le_trans f_30.1 e_28) (Int.le_trans e_29 f_30.2) qh_32 e_33 e_35 e_36 e_37 e_43 (le_min v_34) (le_max v_34) (le_min v_42) (le_max v_42) (le_min a1) (le_max a1) (le_min v_3) (le_max v_3) (le_min v_10) (le_max v_10) (le_min v_20) (le_max v_20) (le_min v_22) (le_max v_22) (le_min v_26) (le_max v_26)) (o32_119 l1 u1 (Int.le_trans f_7.1 e_5) (Int.le_trans e_6 f_7.2) e_9 e_11 e_12 e_13 e_21 e_23 (Int.le_trans f_30.1 e_28) (Int.le_trans e_29 f_30.2) qh_32 e_33 e_35 e_36 e_37 e_43 (le_min v_34) (le_max v_34) (le_min v_42) (le_max v_42) (le_min a1) (le_max a1) (le_min v_3) (le_max v_3) (le_min v_10) (le_max v_10) (le_min v_20) (le_max v_20) (le_min v_22) (le_max v_22) (le_min v_26) (le_max v_26)) dX12_beyond_49 (fun v_44 e_45 => ?_)
          refine lv_istore (lv' := [(4, .int v_44), (3, .int v_22), (0, .ref (ad 1)), (1, .int a1), (2, .int a2)]) C0.1 C0.2.1 dX12_beyond_50 hl (by decide) rfl (fun ls hl => ?_)
          refine lv_iload_n C0.1 C0.2.1 dX12_beyond_52 rfl (lv_at hl 1 rfl) ?_
          refine y_i2l C0 dX12_beyond_53 (fun w_46 e_47 => ?_)
          refine y_lc (v := 0) C0 (by decide) dX12_beyond_54 (fun w_48 e_49 => ?_)
          refine lv_aload_n C0.1 C0.2.1 dX12_beyond_55 rfl (lv_at hl 2 rfl) ?_
          refine y_c1 (n := 1) C0 (by decide) dX12_beyond_56 (fun v_50 e_51 => ?_)
          refine y_iald C0 h kSM_1 rfl (by decide) (o32_5 e_51) (o32_38 e_51) dX12_beyond_57 (fun v_52 e_53 e_54 e_55 => ?_)
          have f_56 := o32_39 v_50.toInt.toNat (o32_40 e_51) (o32_41 e_51)
          have e_57 : aI ws0 1 1 = v_52 := (congrArg (aI ws0 1) (ix_c (c := 1) (o32_42 e_51))).symm.trans e_53
          have qh_58 : v_52.toInt = v_3.toInt := congrArg Int32.toInt (e_57.symm.trans (Eq.trans rfl e_8))
          have e_59 := laid_1 (Laid.pa hLd Pa.rf) e_57
          refine y_c1 (n := 1) C0 (by decide) dX12_beyond_58 (fun v_60 e_61 => ?_)
          refine y_sub C0 (o32_120 l1 u1 (Int.le_trans f_7.1 e_5) (Int.le_trans e_6 f_7.2) e_9 e_11 e_12 e_13 e_21 e_23 (Int.le_trans f_30.1 e_28) (Int.le_trans e_29 f_30.2) qh_32 e_33 e_35 e_36 e_37 e_43 e_45 e_47 (Int.le_trans f_56.1 e_54) (Int.le_trans e_55 f_56.2) qh_58 e_59 e_61 (le_min v_52) (le_max v_52) (le_min v_60) (le_max v_60) (le_min a1) (le_max a1) (le_min v_3) (le_max v_3) (le_min v_10) (le_max v_10) (le_min v_20) (le_max v_20) (le_min v_22) (le_max v_22) (le_min v_26) (le_max v_26) (le_min v_34) (le_max v_34) (le_min v_42) (le_max v_42) (le_min v_44) (le_max v_44)) (o32_121 l1 u1 (Int.le_trans f_7.1 e_5) (Int.le_trans e_6 f_7.2) e_9 e_11 e_12 e_13 e_21 e_23 (Int.le_trans f_30.1 e_28) (Int.le_trans e_29 f_30.2) qh_32 e_33 e_35 e_36 e_37 e_43 e_45 e_47 (Int.le_trans f_56.1 e_54) (Int.le_trans e_55 f_56.2) qh_58 e_59 e_61 (le_min v_52) (le_max v_52) (le_min v_60) (le_max v_60) (le_min a1) (le_max a1) (le_min v_3) (le_max v_3) (le_min v_10) (le_max v_10) (le_min v_20) (le_max v_20) (le_min v_22) (le_max v_22) (le_min v_26) (le_max v_26) (le_min v_34) (le_max v_34) (le_min v_42) (le_max v_42) (le_min v_44) (le_max v_44)) dX12_beyond_59 (fun v_62 e_63 => ?_)
          refine y_i2l C0 dX12_beyond_60 (fun w_64 e_65 => ?_)
          refine y_ci h (y_rS (As := [.long w_46, .long w_48, .long w_64]) (rest := []) C0 hZ h (c_X12_within l G Z ad _ h.2 w_46 w_48 w_64) k_X12_within q_1580 q_1579 hl.1 rfl rfl (Nat.le_of_ble_eq_true rfl) dX12_beyond_61 ⟨Nat.le_of_ble_eq_true rfl, Nat.le_of_ble_eq_true rfl⟩ ⟨Nat.le_of_ble_eq_true rfl, Nat.le_of_ble_eq_true rfl⟩) (fun r_69 H locs ws_66 h u_67 p_68 => ?_)
          obtain ⟨e_70, e_71, e_72, e_73, e_74⟩ := p_68
          replace HE : FT = g13c_X12_beyond (xso SM ad ws_66) r_69.toInt v_22.toInt v_44.toInt := HE.trans (by rw [e_70, e_45, e_43, e_71, e_65, e_63, e_61, (xg1 e_53 : v_52.toInt = (xso SM ad ws0) 1 1 v_50.toInt.toNat), e_51, e_49, e_47]; rfl)
          replace HE : FT = g14b_X12_beyond (xso SM ad ws_66) r_69.toInt v_22.toInt v_44.toInt := HE.trans rfl
          refine y_if_eq (tgt := 94) C0 dX12_beyond_64 (by decide) (fun c_75 => ?_) (fun c_75 => ?_)
          · -- 64
            replace HE : FT = g15_X12_beyond (xso SM ad ws_66) := HE.trans (if_pos c_75)
            refine y_c1 (n := (-1)) C0 (by decide) dX12_beyond_94 (fun v_76 e_77 => ?_)
            replace HE : FT = ((xso SM ad ws_66), v_76.toInt) := HE.trans (by rw [e_77]; rfl)
            obtain ⟨f_79, e_80⟩ : ∃ v, aI ws_66 1 2 = v := ⟨_, rfl⟩
            have b_81 := ty_aI 2 h.2 kSM_1 rfl (by decide)
            rw [e_80] at b_81
            have g_78 : v_76.toInt = beyF v_3.toInt f_79.toInt a1.toInt a2.toInt := by
              unfold beyF
              rw [if_neg]
              · omega
              · have hd : v_34.toInt = a1.toInt / v_3.toInt := by rw [e_35, (o32_123 l1 u1 (Int.le_trans f_7.1 e_5) (Int.le_trans e_6 f_7.2) e_9 e_11 e_12 e_13 e_21 e_23 (Int.le_trans f_30.1 e_28) (Int.le_trans e_29 f_30.2) qh_32 e_33 e_35 e_36 e_37 e_43 e_45 e_47 e_49 (Int.le_trans f_56.1 e_54) (Int.le_trans e_55 f_56.2) qh_58 e_59 e_61 e_63 e_65 e_72 e_73 e_74 c_75)]
                intro hq
                obtain ⟨q1, q2, q3, q4⟩ := hq
                (repeat' split at q1) <;> (repeat' split at q3) <;> omega
            rw [hQ]
            exact y_iret C0 h u_67 ⟨(congrArg Prod.fst (HE.symm.trans hFT)), (congrArg Prod.snd (HE.symm.trans hFT)), (o32_12 e_77), (o32_122 e_77), (by rw [e_8, (Eq.trans (Eq.symm (Fr.aI u_67 kSM_1 (by decide))) e_80)]; exact g_78)⟩ dX12_beyond_95
          · -- 64
            replace HE : FT = g16_X12_beyond (xso SM ad ws_66) v_22.toInt v_44.toInt := HE.trans (if_neg c_75)
            refine lv_iload C0.1 C0.2.1 dX12_beyond_67 (lv_at hl 0 rfl) ?_
            refine y_i2l C0 dX12_beyond_69 (fun w_82 e_83 => ?_)
            refine y_lc (v := 0) C0 (by decide) dX12_beyond_70 (fun w_84 e_85 => ?_)
            refine lv_aload_n C0.1 C0.2.1 dX12_beyond_71 rfl (lv_at hl 2 rfl) ?_
            refine y_c1 (n := 2) C0 (by decide) dX12_beyond_72 (fun v_86 e_87 => ?_)
            refine y_iald C0 h kSM_1 rfl (by decide) (o32_43 e_87) (o32_44 e_87) dX12_beyond_73 (fun v_88 e_89 e_90 e_91 => ?_)
            have f_92 := o32_45 v_86.toInt.toNat (o32_46 e_87) (o32_47 e_87)
            have e_93 : aI ws_66 1 2 = v_88 := (congrArg (aI ws_66 1) (ix_c (c := 2) (o32_48 e_87))).symm.trans e_89
            have e_94 := laid_2 (Laid.pa hLd (Pa.fr u_67 (by decide))) e_93
            refine y_c1 (n := 1) C0 (by decide) dX12_beyond_74 (fun v_95 e_96 => ?_)
            refine y_sub C0 (o32_124 (Int.le_trans f_92.1 e_90) (Int.le_trans e_91 f_92.2) e_94 e_96 (le_min v_88) (le_max v_88) (le_min v_95) (le_max v_95)) (o32_125 (Int.le_trans f_92.1 e_90) (Int.le_trans e_91 f_92.2) e_94 e_96 (le_min v_88) (le_max v_88) (le_min v_95) (le_max v_95)) dX12_beyond_75 (fun v_97 e_98 => ?_)
            refine y_i2l C0 dX12_beyond_76 (fun w_99 e_100 => ?_)
            refine y_ci h (y_rS (As := [.long w_82, .long w_84, .long w_99]) (rest := []) C0 hZ h (c_X12_within l G Z ad _ h.2 w_82 w_84 w_99) k_X12_within q_1580 q_1579 hl.1 rfl rfl (Nat.le_of_ble_eq_true rfl) dX12_beyond_77 ⟨Nat.le_of_ble_eq_true rfl, Nat.le_of_ble_eq_true rfl⟩ ⟨Nat.le_of_ble_eq_true rfl, Nat.le_of_ble_eq_true rfl⟩) (fun r_104 H locs ws_101 h u_102 p_103 => ?_)
            obtain ⟨e_105, e_106, e_107, e_108, e_109⟩ := p_103
            replace HE : FT = g17c_X12_beyond (xso SM ad ws_101) r_104.toInt v_22.toInt v_44.toInt := HE.trans (by rw [e_105, e_106, e_100, e_98, e_96, (xg1 e_89 : v_88.toInt = (xso SM ad ws_66) 1 1 v_86.toInt.toNat), e_87, e_85, e_83]; rfl)
            replace HE : FT = g18b_X12_beyond (xso SM ad ws_101) r_104.toInt v_22.toInt v_44.toInt := HE.trans rfl
            refine y_if_eq (tgt := 94) C0 dX12_beyond_80 (by decide) (fun c_110 => ?_) (fun c_110 => ?_)
            · -- 80
              replace HE : FT = g19_X12_beyond (xso SM ad ws_101) := HE.trans (if_pos c_110)
              refine y_c1 (n := (-1)) C0 (by decide) dX12_beyond_94 (fun v_111 e_112 => ?_)
              replace HE : FT = ((xso SM ad ws_101), v_111.toInt) := HE.trans (by rw [e_112]; rfl)
              have g_113 : v_111.toInt = beyF v_3.toInt v_88.toInt a1.toInt a2.toInt := by
                unfold beyF
                rw [if_neg]
                · omega
                · have hd : v_34.toInt = a1.toInt / v_3.toInt := by rw [e_35, (o32_126 l1 u1 (Int.le_trans f_7.1 e_5) (Int.le_trans e_6 f_7.2) e_9 e_11 e_12 e_13 e_21 e_23 (Int.le_trans f_30.1 e_28) (Int.le_trans e_29 f_30.2) qh_32 e_33 e_35 e_36 e_37 e_43 e_45 e_47 e_49 (Int.le_trans f_56.1 e_54) (Int.le_trans e_55 f_56.2) qh_58 e_59 e_61 e_63 e_65 e_72 e_73 e_74 c_75 e_83 e_85 (Int.le_trans f_92.1 e_90) (Int.le_trans e_91 f_92.2) e_94 e_96 e_98 e_100 e_107 e_108 e_109 c_110)]
                  intro hq
                  obtain ⟨q1, q2, q3, q4⟩ := hq
                  (repeat' split at q1) <;> (repeat' split at q3) <;> omega
              rw [hQ]
              exact y_iret C0 h (Fr.tr u_67 u_102) ⟨(congrArg Prod.fst (HE.symm.trans hFT)), (congrArg Prod.snd (HE.symm.trans hFT)), (o32_12 e_112), (o32_122 e_112), (by rw [e_8, (Eq.trans (Eq.symm (Fr.aI u_67 kSM_1 (by decide))) e_93)]; exact g_113)⟩ dX12_beyond_95
            · -- 80
              replace HE : FT = g20_X12_beyond (xso SM ad ws_101) v_22.toInt v_44.toInt := HE.trans (if_neg c_110)
              refine lv_aload_n C0.1 C0.2.1 dX12_beyond_83 rfl (lv_at hl 2 rfl) ?_
              refine y_c1 (n := 1) C0 (by decide) dX12_beyond_84 (fun v_114 e_115 => ?_)
              refine y_iald C0 h kSM_1 rfl (by decide) (o32_5 e_115) (o32_38 e_115) dX12_beyond_85 (fun v_116 e_117 e_118 e_119 => ?_)
              have f_120 := o32_39 v_114.toInt.toNat (o32_40 e_115) (o32_41 e_115)
              have e_121 : aI ws_101 1 1 = v_116 := (congrArg (aI ws_101 1) (ix_c (c := 1) (o32_42 e_115))).symm.trans e_117
              have qh_122 : v_116.toInt = v_3.toInt := congrArg Int32.toInt (e_121.symm.trans (Eq.trans (Eq.trans (Fr.aI u_102 kSM_1 (by decide)) (Fr.aI u_67 kSM_1 (by decide))) e_8))
              have e_123 := laid_1 (Laid.pa hLd (Pa.tr (Pa.fr u_67 (by decide)) (Pa.fr u_102 (by decide)))) e_121
              refine lv_iload C0.1 C0.2.1 dX12_beyond_86 (lv_at hl 0 rfl) ?_
              refine y_mulb (la := 1) (ha := 5) (lb := 0) (hb := 4) C0 (by decide) (o32_127 l1 u1 (Int.le_trans f_7.1 e_5) (Int.le_trans e_6 f_7.2) e_9 e_11 e_12 e_13 e_21 e_23 (Int.le_trans f_30.1 e_28) (Int.le_trans e_29 f_30.2) qh_32 e_33 e_35 e_36 e_37 e_43 e_45 e_47 e_49 (Int.le_trans f_56.1 e_54) (Int.le_trans e_55 f_56.2) qh_58 e_59 e_61 e_63 e_65 e_72 e_73 e_74 c_75 e_83 e_85 (Int.le_trans f_92.1 e_90) (Int.le_trans e_91 f_92.2) e_94 e_96 e_98 e_100 e_107 e_108 e_109 c_110 (Int.le_trans f_120.1 e_118) (Int.le_trans e_119 f_120.2) qh_122 e_123) (o32_128 l1 u1 (Int.le_trans f_7.1 e_5) (Int.le_trans e_6 f_7.2) e_9 e_11 e_12 e_13 e_21 e_23 (Int.le_trans f_30.1 e_28) (Int.le_trans e_29 f_30.2) qh_32 e_33 e_35 e_36 e_37 e_43 e_45 e_47 e_49 (Int.le_trans f_56.1 e_54) (Int.le_trans e_55 f_56.2) qh_58 e_59 e_61 e_63 e_65 e_72 e_73 e_74 c_75 e_83 e_85 (Int.le_trans f_92.1 e_90) (Int.le_trans e_91 f_92.2) e_94 e_96 e_98 e_100 e_107 e_108 e_109 c_110 (Int.le_trans f_120.1 e_118) (Int.le_trans e_119 f_120.2) qh_122 e_123) (by decide) (o32_129 l1 u1 (Int.le_trans f_7.1 e_5) (Int.le_trans e_6 f_7.2) e_9 e_11 e_12 e_13 e_21 e_23 (Int.le_trans f_30.1 e_28) (Int.le_trans e_29 f_30.2) qh_32 e_33 e_35 e_36 e_37 e_43 e_45 e_47 e_49 (Int.le_trans f_56.1 e_54) (Int.le_trans e_55 f_56.2) qh_58 e_59 e_61 e_63 e_65 e_72 e_73 e_74 c_75 e_83 e_85 (Int.le_trans f_92.1 e_90) (Int.le_trans e_91 f_92.2) e_94 e_96 e_98 e_100 e_107 e_108 e_109 c_110 (Int.le_trans f_120.1 e_118) (Int.le_trans e_119 f_120.2) qh_122 e_123) (o32_130 l1 u1 (Int.le_trans f_7.1 e_5) (Int.le_trans e_6 f_7.2) e_9 e_11 e_12 e_13 e_21 e_23 (Int.le_trans f_30.1 e_28) (Int.le_trans e_29 f_30.2) qh_32 e_33 e_35 e_36 e_37 e_43 e_45 e_47 e_49 (Int.le_trans f_56.1 e_54) (Int.le_trans e_55 f_56.2) qh_58 e_59 e_61 e_63 e_65 e_72 e_73 e_74 c_75 e_83 e_85 (Int.le_trans f_92.1 e_90) (Int.le_trans e_91 f_92.2) e_94 e_96 e_98 e_100 e_107 e_108 e_109 c_110 (Int.le_trans f_120.1 e_118) (Int.le_trans e_119 f_120.2) qh_122 e_123) (by decide) dX12_beyond_88 (fun v_124 e_125 e_126 e_127 => ?_)
              refine lv_iload_n C0.1 C0.2.1 dX12_beyond_89 rfl (lv_at hl 1 rfl) ?_
              refine y_add C0 (o32_131 l1 u1 (Int.le_trans f_7.1 e_5) (Int.le_trans e_6 f_7.2) e_9 e_11 e_12 e_13 e_21 e_23 (Int.le_trans f_30.1 e_28) (Int.le_trans e_29 f_30.2) qh_32 e_33 e_35 e_36 e_37 e_43 e_45 e_47 e_49 (Int.le_trans f_56.1 e_54) (Int.le_trans e_55 f_56.2) qh_58 e_59 e_61 e_63 e_65 e_72 e_73 e_74 c_75 e_83 e_85 (Int.le_trans f_92.1 e_90) (Int.le_trans e_91 f_92.2) e_94 e_96 e_98 e_100 e_107 e_108 e_109 c_110 (Int.le_trans f_120.1 e_118) (Int.le_trans e_119 f_120.2) qh_122 e_123 e_126 e_127 (le_min v_124) (le_max v_124) (le_min v_22) (le_max v_22) (le_min a1) (le_max a1) (le_min v_3) (le_max v_3) (le_min v_10) (le_max v_10) (le_min v_20) (le_max v_20) (le_min v_26) (le_max v_26) (le_min v_34) (le_max v_34) (le_min v_42) (le_max v_42) (le_min v_44) (le_max v_44) (le_min v_52) (le_max v_52) (le_min v_60) (le_max v_60) (le_min v_62) (le_max v_62) (le_min r_69) (le_max r_69) (le_min v_88) (le_max v_88) (le_min v_95) (le_max v_95) (le_min v_97) (le_max v_97) (le_min r_104) (le_max r_104) (le_min v_116) (le_max v_116)) (o32_132 l1 u1 (Int.le_trans f_7.1 e_5) (Int.le_trans e_6 f_7.2) e_9 e_11 e_12 e_13 e_21 e_23 (Int.le_trans f_30.1 e_28) (Int.le_trans e_29 f_30.2) qh_32 e_33 e_35 e_36 e_37 e_43 e_45 e_47 e_49 (Int.le_trans f_56.1 e_54) (Int.le_trans e_55 f_56.2) qh_58 e_59 e_61 e_63 e_65 e_72 e_73 e_74 c_75 e_83 e_85 (Int.le_trans f_92.1 e_90) (Int.le_trans e_91 f_92.2) e_94 e_96 e_98 e_100 e_107 e_108 e_109 c_110 (Int.le_trans f_120.1 e_118) (Int.le_trans e_119 f_120.2) qh_122 e_123 e_126 e_127 (le_min v_124) (le_max v_124) (le_min v_22) (le_max v_22) (le_min a1) (le_max a1) (le_min v_3) (le_max v_3) (le_min v_10) (le_max v_10) (le_min v_20) (le_max v_20) (le_min v_26) (le_max v_26) (le_min v_34) (le_max v_34) (le_min v_42) (le_max v_42) (le_min v_44) (le_max v_44) (le_min v_52) (le_max v_52) (le_min v_60) (le_max v_60) (le_min v_62) (le_max v_62) (le_min r_69) (le_max r_69) (le_min v_88) (le_max v_88) (le_min v_95) (le_max v_95) (le_min v_97) (le_max v_97) (le_min r_104) (le_max r_104) (le_min v_116) (le_max v_116)) dX12_beyond_90 (fun v_128 e_129 => ?_)
              refine lv_goto (tgt := 95) C0.1 C0.2.1 dX12_beyond_91 (by decide) ?_
              replace HE : FT = ((xso SM ad ws_101), v_128.toInt) := HE.trans (by rw [e_129, e_125, (xg1 e_117 : v_116.toInt = (xso SM ad ws_101) 1 1 v_114.toInt.toNat), e_115]; rfl)
              have g_130 : v_128.toInt = beyF v_3.toInt v_88.toInt a1.toInt a2.toInt := by
                unfold beyF
                have hm : v_116.toInt * v_44.toInt = v_3.toInt * v_44.toInt := by rw [(o32_135 l1 u1 (Int.le_trans f_7.1 e_5) (Int.le_trans e_6 f_7.2) e_9 e_11 e_12 e_13 e_21 e_23 (Int.le_trans f_30.1 e_28) (Int.le_trans e_29 f_30.2) qh_32 e_33 e_35 e_36 e_37 e_43 e_45 e_47 e_49 (Int.le_trans f_56.1 e_54) (Int.le_trans e_55 f_56.2) qh_58 e_59 e_61 e_63 e_65 e_72 e_73 e_74 c_75 e_83 e_85 (Int.le_trans f_92.1 e_90) (Int.le_trans e_91 f_92.2) e_94 e_96 e_98 e_100 e_107 e_108 e_109 c_110 (Int.le_trans f_120.1 e_118) (Int.le_trans e_119 f_120.2) qh_122 e_123 e_126 e_127 e_129)]
                have hy : v_44.toInt = a1.toInt / v_3.toInt + (if a2.toInt = 2 then 1 else if a2.toInt = 0 then -1 else 0) := by
                  have hd : v_34.toInt = a1.toInt / v_3.toInt := by rw [e_35, (o32_137 l1 u1 (Int.le_trans f_7.1 e_5) (Int.le_trans e_6 f_7.2) e_9 e_11 e_12 e_13 e_21 e_23 (Int.le_trans f_30.1 e_28) (Int.le_trans e_29 f_30.2) qh_32 e_33 e_35 e_36 e_37 e_43 e_45 e_47 e_49 (Int.le_trans f_56.1 e_54) (Int.le_trans e_55 f_56.2) qh_58 e_59 e_61 e_63 e_65 e_72 e_73 e_74 c_75 e_83 e_85 (Int.le_trans f_92.1 e_90) (Int.le_trans e_91 f_92.2) e_94 e_96 e_98 e_100 e_107 e_108 e_109 c_110 (Int.le_trans f_120.1 e_118) (Int.le_trans e_119 f_120.2) qh_122 e_123 e_126 e_127 e_129)]
                  (repeat' split) <;> omega
                rw [← hy, if_pos (by refine ⟨?_, ?_, ?_, ?_⟩ <;> (repeat' split) <;> omega)]
                (repeat' split) <;> omega
              rw [hQ]
              exact y_iret C0 h (Fr.tr u_67 u_102) ⟨(congrArg Prod.fst (HE.symm.trans hFT)), (congrArg Prod.snd (HE.symm.trans hFT)), (o32_133 l1 u1 (Int.le_trans f_7.1 e_5) (Int.le_trans e_6 f_7.2) e_9 e_11 e_12 e_13 e_21 e_23 (Int.le_trans f_30.1 e_28) (Int.le_trans e_29 f_30.2) qh_32 e_33 e_35 e_36 e_37 e_43 e_45 e_47 e_49 (Int.le_trans f_56.1 e_54) (Int.le_trans e_55 f_56.2) qh_58 e_59 e_61 e_63 e_65 e_72 e_73 e_74 c_75 e_83 e_85 e_98 e_100 e_107 e_108 e_109 c_110 (Int.le_trans f_120.1 e_118) (Int.le_trans e_119 f_120.2) qh_122 e_123 e_126 e_127 e_129), (o32_134 l1 u1 (Int.le_trans f_7.1 e_5) (Int.le_trans e_6 f_7.2) e_9 e_11 e_12 e_13 e_21 e_23 (Int.le_trans f_30.1 e_28) (Int.le_trans e_29 f_30.2) qh_32 e_33 e_35 e_36 e_37 e_43 e_45 e_47 e_49 (Int.le_trans f_56.1 e_54) (Int.le_trans e_55 f_56.2) qh_58 e_59 e_61 e_63 e_65 e_72 e_73 e_74 c_75 e_83 e_85 e_98 e_100 e_107 e_108 e_109 c_110 (Int.le_trans f_120.1 e_118) (Int.le_trans e_119 f_120.2) qh_122 e_123 e_126 e_127 e_129), (by rw [e_8, (Eq.trans (Eq.symm (Fr.aI u_67 kSM_1 (by decide))) e_93)]; exact g_130)⟩ dX12_beyond_95
        · -- 41
          replace HE : FT = g12_X12_beyond (xso SM ad ws0) v_34.toInt v_22.toInt := HE.trans (if_pos c_41)
          refine y_c1 (n := (-1)) C0 (by decide) dX12_beyond_44 (fun v_131 e_132 => ?_)
          refine lv_goto (tgt := 49) C0.1 C0.2.1 dX12_beyond_45 (by decide) ?_
          refine y_add C0 (o32_138 l1 u1 (Int.le_trans f_7.1 e_5) (Int.le_trans e_6 f_7.2) e_9 e_11 e_12 e_13 e_21 e_23 (Int.le_trans f_30.1 e_28) (Int.le_trans e_29 f_30.2) qh_32 e_33 e_35 e_36 e_37 e_132 (le_min v_34) (le_max v_34) (le_min v_131) (le_max v_131) (le_min a1) (le_max a1) (le_min v_3) (le_max v_3) (le_min v_10) (le_max v_10) (le_min v_20) (le_max v_20) (le_min v_22) (le_max v_22) (le_min v_26) (le_max v_26)) (o32_139 l1 u1 (Int.le_trans f_7.1 e_5) (Int.le_trans e_6 f_7.2) e_9 e_11 e_12 e_13 e_21 e_23 (Int.le_trans f_30.1 e_28) (Int.le_trans e_29 f_30.2) qh_32 e_33 e_35 e_36 e_37 e_132 (le_min v_34) (le_max v_34) (le_min v_131) (le_max v_131) (le_min a1) (le_max a1) (le_min v_3) (le_max v_3) (le_min v_10) (le_max v_10) (le_min v_20) (le_max v_20) (le_min v_22) (le_max v_22) (le_min v_26) (le_max v_26)) dX12_beyond_49 (fun v_133 e_134 => ?_)
          refine lv_istore (lv' := [(4, .int v_133), (3, .int v_22), (0, .ref (ad 1)), (1, .int a1), (2, .int a2)]) C0.1 C0.2.1 dX12_beyond_50 hl (by decide) rfl (fun ls hl => ?_)
          refine lv_iload_n C0.1 C0.2.1 dX12_beyond_52 rfl (lv_at hl 1 rfl) ?_
          refine y_i2l C0 dX12_beyond_53 (fun w_135 e_136 => ?_)
          refine y_lc (v := 0) C0 (by decide) dX12_beyond_54 (fun w_137 e_138 => ?_)
          refine lv_aload_n C0.1 C0.2.1 dX12_beyond_55 rfl (lv_at hl 2 rfl) ?_
          refine y_c1 (n := 1) C0 (by decide) dX12_beyond_56 (fun v_139 e_140 => ?_)
          refine y_iald C0 h kSM_1 rfl (by decide) (o32_5 e_140) (o32_38 e_140) dX12_beyond_57 (fun v_141 e_142 e_143 e_144 => ?_)
          have f_145 := o32_39 v_139.toInt.toNat (o32_40 e_140) (o32_41 e_140)
          have e_146 : aI ws0 1 1 = v_141 := (congrArg (aI ws0 1) (ix_c (c := 1) (o32_42 e_140))).symm.trans e_142
          have qh_147 : v_141.toInt = v_3.toInt := congrArg Int32.toInt (e_146.symm.trans (Eq.trans rfl e_8))
          have e_148 := laid_1 (Laid.pa hLd Pa.rf) e_146
          refine y_c1 (n := 1) C0 (by decide) dX12_beyond_58 (fun v_149 e_150 => ?_)
          refine y_sub C0 (o32_140 l1 u1 (Int.le_trans f_7.1 e_5) (Int.le_trans e_6 f_7.2) e_9 e_11 e_12 e_13 e_21 e_23 (Int.le_trans f_30.1 e_28) (Int.le_trans e_29 f_30.2) qh_32 e_33 e_35 e_36 e_37 e_132 e_134 e_136 (Int.le_trans f_145.1 e_143) (Int.le_trans e_144 f_145.2) qh_147 e_148 e_150 (le_min v_141) (le_max v_141) (le_min v_149) (le_max v_149) (le_min a1) (le_max a1) (le_min v_3) (le_max v_3) (le_min v_10) (le_max v_10) (le_min v_20) (le_max v_20) (le_min v_22) (le_max v_22) (le_min v_26) (le_max v_26) (le_min v_34) (le_max v_34) (le_min v_131) (le_max v_131) (le_min v_133) (le_max v_133)) (o32_141 l1 u1 (Int.le_trans f_7.1 e_5) (Int.le_trans e_6 f_7.2) e_9 e_11 e_12 e_13 e_21 e_23 (Int.le_trans f_30.1 e_28) (Int.le_trans e_29 f_30.2) qh_32 e_33 e_35 e_36 e_37 e_132 e_134 e_136 (Int.le_trans f_145.1 e_143) (Int.le_trans e_144 f_145.2) qh_147 e_148 e_150 (le_min v_141) (le_max v_141) (le_min v_149) (le_max v_149) (le_min a1) (le_max a1) (le_min v_3) (le_max v_3) (le_min v_10) (le_max v_10) (le_min v_20) (le_max v_20) (le_min v_22) (le_max v_22) (le_min v_26) (le_max v_26) (le_min v_34) (le_max v_34) (le_min v_131) (le_max v_131) (le_min v_133) (le_max v_133)) dX12_beyond_59 (fun v_151 e_152 => ?_)
          refine y_i2l C0 dX12_beyond_60 (fun w_153 e_154 => ?_)
          refine y_ci h (y_rS (As := [.long w_135, .long w_137, .long w_153]) (rest := []) C0 hZ h (c_X12_within l G Z ad _ h.2 w_135 w_137 w_153) k_X12_within q_1580 q_1579 hl.1 rfl rfl (Nat.le_of_ble_eq_true rfl) dX12_beyond_61 ⟨Nat.le_of_ble_eq_true rfl, Nat.le_of_ble_eq_true rfl⟩ ⟨Nat.le_of_ble_eq_true rfl, Nat.le_of_ble_eq_true rfl⟩) (fun r_158 H locs ws_155 h u_156 p_157 => ?_)
          obtain ⟨e_159, e_160, e_161, e_162, e_163⟩ := p_157
          replace HE : FT = g21c_X12_beyond (xso SM ad ws_155) r_158.toInt v_22.toInt v_133.toInt := HE.trans (by rw [e_159, e_134, e_132, e_160, e_154, e_152, e_150, (xg1 e_142 : v_141.toInt = (xso SM ad ws0) 1 1 v_139.toInt.toNat), e_140, e_138, e_136]; rfl)
          replace HE : FT = g22b_X12_beyond (xso SM ad ws_155) r_158.toInt v_22.toInt v_133.toInt := HE.trans rfl
          refine y_if_eq (tgt := 94) C0 dX12_beyond_64 (by decide) (fun c_164 => ?_) (fun c_164 => ?_)
          · -- 64
            replace HE : FT = g23_X12_beyond (xso SM ad ws_155) := HE.trans (if_pos c_164)
            refine y_c1 (n := (-1)) C0 (by decide) dX12_beyond_94 (fun v_165 e_166 => ?_)
            replace HE : FT = ((xso SM ad ws_155), v_165.toInt) := HE.trans (by rw [e_166]; rfl)
            obtain ⟨f_168, e_169⟩ : ∃ v, aI ws_155 1 2 = v := ⟨_, rfl⟩
            have b_170 := ty_aI 2 h.2 kSM_1 rfl (by decide)
            rw [e_169] at b_170
            have g_167 : v_165.toInt = beyF v_3.toInt f_168.toInt a1.toInt a2.toInt := by
              unfold beyF
              rw [if_neg]
              · omega
              · have hd : v_34.toInt = a1.toInt / v_3.toInt := by rw [e_35, (o32_142 l1 u1 (Int.le_trans f_7.1 e_5) (Int.le_trans e_6 f_7.2) e_9 e_11 e_12 e_13 e_21 e_23 (Int.le_trans f_30.1 e_28) (Int.le_trans e_29 f_30.2) qh_32 e_33 e_35 e_36 e_37 e_132 e_134 e_136 e_138 (Int.le_trans f_145.1 e_143) (Int.le_trans e_144 f_145.2) qh_147 e_148 e_150 e_152 e_154 e_161 e_162 e_163 c_164)]
                intro hq
                obtain ⟨q1, q2, q3, q4⟩ := hq
                (repeat' split at q1) <;> (repeat' split at q3) <;> omega
            rw [hQ]
            exact y_iret C0 h u_156 ⟨(congrArg Prod.fst (HE.symm.trans hFT)), (congrArg Prod.snd (HE.symm.trans hFT)), (o32_12 e_166), (o32_122 e_166), (by rw [e_8, (Eq.trans (Eq.symm (Fr.aI u_156 kSM_1 (by decide))) e_169)]; exact g_167)⟩ dX12_beyond_95
          · -- 64
            replace HE : FT = g24_X12_beyond (xso SM ad ws_155) v_22.toInt v_133.toInt := HE.trans (if_neg c_164)
            refine lv_iload C0.1 C0.2.1 dX12_beyond_67 (lv_at hl 0 rfl) ?_
            refine y_i2l C0 dX12_beyond_69 (fun w_171 e_172 => ?_)
            refine y_lc (v := 0) C0 (by decide) dX12_beyond_70 (fun w_173 e_174 => ?_)
            refine lv_aload_n C0.1 C0.2.1 dX12_beyond_71 rfl (lv_at hl 2 rfl) ?_
            refine y_c1 (n := 2) C0 (by decide) dX12_beyond_72 (fun v_175 e_176 => ?_)
            refine y_iald C0 h kSM_1 rfl (by decide) (o32_43 e_176) (o32_44 e_176) dX12_beyond_73 (fun v_177 e_178 e_179 e_180 => ?_)
            have f_181 := o32_45 v_175.toInt.toNat (o32_46 e_176) (o32_47 e_176)
            have e_182 : aI ws_155 1 2 = v_177 := (congrArg (aI ws_155 1) (ix_c (c := 2) (o32_48 e_176))).symm.trans e_178
            have e_183 := laid_2 (Laid.pa hLd (Pa.fr u_156 (by decide))) e_182
            refine y_c1 (n := 1) C0 (by decide) dX12_beyond_74 (fun v_184 e_185 => ?_)
            refine y_sub C0 (o32_124 (Int.le_trans f_181.1 e_179) (Int.le_trans e_180 f_181.2) e_183 e_185 (le_min v_177) (le_max v_177) (le_min v_184) (le_max v_184)) (o32_125 (Int.le_trans f_181.1 e_179) (Int.le_trans e_180 f_181.2) e_183 e_185 (le_min v_177) (le_max v_177) (le_min v_184) (le_max v_184)) dX12_beyond_75 (fun v_186 e_187 => ?_)
            refine y_i2l C0 dX12_beyond_76 (fun w_188 e_189 => ?_)
            refine y_ci h (y_rS (As := [.long w_171, .long w_173, .long w_188]) (rest := []) C0 hZ h (c_X12_within l G Z ad _ h.2 w_171 w_173 w_188) k_X12_within q_1580 q_1579 hl.1 rfl rfl (Nat.le_of_ble_eq_true rfl) dX12_beyond_77 ⟨Nat.le_of_ble_eq_true rfl, Nat.le_of_ble_eq_true rfl⟩ ⟨Nat.le_of_ble_eq_true rfl, Nat.le_of_ble_eq_true rfl⟩) (fun r_193 H locs ws_190 h u_191 p_192 => ?_)
            obtain ⟨e_194, e_195, e_196, e_197, e_198⟩ := p_192
            replace HE : FT = g25c_X12_beyond (xso SM ad ws_190) r_193.toInt v_22.toInt v_133.toInt := HE.trans (by rw [e_194, e_195, e_189, e_187, e_185, (xg1 e_178 : v_177.toInt = (xso SM ad ws_155) 1 1 v_175.toInt.toNat), e_176, e_174, e_172]; rfl)
            replace HE : FT = g26b_X12_beyond (xso SM ad ws_190) r_193.toInt v_22.toInt v_133.toInt := HE.trans rfl
            refine y_if_eq (tgt := 94) C0 dX12_beyond_80 (by decide) (fun c_199 => ?_) (fun c_199 => ?_)
            · -- 80
              replace HE : FT = g27_X12_beyond (xso SM ad ws_190) := HE.trans (if_pos c_199)
              refine y_c1 (n := (-1)) C0 (by decide) dX12_beyond_94 (fun v_200 e_201 => ?_)
              replace HE : FT = ((xso SM ad ws_190), v_200.toInt) := HE.trans (by rw [e_201]; rfl)
              have g_202 : v_200.toInt = beyF v_3.toInt v_177.toInt a1.toInt a2.toInt := by
                unfold beyF
                rw [if_neg]
                · omega
                · have hd : v_34.toInt = a1.toInt / v_3.toInt := by rw [e_35, (o32_143 l1 u1 (Int.le_trans f_7.1 e_5) (Int.le_trans e_6 f_7.2) e_9 e_11 e_12 e_13 e_21 e_23 (Int.le_trans f_30.1 e_28) (Int.le_trans e_29 f_30.2) qh_32 e_33 e_35 e_36 e_37 e_132 e_134 e_136 e_138 (Int.le_trans f_145.1 e_143) (Int.le_trans e_144 f_145.2) qh_147 e_148 e_150 e_152 e_154 e_161 e_162 e_163 c_164 e_172 e_174 (Int.le_trans f_181.1 e_179) (Int.le_trans e_180 f_181.2) e_183 e_185 e_187 e_189 e_196 e_197 e_198 c_199)]
                  intro hq
                  obtain ⟨q1, q2, q3, q4⟩ := hq
                  (repeat' split at q1) <;> (repeat' split at q3) <;> omega
              rw [hQ]
              exact y_iret C0 h (Fr.tr u_156 u_191) ⟨(congrArg Prod.fst (HE.symm.trans hFT)), (congrArg Prod.snd (HE.symm.trans hFT)), (o32_12 e_201), (o32_122 e_201), (by rw [e_8, (Eq.trans (Eq.symm (Fr.aI u_156 kSM_1 (by decide))) e_182)]; exact g_202)⟩ dX12_beyond_95
            · -- 80
              replace HE : FT = g28_X12_beyond (xso SM ad ws_190) v_22.toInt v_133.toInt := HE.trans (if_neg c_199)
              refine lv_aload_n C0.1 C0.2.1 dX12_beyond_83 rfl (lv_at hl 2 rfl) ?_
              refine y_c1 (n := 1) C0 (by decide) dX12_beyond_84 (fun v_203 e_204 => ?_)
              refine y_iald C0 h kSM_1 rfl (by decide) (o32_5 e_204) (o32_38 e_204) dX12_beyond_85 (fun v_205 e_206 e_207 e_208 => ?_)
              have f_209 := o32_39 v_203.toInt.toNat (o32_40 e_204) (o32_41 e_204)
              have e_210 : aI ws_190 1 1 = v_205 := (congrArg (aI ws_190 1) (ix_c (c := 1) (o32_42 e_204))).symm.trans e_206
              have qh_211 : v_205.toInt = v_3.toInt := congrArg Int32.toInt (e_210.symm.trans (Eq.trans (Eq.trans (Fr.aI u_191 kSM_1 (by decide)) (Fr.aI u_156 kSM_1 (by decide))) e_8))
              have e_212 := laid_1 (Laid.pa hLd (Pa.tr (Pa.fr u_156 (by decide)) (Pa.fr u_191 (by decide)))) e_210
              refine lv_iload C0.1 C0.2.1 dX12_beyond_86 (lv_at hl 0 rfl) ?_
              refine y_mulb (la := 1) (ha := 5) (lb := 0) (hb := 4) C0 (by decide) (o32_144 l1 u1 (Int.le_trans f_7.1 e_5) (Int.le_trans e_6 f_7.2) e_9 e_11 e_12 e_13 e_21 e_23 (Int.le_trans f_30.1 e_28) (Int.le_trans e_29 f_30.2) qh_32 e_33 e_35 e_36 e_37 e_132 e_134 e_136 e_138 (Int.le_trans f_145.1 e_143) (Int.le_trans e_144 f_145.2) qh_147 e_148 e_150 e_152 e_154 e_161 e_162 e_163 c_164 e_172 e_174 (Int.le_trans f_181.1 e_179) (Int.le_trans e_180 f_181.2) e_183 e_185 e_187 e_189 e_196 e_197 e_198 c_199 (Int.le_trans f_209.1 e_207) (Int.le_trans e_208 f_209.2) qh_211 e_212) (o32_145 l1 u1 (Int.le_trans f_7.1 e_5) (Int.le_trans e_6 f_7.2) e_9 e_11 e_12 e_13 e_21 e_23 (Int.le_trans f_30.1 e_28) (Int.le_trans e_29 f_30.2) qh_32 e_33 e_35 e_36 e_37 e_132 e_134 e_136 e_138 (Int.le_trans f_145.1 e_143) (Int.le_trans e_144 f_145.2) qh_147 e_148 e_150 e_152 e_154 e_161 e_162 e_163 c_164 e_172 e_174 (Int.le_trans f_181.1 e_179) (Int.le_trans e_180 f_181.2) e_183 e_185 e_187 e_189 e_196 e_197 e_198 c_199 (Int.le_trans f_209.1 e_207) (Int.le_trans e_208 f_209.2) qh_211 e_212) (by decide) (o32_146 l1 u1 (Int.le_trans f_7.1 e_5) (Int.le_trans e_6 f_7.2) e_9 e_11 e_12 e_13 e_21 e_23 (Int.le_trans f_30.1 e_28) (Int.le_trans e_29 f_30.2) qh_32 e_33 e_35 e_36 e_37 e_132 e_134 e_136 e_138 (Int.le_trans f_145.1 e_143) (Int.le_trans e_144 f_145.2) qh_147 e_148 e_150 e_152 e_154 e_161 e_162 e_163 c_164 e_172 e_174 (Int.le_trans f_181.1 e_179) (Int.le_trans e_180 f_181.2) e_183 e_185 e_187 e_189 e_196 e_197 e_198 c_199 (Int.le_trans f_209.1 e_207) (Int.le_trans e_208 f_209.2) qh_211 e_212) (o32_147 l1 u1 (Int.le_trans f_7.1 e_5) (Int.le_trans e_6 f_7.2) e_9 e_11 e_12 e_13 e_21 e_23 (Int.le_trans f_30.1 e_28) (Int.le_trans e_29 f_30.2) qh_32 e_33 e_35 e_36 e_37 e_132 e_134 e_136 e_138 (Int.le_trans f_145.1 e_143) (Int.le_trans e_144 f_145.2) qh_147 e_148 e_150 e_152 e_154 e_161 e_162 e_163 c_164 e_172 e_174 (Int.le_trans f_181.1 e_179) (Int.le_trans e_180 f_181.2) e_183 e_185 e_187 e_189 e_196 e_197 e_198 c_199 (Int.le_trans f_209.1 e_207) (Int.le_trans e_208 f_209.2) qh_211 e_212) (by decide) dX12_beyond_88 (fun v_213 e_214 e_215 e_216 => ?_)
              refine lv_iload_n C0.1 C0.2.1 dX12_beyond_89 rfl (lv_at hl 1 rfl) ?_
              refine y_add C0 (o32_148 l1 u1 (Int.le_trans f_7.1 e_5) (Int.le_trans e_6 f_7.2) e_9 e_11 e_12 e_13 e_21 e_23 (Int.le_trans f_30.1 e_28) (Int.le_trans e_29 f_30.2) qh_32 e_33 e_35 e_36 e_37 e_132 e_134 e_136 e_138 (Int.le_trans f_145.1 e_143) (Int.le_trans e_144 f_145.2) qh_147 e_148 e_150 e_152 e_154 e_161 e_162 e_163 c_164 e_172 e_174 (Int.le_trans f_181.1 e_179) (Int.le_trans e_180 f_181.2) e_183 e_185 e_187 e_189 e_196 e_197 e_198 c_199 (Int.le_trans f_209.1 e_207) (Int.le_trans e_208 f_209.2) qh_211 e_212 e_215 e_216 (le_min v_213) (le_max v_213) (le_min v_22) (le_max v_22) (le_min a1) (le_max a1) (le_min v_3) (le_max v_3) (le_min v_10) (le_max v_10) (le_min v_20) (le_max v_20) (le_min v_26) (le_max v_26) (le_min v_34) (le_max v_34) (le_min v_131) (le_max v_131) (le_min v_133) (le_max v_133) (le_min v_141) (le_max v_141) (le_min v_149) (le_max v_149) (le_min v_151) (le_max v_151) (le_min r_158) (le_max r_158) (le_min v_177) (le_max v_177) (le_min v_184) (le_max v_184) (le_min v_186) (le_max v_186) (le_min r_193) (le_max r_193) (le_min v_205) (le_max v_205)) (o32_149 l1 u1 (Int.le_trans f_7.1 e_5) (Int.le_trans e_6 f_7.2) e_9 e_11 e_12 e_13 e_21 e_23 (Int.le_trans f_30.1 e_28) (Int.le_trans e_29 f_30.2) qh_32 e_33 e_35 e_36 e_37 e_132 e_134 e_136 e_138 (Int.le_trans f_145.1 e_143) (Int.le_trans e_144 f_145.2) qh_147 e_148 e_150 e_152 e_154 e_161 e_162 e_163 c_164 e_172 e_174 (Int.le_trans f_181.1 e_179) (Int.le_trans e_180 f_181.2) e_183 e_185 e_187 e_189 e_196 e_197 e_198 c_199 (Int.le_trans f_209.1 e_207) (Int.le_trans e_208 f_209.2) qh_211 e_212 e_215 e_216 (le_min v_213) (le_max v_213) (le_min v_22) (le_max v_22) (le_min a1) (le_max a1) (le_min v_3) (le_max v_3) (le_min v_10) (le_max v_10) (le_min v_20) (le_max v_20) (le_min v_26) (le_max v_26) (le_min v_34) (le_max v_34) (le_min v_131) (le_max v_131) (le_min v_133) (le_max v_133) (le_min v_141) (le_max v_141) (le_min v_149) (le_max v_149) (le_min v_151) (le_max v_151) (le_min r_158) (le_max r_158) (le_min v_177) (le_max v_177) (le_min v_184) (le_max v_184) (le_min v_186) (le_max v_186) (le_min r_193) (le_max r_193) (le_min v_205) (le_max v_205)) dX12_beyond_90 (fun v_217 e_218 => ?_)
              refine lv_goto (tgt := 95) C0.1 C0.2.1 dX12_beyond_91 (by decide) ?_
              replace HE : FT = ((xso SM ad ws_190), v_217.toInt) := HE.trans (by rw [e_218, e_214, (xg1 e_206 : v_205.toInt = (xso SM ad ws_190) 1 1 v_203.toInt.toNat), e_204]; rfl)
              have g_219 : v_217.toInt = beyF v_3.toInt v_177.toInt a1.toInt a2.toInt := by
                unfold beyF
                have hm : v_205.toInt * v_133.toInt = v_3.toInt * v_133.toInt := by rw [(o32_152 l1 u1 (Int.le_trans f_7.1 e_5) (Int.le_trans e_6 f_7.2) e_9 e_11 e_12 e_13 e_21 e_23 (Int.le_trans f_30.1 e_28) (Int.le_trans e_29 f_30.2) qh_32 e_33 e_35 e_36 e_37 e_132 e_134 e_136 e_138 (Int.le_trans f_145.1 e_143) (Int.le_trans e_144 f_145.2) qh_147 e_148 e_150 e_152 e_154 e_161 e_162 e_163 c_164 e_172 e_174 (Int.le_trans f_181.1 e_179) (Int.le_trans e_180 f_181.2) e_183 e_185 e_187 e_189 e_196 e_197 e_198 c_199 (Int.le_trans f_209.1 e_207) (Int.le_trans e_208 f_209.2) qh_211 e_212 e_215 e_216 e_218)]
                have hy : v_133.toInt = a1.toInt / v_3.toInt + (if a2.toInt = 2 then 1 else if a2.toInt = 0 then -1 else 0) := by
                  have hd : v_34.toInt = a1.toInt / v_3.toInt := by rw [e_35, (o32_154 l1 u1 (Int.le_trans f_7.1 e_5) (Int.le_trans e_6 f_7.2) e_9 e_11 e_12 e_13 e_21 e_23 (Int.le_trans f_30.1 e_28) (Int.le_trans e_29 f_30.2) qh_32 e_33 e_35 e_36 e_37 e_132 e_134 e_136 e_138 (Int.le_trans f_145.1 e_143) (Int.le_trans e_144 f_145.2) qh_147 e_148 e_150 e_152 e_154 e_161 e_162 e_163 c_164 e_172 e_174 (Int.le_trans f_181.1 e_179) (Int.le_trans e_180 f_181.2) e_183 e_185 e_187 e_189 e_196 e_197 e_198 c_199 (Int.le_trans f_209.1 e_207) (Int.le_trans e_208 f_209.2) qh_211 e_212 e_215 e_216 e_218)]
                  (repeat' split) <;> omega
                rw [← hy, if_pos (by refine ⟨?_, ?_, ?_, ?_⟩ <;> (repeat' split) <;> omega)]
                (repeat' split) <;> omega
              rw [hQ]
              exact y_iret C0 h (Fr.tr u_156 u_191) ⟨(congrArg Prod.fst (HE.symm.trans hFT)), (congrArg Prod.snd (HE.symm.trans hFT)), (o32_150 l1 u1 (Int.le_trans f_7.1 e_5) (Int.le_trans e_6 f_7.2) e_9 e_11 e_12 e_13 e_21 e_23 (Int.le_trans f_30.1 e_28) (Int.le_trans e_29 f_30.2) qh_32 e_33 e_35 e_36 e_37 e_132 e_134 e_136 e_138 (Int.le_trans f_145.1 e_143) (Int.le_trans e_144 f_145.2) qh_147 e_148 e_150 e_152 e_154 e_161 e_162 e_163 c_164 e_172 e_174 e_187 e_189 e_196 e_197 e_198 c_199 (Int.le_trans f_209.1 e_207) (Int.le_trans e_208 f_209.2) qh_211 e_212 e_215 e_216 e_218), (o32_151 l1 u1 (Int.le_trans f_7.1 e_5) (Int.le_trans e_6 f_7.2) e_9 e_11 e_12 e_13 e_21 e_23 (Int.le_trans f_30.1 e_28) (Int.le_trans e_29 f_30.2) qh_32 e_33 e_35 e_36 e_37 e_132 e_134 e_136 e_138 (Int.le_trans f_145.1 e_143) (Int.le_trans e_144 f_145.2) qh_147 e_148 e_150 e_152 e_154 e_161 e_162 e_163 c_164 e_172 e_174 e_187 e_189 e_196 e_197 e_198 c_199 (Int.le_trans f_209.1 e_207) (Int.le_trans e_208 f_209.2) qh_211 e_212 e_215 e_216 e_218), (by rw [e_8, (Eq.trans (Eq.symm (Fr.aI u_156 kSM_1 (by decide))) e_182)]; exact g_219)⟩ dX12_beyond_95
      · -- 33
        replace HE : FT = g9_X12_beyond (xso SM ad ws0) v_34.toInt v_22.toInt := HE.trans (if_pos (o32_117 l2 u2 e_15 c_16 e_18 c_19 e_39 c_40))
        refine y_c1 (n := 1) C0 (by decide) dX12_beyond_36 (fun v_220 e_221 => ?_)
        refine lv_goto (tgt := 49) C0.1 C0.2.1 dX12_beyond_37 (by decide) ?_
        refine y_add C0 (o32_155 l1 u1 (Int.le_trans f_7.1 e_5) (Int.le_trans e_6 f_7.2) e_9 e_11 e_12 e_13 e_21 e_23 (Int.le_trans f_30.1 e_28) (Int.le_trans e_29 f_30.2) qh_32 e_33 e_35 e_36 e_37 e_221 (le_min v_34) (le_max v_34) (le_min v_220) (le_max v_220) (le_min a1) (le_max a1) (le_min v_3) (le_max v_3) (le_min v_10) (le_max v_10) (le_min v_20) (le_max v_20) (le_min v_22) (le_max v_22) (le_min v_26) (le_max v_26)) (o32_156 l1 u1 (Int.le_trans f_7.1 e_5) (Int.le_trans e_6 f_7.2) e_9 e_11 e_12 e_13 e_21 e_23 (Int.le_trans f_30.1 e_28) (Int.le_trans e_29 f_30.2) qh_32 e_33 e_35 e_36 e_37 e_221 (le_min v_34) (le_max v_34) (le_min v_220) (le_max v_220) (le_min a1) (le_max a1) (le_min v_3) (le_max v_3) (le_min v_10) (le_max v_10) (le_min v_20) (le_max v_20) (le_min v_22) (le_max v_22) (le_min v_26) (le_max v_26)) dX12_beyond_49 (fun v_222 e_223 => ?_)
        refine lv_istore (lv' := [(4, .int v_222), (3, .int v_22), (0, .ref (ad 1)), (1, .int a1), (2, .int a2)]) C0.1 C0.2.1 dX12_beyond_50 hl (by decide) rfl (fun ls hl => ?_)
        refine lv_iload_n C0.1 C0.2.1 dX12_beyond_52 rfl (lv_at hl 1 rfl) ?_
        refine y_i2l C0 dX12_beyond_53 (fun w_224 e_225 => ?_)
        refine y_lc (v := 0) C0 (by decide) dX12_beyond_54 (fun w_226 e_227 => ?_)
        refine lv_aload_n C0.1 C0.2.1 dX12_beyond_55 rfl (lv_at hl 2 rfl) ?_
        refine y_c1 (n := 1) C0 (by decide) dX12_beyond_56 (fun v_228 e_229 => ?_)
        refine y_iald C0 h kSM_1 rfl (by decide) (o32_5 e_229) (o32_38 e_229) dX12_beyond_57 (fun v_230 e_231 e_232 e_233 => ?_)
        have f_234 := o32_39 v_228.toInt.toNat (o32_40 e_229) (o32_41 e_229)
        have e_235 : aI ws0 1 1 = v_230 := (congrArg (aI ws0 1) (ix_c (c := 1) (o32_42 e_229))).symm.trans e_231
        have qh_236 : v_230.toInt = v_3.toInt := congrArg Int32.toInt (e_235.symm.trans (Eq.trans rfl e_8))
        have e_237 := laid_1 (Laid.pa hLd Pa.rf) e_235
        refine y_c1 (n := 1) C0 (by decide) dX12_beyond_58 (fun v_238 e_239 => ?_)
        refine y_sub C0 (o32_157 l1 u1 (Int.le_trans f_7.1 e_5) (Int.le_trans e_6 f_7.2) e_9 e_11 e_12 e_13 e_21 e_23 (Int.le_trans f_30.1 e_28) (Int.le_trans e_29 f_30.2) qh_32 e_33 e_35 e_36 e_37 e_221 e_223 e_225 (Int.le_trans f_234.1 e_232) (Int.le_trans e_233 f_234.2) qh_236 e_237 e_239 (le_min v_230) (le_max v_230) (le_min v_238) (le_max v_238) (le_min a1) (le_max a1) (le_min v_3) (le_max v_3) (le_min v_10) (le_max v_10) (le_min v_20) (le_max v_20) (le_min v_22) (le_max v_22) (le_min v_26) (le_max v_26) (le_min v_34) (le_max v_34) (le_min v_220) (le_max v_220) (le_min v_222) (le_max v_222)) (o32_158 l1 u1 (Int.le_trans f_7.1 e_5) (Int.le_trans e_6 f_7.2) e_9 e_11 e_12 e_13 e_21 e_23 (Int.le_trans f_30.1 e_28) (Int.le_trans e_29 f_30.2) qh_32 e_33 e_35 e_36 e_37 e_221 e_223 e_225 (Int.le_trans f_234.1 e_232) (Int.le_trans e_233 f_234.2) qh_236 e_237 e_239 (le_min v_230) (le_max v_230) (le_min v_238) (le_max v_238) (le_min a1) (le_max a1) (le_min v_3) (le_max v_3) (le_min v_10) (le_max v_10) (le_min v_20) (le_max v_20) (le_min v_22) (le_max v_22) (le_min v_26) (le_max v_26) (le_min v_34) (le_max v_34) (le_min v_220) (le_max v_220) (le_min v_222) (le_max v_222)) dX12_beyond_59 (fun v_240 e_241 => ?_)
        refine y_i2l C0 dX12_beyond_60 (fun w_242 e_243 => ?_)
        refine y_ci h (y_rS (As := [.long w_224, .long w_226, .long w_242]) (rest := []) C0 hZ h (c_X12_within l G Z ad _ h.2 w_224 w_226 w_242) k_X12_within q_1580 q_1579 hl.1 rfl rfl (Nat.le_of_ble_eq_true rfl) dX12_beyond_61 ⟨Nat.le_of_ble_eq_true rfl, Nat.le_of_ble_eq_true rfl⟩ ⟨Nat.le_of_ble_eq_true rfl, Nat.le_of_ble_eq_true rfl⟩) (fun r_247 H locs ws_244 h u_245 p_246 => ?_)
        obtain ⟨e_248, e_249, e_250, e_251, e_252⟩ := p_246
        replace HE : FT = g29c_X12_beyond (xso SM ad ws_244) r_247.toInt v_22.toInt v_222.toInt := HE.trans (by rw [e_248, e_223, e_221, e_249, e_243, e_241, e_239, (xg1 e_231 : v_230.toInt = (xso SM ad ws0) 1 1 v_228.toInt.toNat), e_229, e_227, e_225]; rfl)
        replace HE : FT = g30b_X12_beyond (xso SM ad ws_244) r_247.toInt v_22.toInt v_222.toInt := HE.trans rfl
        refine y_if_eq (tgt := 94) C0 dX12_beyond_64 (by decide) (fun c_253 => ?_) (fun c_253 => ?_)
        · -- 64
          replace HE : FT = g31_X12_beyond (xso SM ad ws_244) := HE.trans (if_pos c_253)
          refine y_c1 (n := (-1)) C0 (by decide) dX12_beyond_94 (fun v_254 e_255 => ?_)
          replace HE : FT = ((xso SM ad ws_244), v_254.toInt) := HE.trans (by rw [e_255]; rfl)
          obtain ⟨f_257, e_258⟩ : ∃ v, aI ws_244 1 2 = v := ⟨_, rfl⟩
          have b_259 := ty_aI 2 h.2 kSM_1 rfl (by decide)
          rw [e_258] at b_259
          have g_256 : v_254.toInt = beyF v_3.toInt f_257.toInt a1.toInt a2.toInt := by
            unfold beyF
            rw [if_neg]
            · omega
            · have hd : v_34.toInt = a1.toInt / v_3.toInt := by rw [e_35, (o32_159 l1 u1 (Int.le_trans f_7.1 e_5) (Int.le_trans e_6 f_7.2) e_9 e_11 e_12 e_13 e_21 e_23 (Int.le_trans f_30.1 e_28) (Int.le_trans e_29 f_30.2) qh_32 e_33 e_35 e_36 e_37 e_221 e_223 e_225 e_227 (Int.le_trans f_234.1 e_232) (Int.le_trans e_233 f_234.2) qh_236 e_237 e_239 e_241 e_243 e_250 e_251 e_252 c_253)]
              intro hq
              obtain ⟨q1, q2, q3, q4⟩ := hq
              (repeat' split at q1) <;> (repeat' split at q3) <;> omega
          rw [hQ]
          exact y_iret C0 h u_245 ⟨(congrArg Prod.fst (HE.symm.trans hFT)), (congrArg Prod.snd (HE.symm.trans hFT)), (o32_12 e_255), (o32_122 e_255), (by rw [e_8, (Eq.trans (Eq.symm (Fr.aI u_245 kSM_1 (by decide))) e_258)]; exact g_256)⟩ dX12_beyond_95
        · -- 64
          replace HE : FT = g32_X12_beyond (xso SM ad ws_244) v_22.toInt v_222.toInt := HE.trans (if_neg c_253)
          refine lv_iload C0.1 C0.2.1 dX12_beyond_67 (lv_at hl 0 rfl) ?_
          refine y_i2l C0 dX12_beyond_69 (fun w_260 e_261 => ?_)
          refine y_lc (v := 0) C0 (by decide) dX12_beyond_70 (fun w_262 e_263 => ?_)
          refine lv_aload_n C0.1 C0.2.1 dX12_beyond_71 rfl (lv_at hl 2 rfl) ?_
          refine y_c1 (n := 2) C0 (by decide) dX12_beyond_72 (fun v_264 e_265 => ?_)
          refine y_iald C0 h kSM_1 rfl (by decide) (o32_43 e_265) (o32_44 e_265) dX12_beyond_73 (fun v_266 e_267 e_268 e_269 => ?_)
          have f_270 := o32_45 v_264.toInt.toNat (o32_46 e_265) (o32_47 e_265)
          have e_271 : aI ws_244 1 2 = v_266 := (congrArg (aI ws_244 1) (ix_c (c := 2) (o32_48 e_265))).symm.trans e_267
          have e_272 := laid_2 (Laid.pa hLd (Pa.fr u_245 (by decide))) e_271
          refine y_c1 (n := 1) C0 (by decide) dX12_beyond_74 (fun v_273 e_274 => ?_)
          refine y_sub C0 (o32_124 (Int.le_trans f_270.1 e_268) (Int.le_trans e_269 f_270.2) e_272 e_274 (le_min v_266) (le_max v_266) (le_min v_273) (le_max v_273)) (o32_125 (Int.le_trans f_270.1 e_268) (Int.le_trans e_269 f_270.2) e_272 e_274 (le_min v_266) (le_max v_266) (le_min v_273) (le_max v_273)) dX12_beyond_75 (fun v_275 e_276 => ?_)
          refine y_i2l C0 dX12_beyond_76 (fun w_277 e_278 => ?_)
          refine y_ci h (y_rS (As := [.long w_260, .long w_262, .long w_277]) (rest := []) C0 hZ h (c_X12_within l G Z ad _ h.2 w_260 w_262 w_277) k_X12_within q_1580 q_1579 hl.1 rfl rfl (Nat.le_of_ble_eq_true rfl) dX12_beyond_77 ⟨Nat.le_of_ble_eq_true rfl, Nat.le_of_ble_eq_true rfl⟩ ⟨Nat.le_of_ble_eq_true rfl, Nat.le_of_ble_eq_true rfl⟩) (fun r_282 H locs ws_279 h u_280 p_281 => ?_)
          obtain ⟨e_283, e_284, e_285, e_286, e_287⟩ := p_281
          replace HE : FT = g33c_X12_beyond (xso SM ad ws_279) r_282.toInt v_22.toInt v_222.toInt := HE.trans (by rw [e_283, e_284, e_278, e_276, e_274, (xg1 e_267 : v_266.toInt = (xso SM ad ws_244) 1 1 v_264.toInt.toNat), e_265, e_263, e_261]; rfl)
          replace HE : FT = g34b_X12_beyond (xso SM ad ws_279) r_282.toInt v_22.toInt v_222.toInt := HE.trans rfl
          refine y_if_eq (tgt := 94) C0 dX12_beyond_80 (by decide) (fun c_288 => ?_) (fun c_288 => ?_)
          · -- 80
            replace HE : FT = g35_X12_beyond (xso SM ad ws_279) := HE.trans (if_pos c_288)
            refine y_c1 (n := (-1)) C0 (by decide) dX12_beyond_94 (fun v_289 e_290 => ?_)
            replace HE : FT = ((xso SM ad ws_279), v_289.toInt) := HE.trans (by rw [e_290]; rfl)
            have g_291 : v_289.toInt = beyF v_3.toInt v_266.toInt a1.toInt a2.toInt := by
              unfold beyF
              rw [if_neg]
              · omega
              · have hd : v_34.toInt = a1.toInt / v_3.toInt := by rw [e_35, (o32_160 l1 u1 (Int.le_trans f_7.1 e_5) (Int.le_trans e_6 f_7.2) e_9 e_11 e_12 e_13 e_21 e_23 (Int.le_trans f_30.1 e_28) (Int.le_trans e_29 f_30.2) qh_32 e_33 e_35 e_36 e_37 e_221 e_223 e_225 e_227 (Int.le_trans f_234.1 e_232) (Int.le_trans e_233 f_234.2) qh_236 e_237 e_239 e_241 e_243 e_250 e_251 e_252 c_253 e_261 e_263 (Int.le_trans f_270.1 e_268) (Int.le_trans e_269 f_270.2) e_272 e_274 e_276 e_278 e_285 e_286 e_287 c_288)]
                intro hq
                obtain ⟨q1, q2, q3, q4⟩ := hq
                (repeat' split at q1) <;> (repeat' split at q3) <;> omega
            rw [hQ]
            exact y_iret C0 h (Fr.tr u_245 u_280) ⟨(congrArg Prod.fst (HE.symm.trans hFT)), (congrArg Prod.snd (HE.symm.trans hFT)), (o32_12 e_290), (o32_122 e_290), (by rw [e_8, (Eq.trans (Eq.symm (Fr.aI u_245 kSM_1 (by decide))) e_271)]; exact g_291)⟩ dX12_beyond_95
          · -- 80
            replace HE : FT = g36_X12_beyond (xso SM ad ws_279) v_22.toInt v_222.toInt := HE.trans (if_neg c_288)
            refine lv_aload_n C0.1 C0.2.1 dX12_beyond_83 rfl (lv_at hl 2 rfl) ?_
            refine y_c1 (n := 1) C0 (by decide) dX12_beyond_84 (fun v_292 e_293 => ?_)
            refine y_iald C0 h kSM_1 rfl (by decide) (o32_5 e_293) (o32_38 e_293) dX12_beyond_85 (fun v_294 e_295 e_296 e_297 => ?_)
            have f_298 := o32_39 v_292.toInt.toNat (o32_40 e_293) (o32_41 e_293)
            have e_299 : aI ws_279 1 1 = v_294 := (congrArg (aI ws_279 1) (ix_c (c := 1) (o32_42 e_293))).symm.trans e_295
            have qh_300 : v_294.toInt = v_3.toInt := congrArg Int32.toInt (e_299.symm.trans (Eq.trans (Eq.trans (Fr.aI u_280 kSM_1 (by decide)) (Fr.aI u_245 kSM_1 (by decide))) e_8))
            have e_301 := laid_1 (Laid.pa hLd (Pa.tr (Pa.fr u_245 (by decide)) (Pa.fr u_280 (by decide)))) e_299
            refine lv_iload C0.1 C0.2.1 dX12_beyond_86 (lv_at hl 0 rfl) ?_
            refine y_mulb (la := 1) (ha := 5) (lb := 1) (hb := 4) C0 (by decide) (o32_161 l1 u1 (Int.le_trans f_7.1 e_5) (Int.le_trans e_6 f_7.2) e_9 e_11 e_12 e_13 e_21 e_23 (Int.le_trans f_30.1 e_28) (Int.le_trans e_29 f_30.2) qh_32 e_33 e_35 e_36 e_37 e_221 e_223 e_225 e_227 (Int.le_trans f_234.1 e_232) (Int.le_trans e_233 f_234.2) qh_236 e_237 e_239 e_241 e_243 e_250 e_251 e_252 c_253 e_261 e_263 (Int.le_trans f_270.1 e_268) (Int.le_trans e_269 f_270.2) e_272 e_274 e_276 e_278 e_285 e_286 e_287 c_288 (Int.le_trans f_298.1 e_296) (Int.le_trans e_297 f_298.2) qh_300 e_301) (o32_162 l1 u1 (Int.le_trans f_7.1 e_5) (Int.le_trans e_6 f_7.2) e_9 e_11 e_12 e_13 e_21 e_23 (Int.le_trans f_30.1 e_28) (Int.le_trans e_29 f_30.2) qh_32 e_33 e_35 e_36 e_37 e_221 e_223 e_225 e_227 (Int.le_trans f_234.1 e_232) (Int.le_trans e_233 f_234.2) qh_236 e_237 e_239 e_241 e_243 e_250 e_251 e_252 c_253 e_261 e_263 (Int.le_trans f_270.1 e_268) (Int.le_trans e_269 f_270.2) e_272 e_274 e_276 e_278 e_285 e_286 e_287 c_288 (Int.le_trans f_298.1 e_296) (Int.le_trans e_297 f_298.2) qh_300 e_301) (by decide) (o32_163 l1 u1 (Int.le_trans f_7.1 e_5) (Int.le_trans e_6 f_7.2) e_9 e_11 e_12 e_13 e_21 e_23 (Int.le_trans f_30.1 e_28) (Int.le_trans e_29 f_30.2) qh_32 e_33 e_35 e_36 e_37 e_221 e_223 e_225 e_227 (Int.le_trans f_234.1 e_232) (Int.le_trans e_233 f_234.2) qh_236 e_237 e_239 e_241 e_243 e_250 e_251 e_252 c_253 e_261 e_263 (Int.le_trans f_270.1 e_268) (Int.le_trans e_269 f_270.2) e_272 e_274 e_276 e_278 e_285 e_286 e_287 c_288 (Int.le_trans f_298.1 e_296) (Int.le_trans e_297 f_298.2) qh_300 e_301) (o32_164 l1 u1 (Int.le_trans f_7.1 e_5) (Int.le_trans e_6 f_7.2) e_9 e_11 e_12 e_13 e_21 e_23 (Int.le_trans f_30.1 e_28) (Int.le_trans e_29 f_30.2) qh_32 e_33 e_35 e_36 e_37 e_221 e_223 e_225 e_227 (Int.le_trans f_234.1 e_232) (Int.le_trans e_233 f_234.2) qh_236 e_237 e_239 e_241 e_243 e_250 e_251 e_252 c_253 e_261 e_263 (Int.le_trans f_270.1 e_268) (Int.le_trans e_269 f_270.2) e_272 e_274 e_276 e_278 e_285 e_286 e_287 c_288 (Int.le_trans f_298.1 e_296) (Int.le_trans e_297 f_298.2) qh_300 e_301) (by decide) dX12_beyond_88 (fun v_302 e_303 e_304 e_305 => ?_)
            refine lv_iload_n C0.1 C0.2.1 dX12_beyond_89 rfl (lv_at hl 1 rfl) ?_
            refine y_add C0 (o32_165 l1 u1 (Int.le_trans f_7.1 e_5) (Int.le_trans e_6 f_7.2) e_9 e_11 e_12 e_13 e_21 e_23 (Int.le_trans f_30.1 e_28) (Int.le_trans e_29 f_30.2) qh_32 e_33 e_35 e_36 e_37 e_221 e_223 e_225 e_227 (Int.le_trans f_234.1 e_232) (Int.le_trans e_233 f_234.2) qh_236 e_237 e_239 e_241 e_243 e_250 e_251 e_252 c_253 e_261 e_263 (Int.le_trans f_270.1 e_268) (Int.le_trans e_269 f_270.2) e_272 e_274 e_276 e_278 e_285 e_286 e_287 c_288 (Int.le_trans f_298.1 e_296) (Int.le_trans e_297 f_298.2) qh_300 e_301 e_304 e_305 (le_min v_302) (le_max v_302) (le_min v_22) (le_max v_22) (le_min a1) (le_max a1) (le_min v_3) (le_max v_3) (le_min v_10) (le_max v_10) (le_min v_20) (le_max v_20) (le_min v_26) (le_max v_26) (le_min v_34) (le_max v_34) (le_min v_220) (le_max v_220) (le_min v_222) (le_max v_222) (le_min v_230) (le_max v_230) (le_min v_238) (le_max v_238) (le_min v_240) (le_max v_240) (le_min r_247) (le_max r_247) (le_min v_266) (le_max v_266) (le_min v_273) (le_max v_273) (le_min v_275) (le_max v_275) (le_min r_282) (le_max r_282) (le_min v_294) (le_max v_294)) (o32_166 l1 u1 (Int.le_trans f_7.1 e_5) (Int.le_trans e_6 f_7.2) e_9 e_11 e_12 e_13 e_21 e_23 (Int.le_trans f_30.1 e_28) (Int.le_trans e_29 f_30.2) qh_32 e_33 e_35 e_36 e_37 e_221 e_223 e_225 e_227 (Int.le_trans f_234.1 e_232) (Int.le_trans e_233 f_234.2) qh_236 e_237 e_239 e_241 e_243 e_250 e_251 e_252 c_253 e_261 e_263 (Int.le_trans f_270.1 e_268) (Int.le_trans e_269 f_270.2) e_272 e_274 e_276 e_278 e_285 e_286 e_287 c_288 (Int.le_trans f_298.1 e_296) (Int.le_trans e_297 f_298.2) qh_300 e_301 e_304 e_305 (le_min v_302) (le_max v_302) (le_min v_22) (le_max v_22) (le_min a1) (le_max a1) (le_min v_3) (le_max v_3) (le_min v_10) (le_max v_10) (le_min v_20) (le_max v_20) (le_min v_26) (le_max v_26) (le_min v_34) (le_max v_34) (le_min v_220) (le_max v_220) (le_min v_222) (le_max v_222) (le_min v_230) (le_max v_230) (le_min v_238) (le_max v_238) (le_min v_240) (le_max v_240) (le_min r_247) (le_max r_247) (le_min v_266) (le_max v_266) (le_min v_273) (le_max v_273) (le_min v_275) (le_max v_275) (le_min r_282) (le_max r_282) (le_min v_294) (le_max v_294)) dX12_beyond_90 (fun v_306 e_307 => ?_)
            refine lv_goto (tgt := 95) C0.1 C0.2.1 dX12_beyond_91 (by decide) ?_
            replace HE : FT = ((xso SM ad ws_279), v_306.toInt) := HE.trans (by rw [e_307, e_303, (xg1 e_295 : v_294.toInt = (xso SM ad ws_279) 1 1 v_292.toInt.toNat), e_293]; rfl)
            have g_308 : v_306.toInt = beyF v_3.toInt v_266.toInt a1.toInt a2.toInt := by
              unfold beyF
              have hm : v_294.toInt * v_222.toInt = v_3.toInt * v_222.toInt := by rw [(o32_169 l1 u1 (Int.le_trans f_7.1 e_5) (Int.le_trans e_6 f_7.2) e_9 e_11 e_12 e_13 e_21 e_23 (Int.le_trans f_30.1 e_28) (Int.le_trans e_29 f_30.2) qh_32 e_33 e_35 e_36 e_37 e_221 e_223 e_225 e_227 (Int.le_trans f_234.1 e_232) (Int.le_trans e_233 f_234.2) qh_236 e_237 e_239 e_241 e_243 e_250 e_251 e_252 c_253 e_261 e_263 (Int.le_trans f_270.1 e_268) (Int.le_trans e_269 f_270.2) e_272 e_274 e_276 e_278 e_285 e_286 e_287 c_288 (Int.le_trans f_298.1 e_296) (Int.le_trans e_297 f_298.2) qh_300 e_301 e_304 e_305 e_307)]
              have hy : v_222.toInt = a1.toInt / v_3.toInt + (if a2.toInt = 2 then 1 else if a2.toInt = 0 then -1 else 0) := by
                have hd : v_34.toInt = a1.toInt / v_3.toInt := by rw [e_35, (o32_171 l1 u1 (Int.le_trans f_7.1 e_5) (Int.le_trans e_6 f_7.2) e_9 e_11 e_12 e_13 e_21 e_23 (Int.le_trans f_30.1 e_28) (Int.le_trans e_29 f_30.2) qh_32 e_33 e_35 e_36 e_37 e_221 e_223 e_225 e_227 (Int.le_trans f_234.1 e_232) (Int.le_trans e_233 f_234.2) qh_236 e_237 e_239 e_241 e_243 e_250 e_251 e_252 c_253 e_261 e_263 (Int.le_trans f_270.1 e_268) (Int.le_trans e_269 f_270.2) e_272 e_274 e_276 e_278 e_285 e_286 e_287 c_288 (Int.le_trans f_298.1 e_296) (Int.le_trans e_297 f_298.2) qh_300 e_301 e_304 e_305 e_307)]
                (repeat' split) <;> omega
              rw [← hy, if_pos (by refine ⟨?_, ?_, ?_, ?_⟩ <;> (repeat' split) <;> omega)]
              (repeat' split) <;> omega
            rw [hQ]
            exact y_iret C0 h (Fr.tr u_245 u_280) ⟨(congrArg Prod.fst (HE.symm.trans hFT)), (congrArg Prod.snd (HE.symm.trans hFT)), (o32_167 l1 u1 (Int.le_trans f_7.1 e_5) (Int.le_trans e_6 f_7.2) e_9 e_11 e_12 e_13 e_21 e_23 (Int.le_trans f_30.1 e_28) (Int.le_trans e_29 f_30.2) qh_32 e_33 e_35 e_36 e_37 e_221 e_223 e_225 e_227 (Int.le_trans f_234.1 e_232) (Int.le_trans e_233 f_234.2) qh_236 e_237 e_239 e_241 e_243 e_250 e_251 e_252 c_253 e_261 e_263 e_276 e_278 e_285 e_286 e_287 c_288 (Int.le_trans f_298.1 e_296) (Int.le_trans e_297 f_298.2) qh_300 e_301 e_304 e_305 e_307), (o32_168 l1 u1 (Int.le_trans f_7.1 e_5) (Int.le_trans e_6 f_7.2) e_9 e_11 e_12 e_13 e_21 e_23 (Int.le_trans f_30.1 e_28) (Int.le_trans e_29 f_30.2) qh_32 e_33 e_35 e_36 e_37 e_221 e_223 e_225 e_227 (Int.le_trans f_234.1 e_232) (Int.le_trans e_233 f_234.2) qh_236 e_237 e_239 e_241 e_243 e_250 e_251 e_252 c_253 e_261 e_263 e_276 e_278 e_285 e_286 e_287 c_288 (Int.le_trans f_298.1 e_296) (Int.le_trans e_297 f_298.2) qh_300 e_301 e_304 e_305 e_307), (by rw [e_8, (Eq.trans (Eq.symm (Fr.aI u_245 kSM_1 (by decide))) e_271)]; exact g_308)⟩ dX12_beyond_95
    · -- 16
      replace HE : FT = g6_X12_beyond (xso SM ad ws0) v_10.toInt a1.toInt := HE.trans (if_pos (o32_111 l2 u2 e_15 c_16 e_18 c_19))
      refine y_c1 (n := (-1)) C0 (by decide) dX12_beyond_19 (fun v_309 e_310 => ?_)
      refine lv_goto (tgt := 24) C0.1 C0.2.1 dX12_beyond_20 (by decide) ?_
      refine y_add C0 (o32_172 l1 u1 (Int.le_trans f_7.1 e_5) (Int.le_trans e_6 f_7.2) e_9 e_11 e_12 e_13 e_310 (le_min v_10) (le_max v_10) (le_min v_309) (le_max v_309) (le_min a1) (le_max a1) (le_min v_3) (le_max v_3)) (o32_173 l1 u1 (Int.le_trans f_7.1 e_5) (Int.le_trans e_6 f_7.2) e_9 e_11 e_12 e_13 e_310 (le_min v_10) (le_max v_10) (le_min v_309) (le_max v_309) (le_min a1) (le_max a1) (le_min v_3) (le_max v_3)) dX12_beyond_24 (fun v_311 e_312 => ?_)
      refine lv_istore_n (lv' := [(3, .int v_311), (0, .ref (ad 1)), (1, .int a1), (2, .int a2)]) C0.1 C0.2.1 dX12_beyond_25 rfl hl (by decide) rfl (fun ls hl => ?_)
      refine lv_iload_n C0.1 C0.2.1 dX12_beyond_26 rfl (lv_at hl 2 rfl) ?_
      refine lv_aload_n C0.1 C0.2.1 dX12_beyond_27 rfl (lv_at hl 1 rfl) ?_
      refine y_c1 (n := 1) C0 (by decide) dX12_beyond_28 (fun v_313 e_314 => ?_)
      refine y_iald C0 h kSM_1 rfl (by decide) (o32_5 e_314) (o32_38 e_314) dX12_beyond_29 (fun v_315 e_316 e_317 e_318 => ?_)
      have f_319 := o32_39 v_313.toInt.toNat (o32_40 e_314) (o32_41 e_314)
      have e_320 : aI ws0 1 1 = v_315 := (congrArg (aI ws0 1) (ix_c (c := 1) (o32_42 e_314))).symm.trans e_316
      have qh_321 : v_315.toInt = v_3.toInt := congrArg Int32.toInt (e_320.symm.trans (Eq.trans rfl e_8))
      have e_322 := laid_1 (Laid.pa hLd Pa.rf) e_320
      refine y_divXm C0 (o32_174 l1 u1 (Int.le_trans f_7.1 e_5) (Int.le_trans e_6 f_7.2) e_9 e_11 e_12 e_13 e_310 e_312 (Int.le_trans f_319.1 e_317) (Int.le_trans e_318 f_319.2) qh_321 e_322) (o32_175 l1 u1 (Int.le_trans f_7.1 e_5) (Int.le_trans e_6 f_7.2) e_9 e_11 e_12 e_13 e_310 e_312 (Int.le_trans f_319.1 e_317) (Int.le_trans e_318 f_319.2) qh_321 e_322) dX12_beyond_30 (fun v_323 e_324 e_325 e_326 => ?_)
      refine lv_iload_n C0.1 C0.2.1 dX12_beyond_31 rfl (lv_at hl 3 rfl) ?_
      refine y_c1 (n := 2) C0 (by decide) dX12_beyond_32 (fun v_327 e_328 => ?_)
      refine y_icmp_ne (tgt := 40) C0 dX12_beyond_33 (by decide) (fun c_329 => ?_) (fun c_329 => ((o32_176 l2 u2 e_15 c_16 e_18 c_19 e_328 c_329)).elim)
      refine lv_iload_n C0.1 C0.2.1 dX12_beyond_40 rfl (lv_at hl 3 rfl) ?_
      refine y_if_ne (tgt := 48) C0 dX12_beyond_41 (by decide) (fun c_330 => ?_) (fun c_330 => ((o32_177 l2 u2 e_15 c_16 e_18 c_19 e_328 c_329 c_330)).elim)
      refine y_c1 (n := 0) C0 (by decide) dX12_beyond_48 (fun v_331 e_332 => ?_)
      refine y_add C0 (o32_178 l1 u1 (Int.le_trans f_7.1 e_5) (Int.le_trans e_6 f_7.2) e_9 e_11 e_12 e_13 e_310 e_312 (Int.le_trans f_319.1 e_317) (Int.le_trans e_318 f_319.2) qh_321 e_322 e_324 e_325 e_326 e_332 (le_min v_323) (le_max v_323) (le_min v_331) (le_max v_331) (le_min a1) (le_max a1) (le_min v_3) (le_max v_3) (le_min v_10) (le_max v_10) (le_min v_309) (le_max v_309) (le_min v_311) (le_max v_311) (le_min v_315) (le_max v_315)) (o32_179 l1 u1 (Int.le_trans f_7.1 e_5) (Int.le_trans e_6 f_7.2) e_9 e_11 e_12 e_13 e_310 e_312 (Int.le_trans f_319.1 e_317) (Int.le_trans e_318 f_319.2) qh_321 e_322 e_324 e_325 e_326 e_332 (le_min v_323) (le_max v_323) (le_min v_331) (le_max v_331) (le_min a1) (le_max a1) (le_min v_3) (le_max v_3) (le_min v_10) (le_max v_10) (le_min v_309) (le_max v_309) (le_min v_311) (le_max v_311) (le_min v_315) (le_max v_315)) dX12_beyond_49 (fun v_333 e_334 => ?_)
      refine lv_istore (lv' := [(4, .int v_333), (3, .int v_311), (0, .ref (ad 1)), (1, .int a1), (2, .int a2)]) C0.1 C0.2.1 dX12_beyond_50 hl (by decide) rfl (fun ls hl => ?_)
      refine lv_iload_n C0.1 C0.2.1 dX12_beyond_52 rfl (lv_at hl 1 rfl) ?_
      refine y_i2l C0 dX12_beyond_53 (fun w_335 e_336 => ?_)
      refine y_lc (v := 0) C0 (by decide) dX12_beyond_54 (fun w_337 e_338 => ?_)
      refine lv_aload_n C0.1 C0.2.1 dX12_beyond_55 rfl (lv_at hl 2 rfl) ?_
      refine y_c1 (n := 1) C0 (by decide) dX12_beyond_56 (fun v_339 e_340 => ?_)
      refine y_iald C0 h kSM_1 rfl (by decide) (o32_5 e_340) (o32_38 e_340) dX12_beyond_57 (fun v_341 e_342 e_343 e_344 => ?_)
      have f_345 := o32_39 v_339.toInt.toNat (o32_40 e_340) (o32_41 e_340)
      have e_346 : aI ws0 1 1 = v_341 := (congrArg (aI ws0 1) (ix_c (c := 1) (o32_42 e_340))).symm.trans e_342
      have qh_347 : v_341.toInt = v_3.toInt := congrArg Int32.toInt (e_346.symm.trans (Eq.trans rfl e_8))
      have e_348 := laid_1 (Laid.pa hLd Pa.rf) e_346
      refine y_c1 (n := 1) C0 (by decide) dX12_beyond_58 (fun v_349 e_350 => ?_)
      refine y_sub C0 (o32_180 l1 u1 (Int.le_trans f_7.1 e_5) (Int.le_trans e_6 f_7.2) e_9 e_11 e_12 e_13 e_310 e_312 (Int.le_trans f_319.1 e_317) (Int.le_trans e_318 f_319.2) qh_321 e_322 e_324 e_325 e_326 e_332 e_334 e_336 (Int.le_trans f_345.1 e_343) (Int.le_trans e_344 f_345.2) qh_347 e_348 e_350 (le_min v_341) (le_max v_341) (le_min v_349) (le_max v_349) (le_min a1) (le_max a1) (le_min v_3) (le_max v_3) (le_min v_10) (le_max v_10) (le_min v_309) (le_max v_309) (le_min v_311) (le_max v_311) (le_min v_315) (le_max v_315) (le_min v_323) (le_max v_323) (le_min v_331) (le_max v_331) (le_min v_333) (le_max v_333)) (o32_181 l1 u1 (Int.le_trans f_7.1 e_5) (Int.le_trans e_6 f_7.2) e_9 e_11 e_12 e_13 e_310 e_312 (Int.le_trans f_319.1 e_317) (Int.le_trans e_318 f_319.2) qh_321 e_322 e_324 e_325 e_326 e_332 e_334 e_336 (Int.le_trans f_345.1 e_343) (Int.le_trans e_344 f_345.2) qh_347 e_348 e_350 (le_min v_341) (le_max v_341) (le_min v_349) (le_max v_349) (le_min a1) (le_max a1) (le_min v_3) (le_max v_3) (le_min v_10) (le_max v_10) (le_min v_309) (le_max v_309) (le_min v_311) (le_max v_311) (le_min v_315) (le_max v_315) (le_min v_323) (le_max v_323) (le_min v_331) (le_max v_331) (le_min v_333) (le_max v_333)) dX12_beyond_59 (fun v_351 e_352 => ?_)
      refine y_i2l C0 dX12_beyond_60 (fun w_353 e_354 => ?_)
      refine y_ci h (y_rS (As := [.long w_335, .long w_337, .long w_353]) (rest := []) C0 hZ h (c_X12_within l G Z ad _ h.2 w_335 w_337 w_353) k_X12_within q_1580 q_1579 hl.1 rfl rfl (Nat.le_of_ble_eq_true rfl) dX12_beyond_61 ⟨Nat.le_of_ble_eq_true rfl, Nat.le_of_ble_eq_true rfl⟩ ⟨Nat.le_of_ble_eq_true rfl, Nat.le_of_ble_eq_true rfl⟩) (fun r_358 H locs ws_355 h u_356 p_357 => ?_)
      obtain ⟨e_359, e_360, e_361, e_362, e_363⟩ := p_357
      replace HE : FT = g37c_X12_beyond (xso SM ad ws_355) r_358.toInt v_311.toInt v_333.toInt := HE.trans (by rw [e_359, e_334, e_332, e_324, (xg1 e_316 : v_315.toInt = (xso SM ad ws0) 1 1 v_313.toInt.toNat), e_314, e_360, e_354, e_352, e_350, (xg1 e_342 : v_341.toInt = (xso SM ad ws0) 1 1 v_339.toInt.toNat), e_340, e_338, e_336, e_312, e_310]; rfl)
      replace HE : FT = g38b_X12_beyond (xso SM ad ws_355) r_358.toInt v_311.toInt v_333.toInt := HE.trans rfl
      refine y_if_eq (tgt := 94) C0 dX12_beyond_64 (by decide) (fun c_364 => ?_) (fun c_364 => ?_)
      · -- 64
        replace HE : FT = g39_X12_beyond (xso SM ad ws_355) := HE.trans (if_pos c_364)
        refine y_c1 (n := (-1)) C0 (by decide) dX12_beyond_94 (fun v_365 e_366 => ?_)
        replace HE : FT = ((xso SM ad ws_355), v_365.toInt) := HE.trans (by rw [e_366]; rfl)
        obtain ⟨f_368, e_369⟩ : ∃ v, aI ws_355 1 2 = v := ⟨_, rfl⟩
        have b_370 := ty_aI 2 h.2 kSM_1 rfl (by decide)
        rw [e_369] at b_370
        have g_367 : v_365.toInt = beyF v_3.toInt f_368.toInt a1.toInt a2.toInt := by
          unfold beyF
          rw [if_neg]
          · omega
          · have hd : v_323.toInt = a1.toInt / v_3.toInt := by rw [e_324, (o32_182 l1 u1 (Int.le_trans f_7.1 e_5) (Int.le_trans e_6 f_7.2) e_9 e_11 e_12 e_13 e_310 e_312 (Int.le_trans f_319.1 e_317) (Int.le_trans e_318 f_319.2) qh_321 e_322 e_324 e_325 e_326 e_332 e_334 e_336 e_338 (Int.le_trans f_345.1 e_343) (Int.le_trans e_344 f_345.2) qh_347 e_348 e_350 e_352 e_354 e_361 e_362 e_363 c_364)]
            intro hq
            obtain ⟨q1, q2, q3, q4⟩ := hq
            (repeat' split at q1) <;> (repeat' split at q3) <;> omega
        rw [hQ]
        exact y_iret C0 h u_356 ⟨(congrArg Prod.fst (HE.symm.trans hFT)), (congrArg Prod.snd (HE.symm.trans hFT)), (o32_12 e_366), (o32_122 e_366), (by rw [e_8, (Eq.trans (Eq.symm (Fr.aI u_356 kSM_1 (by decide))) e_369)]; exact g_367)⟩ dX12_beyond_95
      · -- 64
        replace HE : FT = g40_X12_beyond (xso SM ad ws_355) v_311.toInt v_333.toInt := HE.trans (if_neg c_364)
        refine lv_iload C0.1 C0.2.1 dX12_beyond_67 (lv_at hl 0 rfl) ?_
        refine y_i2l C0 dX12_beyond_69 (fun w_371 e_372 => ?_)
        refine y_lc (v := 0) C0 (by decide) dX12_beyond_70 (fun w_373 e_374 => ?_)
        refine lv_aload_n C0.1 C0.2.1 dX12_beyond_71 rfl (lv_at hl 2 rfl) ?_
        refine y_c1 (n := 2) C0 (by decide) dX12_beyond_72 (fun v_375 e_376 => ?_)
        refine y_iald C0 h kSM_1 rfl (by decide) (o32_43 e_376) (o32_44 e_376) dX12_beyond_73 (fun v_377 e_378 e_379 e_380 => ?_)
        have f_381 := o32_45 v_375.toInt.toNat (o32_46 e_376) (o32_47 e_376)
        have e_382 : aI ws_355 1 2 = v_377 := (congrArg (aI ws_355 1) (ix_c (c := 2) (o32_48 e_376))).symm.trans e_378
        have e_383 := laid_2 (Laid.pa hLd (Pa.fr u_356 (by decide))) e_382
        refine y_c1 (n := 1) C0 (by decide) dX12_beyond_74 (fun v_384 e_385 => ?_)
        refine y_sub C0 (o32_124 (Int.le_trans f_381.1 e_379) (Int.le_trans e_380 f_381.2) e_383 e_385 (le_min v_377) (le_max v_377) (le_min v_384) (le_max v_384)) (o32_125 (Int.le_trans f_381.1 e_379) (Int.le_trans e_380 f_381.2) e_383 e_385 (le_min v_377) (le_max v_377) (le_min v_384) (le_max v_384)) dX12_beyond_75 (fun v_386 e_387 => ?_)
        refine y_i2l C0 dX12_beyond_76 (fun w_388 e_389 => ?_)
        refine y_ci h (y_rS (As := [.long w_371, .long w_373, .long w_388]) (rest := []) C0 hZ h (c_X12_within l G Z ad _ h.2 w_371 w_373 w_388) k_X12_within q_1580 q_1579 hl.1 rfl rfl (Nat.le_of_ble_eq_true rfl) dX12_beyond_77 ⟨Nat.le_of_ble_eq_true rfl, Nat.le_of_ble_eq_true rfl⟩ ⟨Nat.le_of_ble_eq_true rfl, Nat.le_of_ble_eq_true rfl⟩) (fun r_393 H locs ws_390 h u_391 p_392 => ?_)
        obtain ⟨e_394, e_395, e_396, e_397, e_398⟩ := p_392
        replace HE : FT = g41c_X12_beyond (xso SM ad ws_390) r_393.toInt v_311.toInt v_333.toInt := HE.trans (by rw [e_394, e_395, e_389, e_387, e_385, (xg1 e_378 : v_377.toInt = (xso SM ad ws_355) 1 1 v_375.toInt.toNat), e_376, e_374, e_372]; rfl)
        replace HE : FT = g42b_X12_beyond (xso SM ad ws_390) r_393.toInt v_311.toInt v_333.toInt := HE.trans rfl
        refine y_if_eq (tgt := 94) C0 dX12_beyond_80 (by decide) (fun c_399 => ?_) (fun c_399 => ?_)
        · -- 80
          replace HE : FT = g43_X12_beyond (xso SM ad ws_390) := HE.trans (if_pos c_399)
          refine y_c1 (n := (-1)) C0 (by decide) dX12_beyond_94 (fun v_400 e_401 => ?_)
          replace HE : FT = ((xso SM ad ws_390), v_400.toInt) := HE.trans (by rw [e_401]; rfl)
          have g_402 : v_400.toInt = beyF v_3.toInt v_377.toInt a1.toInt a2.toInt := by
            unfold beyF
            rw [if_neg]
            · omega
            · have hd : v_323.toInt = a1.toInt / v_3.toInt := by rw [e_324, (o32_183 l1 u1 (Int.le_trans f_7.1 e_5) (Int.le_trans e_6 f_7.2) e_9 e_11 e_12 e_13 e_310 e_312 (Int.le_trans f_319.1 e_317) (Int.le_trans e_318 f_319.2) qh_321 e_322 e_324 e_325 e_326 e_332 e_334 e_336 e_338 (Int.le_trans f_345.1 e_343) (Int.le_trans e_344 f_345.2) qh_347 e_348 e_350 e_352 e_354 e_361 e_362 e_363 c_364 e_372 e_374 (Int.le_trans f_381.1 e_379) (Int.le_trans e_380 f_381.2) e_383 e_385 e_387 e_389 e_396 e_397 e_398 c_399)]
              intro hq
              obtain ⟨q1, q2, q3, q4⟩ := hq
              (repeat' split at q1) <;> (repeat' split at q3) <;> omega
          rw [hQ]
          exact y_iret C0 h (Fr.tr u_356 u_391) ⟨(congrArg Prod.fst (HE.symm.trans hFT)), (congrArg Prod.snd (HE.symm.trans hFT)), (o32_12 e_401), (o32_122 e_401), (by rw [e_8, (Eq.trans (Eq.symm (Fr.aI u_356 kSM_1 (by decide))) e_382)]; exact g_402)⟩ dX12_beyond_95
        · -- 80
          replace HE : FT = g44_X12_beyond (xso SM ad ws_390) v_311.toInt v_333.toInt := HE.trans (if_neg c_399)
          refine lv_aload_n C0.1 C0.2.1 dX12_beyond_83 rfl (lv_at hl 2 rfl) ?_
          refine y_c1 (n := 1) C0 (by decide) dX12_beyond_84 (fun v_403 e_404 => ?_)
          refine y_iald C0 h kSM_1 rfl (by decide) (o32_5 e_404) (o32_38 e_404) dX12_beyond_85 (fun v_405 e_406 e_407 e_408 => ?_)
          have f_409 := o32_39 v_403.toInt.toNat (o32_40 e_404) (o32_41 e_404)
          have e_410 : aI ws_390 1 1 = v_405 := (congrArg (aI ws_390 1) (ix_c (c := 1) (o32_42 e_404))).symm.trans e_406
          have qh_411 : v_405.toInt = v_3.toInt := congrArg Int32.toInt (e_410.symm.trans (Eq.trans (Eq.trans (Fr.aI u_391 kSM_1 (by decide)) (Fr.aI u_356 kSM_1 (by decide))) e_8))
          have e_412 := laid_1 (Laid.pa hLd (Pa.tr (Pa.fr u_356 (by decide)) (Pa.fr u_391 (by decide)))) e_410
          refine lv_iload C0.1 C0.2.1 dX12_beyond_86 (lv_at hl 0 rfl) ?_
          refine y_mulb (la := 1) (ha := 5) (lb := 0) (hb := 4) C0 (by decide) (o32_184 l1 u1 (Int.le_trans f_7.1 e_5) (Int.le_trans e_6 f_7.2) e_9 e_11 e_12 e_13 e_310 e_312 (Int.le_trans f_319.1 e_317) (Int.le_trans e_318 f_319.2) qh_321 e_322 e_324 e_325 e_326 e_332 e_334 e_336 e_338 (Int.le_trans f_345.1 e_343) (Int.le_trans e_344 f_345.2) qh_347 e_348 e_350 e_352 e_354 e_361 e_362 e_363 c_364 e_372 e_374 (Int.le_trans f_381.1 e_379) (Int.le_trans e_380 f_381.2) e_383 e_385 e_387 e_389 e_396 e_397 e_398 c_399 (Int.le_trans f_409.1 e_407) (Int.le_trans e_408 f_409.2) qh_411 e_412) (o32_185 l1 u1 (Int.le_trans f_7.1 e_5) (Int.le_trans e_6 f_7.2) e_9 e_11 e_12 e_13 e_310 e_312 (Int.le_trans f_319.1 e_317) (Int.le_trans e_318 f_319.2) qh_321 e_322 e_324 e_325 e_326 e_332 e_334 e_336 e_338 (Int.le_trans f_345.1 e_343) (Int.le_trans e_344 f_345.2) qh_347 e_348 e_350 e_352 e_354 e_361 e_362 e_363 c_364 e_372 e_374 (Int.le_trans f_381.1 e_379) (Int.le_trans e_380 f_381.2) e_383 e_385 e_387 e_389 e_396 e_397 e_398 c_399 (Int.le_trans f_409.1 e_407) (Int.le_trans e_408 f_409.2) qh_411 e_412) (by decide) (o32_186 l1 u1 (Int.le_trans f_7.1 e_5) (Int.le_trans e_6 f_7.2) e_9 e_11 e_12 e_13 e_310 e_312 (Int.le_trans f_319.1 e_317) (Int.le_trans e_318 f_319.2) qh_321 e_322 e_324 e_325 e_326 e_332 e_334 e_336 e_338 (Int.le_trans f_345.1 e_343) (Int.le_trans e_344 f_345.2) qh_347 e_348 e_350 e_352 e_354 e_361 e_362 e_363 c_364 e_372 e_374 (Int.le_trans f_381.1 e_379) (Int.le_trans e_380 f_381.2) e_383 e_385 e_387 e_389 e_396 e_397 e_398 c_399 (Int.le_trans f_409.1 e_407) (Int.le_trans e_408 f_409.2) qh_411 e_412) (o32_187 l1 u1 (Int.le_trans f_7.1 e_5) (Int.le_trans e_6 f_7.2) e_9 e_11 e_12 e_13 e_310 e_312 (Int.le_trans f_319.1 e_317) (Int.le_trans e_318 f_319.2) qh_321 e_322 e_324 e_325 e_326 e_332 e_334 e_336 e_338 (Int.le_trans f_345.1 e_343) (Int.le_trans e_344 f_345.2) qh_347 e_348 e_350 e_352 e_354 e_361 e_362 e_363 c_364 e_372 e_374 (Int.le_trans f_381.1 e_379) (Int.le_trans e_380 f_381.2) e_383 e_385 e_387 e_389 e_396 e_397 e_398 c_399 (Int.le_trans f_409.1 e_407) (Int.le_trans e_408 f_409.2) qh_411 e_412) (by decide) dX12_beyond_88 (fun v_413 e_414 e_415 e_416 => ?_)
          refine lv_iload_n C0.1 C0.2.1 dX12_beyond_89 rfl (lv_at hl 1 rfl) ?_
          refine y_add C0 (o32_188 l1 u1 (Int.le_trans f_7.1 e_5) (Int.le_trans e_6 f_7.2) e_9 e_11 e_12 e_13 e_310 e_312 (Int.le_trans f_319.1 e_317) (Int.le_trans e_318 f_319.2) qh_321 e_322 e_324 e_325 e_326 e_332 e_334 e_336 e_338 (Int.le_trans f_345.1 e_343) (Int.le_trans e_344 f_345.2) qh_347 e_348 e_350 e_352 e_354 e_361 e_362 e_363 c_364 e_372 e_374 (Int.le_trans f_381.1 e_379) (Int.le_trans e_380 f_381.2) e_383 e_385 e_387 e_389 e_396 e_397 e_398 c_399 (Int.le_trans f_409.1 e_407) (Int.le_trans e_408 f_409.2) qh_411 e_412 e_415 e_416 (le_min v_413) (le_max v_413) (le_min v_311) (le_max v_311) (le_min a1) (le_max a1) (le_min v_3) (le_max v_3) (le_min v_10) (le_max v_10) (le_min v_309) (le_max v_309) (le_min v_315) (le_max v_315) (le_min v_323) (le_max v_323) (le_min v_331) (le_max v_331) (le_min v_333) (le_max v_333) (le_min v_341) (le_max v_341) (le_min v_349) (le_max v_349) (le_min v_351) (le_max v_351) (le_min r_358) (le_max r_358) (le_min v_377) (le_max v_377) (le_min v_384) (le_max v_384) (le_min v_386) (le_max v_386) (le_min r_393) (le_max r_393) (le_min v_405) (le_max v_405)) (o32_189 l1 u1 (Int.le_trans f_7.1 e_5) (Int.le_trans e_6 f_7.2) e_9 e_11 e_12 e_13 e_310 e_312 (Int.le_trans f_319.1 e_317) (Int.le_trans e_318 f_319.2) qh_321 e_322 e_324 e_325 e_326 e_332 e_334 e_336 e_338 (Int.le_trans f_345.1 e_343) (Int.le_trans e_344 f_345.2) qh_347 e_348 e_350 e_352 e_354 e_361 e_362 e_363 c_364 e_372 e_374 (Int.le_trans f_381.1 e_379) (Int.le_trans e_380 f_381.2) e_383 e_385 e_387 e_389 e_396 e_397 e_398 c_399 (Int.le_trans f_409.1 e_407) (Int.le_trans e_408 f_409.2) qh_411 e_412 e_415 e_416 (le_min v_413) (le_max v_413) (le_min v_311) (le_max v_311) (le_min a1) (le_max a1) (le_min v_3) (le_max v_3) (le_min v_10) (le_max v_10) (le_min v_309) (le_max v_309) (le_min v_315) (le_max v_315) (le_min v_323) (le_max v_323) (le_min v_331) (le_max v_331) (le_min v_333) (le_max v_333) (le_min v_341) (le_max v_341) (le_min v_349) (le_max v_349) (le_min v_351) (le_max v_351) (le_min r_358) (le_max r_358) (le_min v_377) (le_max v_377) (le_min v_384) (le_max v_384) (le_min v_386) (le_max v_386) (le_min r_393) (le_max r_393) (le_min v_405) (le_max v_405)) dX12_beyond_90 (fun v_417 e_418 => ?_)
          refine lv_goto (tgt := 95) C0.1 C0.2.1 dX12_beyond_91 (by decide) ?_
          replace HE : FT = ((xso SM ad ws_390), v_417.toInt) := HE.trans (by rw [e_418, e_414, (xg1 e_406 : v_405.toInt = (xso SM ad ws_390) 1 1 v_403.toInt.toNat), e_404]; rfl)
          have g_419 : v_417.toInt = beyF v_3.toInt v_377.toInt a1.toInt a2.toInt := by
            unfold beyF
            have hm : v_405.toInt * v_333.toInt = v_3.toInt * v_333.toInt := by rw [(o32_192 l1 u1 (Int.le_trans f_7.1 e_5) (Int.le_trans e_6 f_7.2) e_9 e_11 e_12 e_13 e_310 e_312 (Int.le_trans f_319.1 e_317) (Int.le_trans e_318 f_319.2) qh_321 e_322 e_324 e_325 e_326 e_332 e_334 e_336 e_338 (Int.le_trans f_345.1 e_343) (Int.le_trans e_344 f_345.2) qh_347 e_348 e_350 e_352 e_354 e_361 e_362 e_363 c_364 e_372 e_374 (Int.le_trans f_381.1 e_379) (Int.le_trans e_380 f_381.2) e_383 e_385 e_387 e_389 e_396 e_397 e_398 c_399 (Int.le_trans f_409.1 e_407) (Int.le_trans e_408 f_409.2) qh_411 e_412 e_415 e_416 e_418)]
            have hy : v_333.toInt = a1.toInt / v_3.toInt + (if a2.toInt = 2 then 1 else if a2.toInt = 0 then -1 else 0) := by
              have hd : v_323.toInt = a1.toInt / v_3.toInt := by rw [e_324, (o32_194 l1 u1 (Int.le_trans f_7.1 e_5) (Int.le_trans e_6 f_7.2) e_9 e_11 e_12 e_13 e_310 e_312 (Int.le_trans f_319.1 e_317) (Int.le_trans e_318 f_319.2) qh_321 e_322 e_324 e_325 e_326 e_332 e_334 e_336 e_338 (Int.le_trans f_345.1 e_343) (Int.le_trans e_344 f_345.2) qh_347 e_348 e_350 e_352 e_354 e_361 e_362 e_363 c_364 e_372 e_374 (Int.le_trans f_381.1 e_379) (Int.le_trans e_380 f_381.2) e_383 e_385 e_387 e_389 e_396 e_397 e_398 c_399 (Int.le_trans f_409.1 e_407) (Int.le_trans e_408 f_409.2) qh_411 e_412 e_415 e_416 e_418)]
              (repeat' split) <;> omega
            rw [← hy, if_pos (by refine ⟨?_, ?_, ?_, ?_⟩ <;> (repeat' split) <;> omega)]
            (repeat' split) <;> omega
          rw [hQ]
          exact y_iret C0 h (Fr.tr u_356 u_391) ⟨(congrArg Prod.fst (HE.symm.trans hFT)), (congrArg Prod.snd (HE.symm.trans hFT)), (o32_190 l1 u1 (Int.le_trans f_7.1 e_5) (Int.le_trans e_6 f_7.2) e_9 e_11 e_12 e_13 e_310 e_312 (Int.le_trans f_319.1 e_317) (Int.le_trans e_318 f_319.2) qh_321 e_322 e_324 e_325 e_326 e_332 e_334 e_336 e_338 (Int.le_trans f_345.1 e_343) (Int.le_trans e_344 f_345.2) qh_347 e_348 e_350 e_352 e_354 e_361 e_362 e_363 c_364 e_372 e_374 e_387 e_389 e_396 e_397 e_398 c_399 (Int.le_trans f_409.1 e_407) (Int.le_trans e_408 f_409.2) qh_411 e_412 e_415 e_416 e_418), (o32_191 l1 u1 (Int.le_trans f_7.1 e_5) (Int.le_trans e_6 f_7.2) e_9 e_11 e_12 e_13 e_310 e_312 (Int.le_trans f_319.1 e_317) (Int.le_trans e_318 f_319.2) qh_321 e_322 e_324 e_325 e_326 e_332 e_334 e_336 e_338 (Int.le_trans f_345.1 e_343) (Int.le_trans e_344 f_345.2) qh_347 e_348 e_350 e_352 e_354 e_361 e_362 e_363 c_364 e_372 e_374 e_387 e_389 e_396 e_397 e_398 c_399 (Int.le_trans f_409.1 e_407) (Int.le_trans e_408 f_409.2) qh_411 e_412 e_415 e_416 e_418), (by rw [e_8, (Eq.trans (Eq.symm (Fr.aI u_356 kSM_1 (by decide))) e_382)]; exact g_419)⟩ dX12_beyond_95
  · -- 7
    replace HE : FT = g3_X12_beyond (xso SM ad ws0) v_10.toInt a1.toInt := HE.trans (if_pos (o32_109 l2 u2 e_15 c_16))
    refine y_c1 (n := 1) C0 (by decide) dX12_beyond_10 (fun v_420 e_421 => ?_)
    refine lv_goto (tgt := 24) C0.1 C0.2.1 dX12_beyond_11 (by decide) ?_
    refine y_add C0 (o32_195 l1 u1 (Int.le_trans f_7.1 e_5) (Int.le_trans e_6 f_7.2) e_9 e_11 e_12 e_13 e_421 (le_min v_10) (le_max v_10) (le_min v_420) (le_max v_420) (le_min a1) (le_max a1) (le_min v_3) (le_max v_3)) (o32_196 l1 u1 (Int.le_trans f_7.1 e_5) (Int.le_trans e_6 f_7.2) e_9 e_11 e_12 e_13 e_421 (le_min v_10) (le_max v_10) (le_min v_420) (le_max v_420) (le_min a1) (le_max a1) (le_min v_3) (le_max v_3)) dX12_beyond_24 (fun v_422 e_423 => ?_)
    refine lv_istore_n (lv' := [(3, .int v_422), (0, .ref (ad 1)), (1, .int a1), (2, .int a2)]) C0.1 C0.2.1 dX12_beyond_25 rfl hl (by decide) rfl (fun ls hl => ?_)
    refine lv_iload_n C0.1 C0.2.1 dX12_beyond_26 rfl (lv_at hl 2 rfl) ?_
    refine lv_aload_n C0.1 C0.2.1 dX12_beyond_27 rfl (lv_at hl 1 rfl) ?_
    refine y_c1 (n := 1) C0 (by decide) dX12_beyond_28 (fun v_424 e_425 => ?_)
    refine y_iald C0 h kSM_1 rfl (by decide) (o32_5 e_425) (o32_38 e_425) dX12_beyond_29 (fun v_426 e_427 e_428 e_429 => ?_)
    have f_430 := o32_39 v_424.toInt.toNat (o32_40 e_425) (o32_41 e_425)
    have e_431 : aI ws0 1 1 = v_426 := (congrArg (aI ws0 1) (ix_c (c := 1) (o32_42 e_425))).symm.trans e_427
    have qh_432 : v_426.toInt = v_3.toInt := congrArg Int32.toInt (e_431.symm.trans (Eq.trans rfl e_8))
    have e_433 := laid_1 (Laid.pa hLd Pa.rf) e_431
    refine y_divXm C0 (o32_197 l1 u1 (Int.le_trans f_7.1 e_5) (Int.le_trans e_6 f_7.2) e_9 e_11 e_12 e_13 e_421 e_423 (Int.le_trans f_430.1 e_428) (Int.le_trans e_429 f_430.2) qh_432 e_433) (o32_198 l1 u1 (Int.le_trans f_7.1 e_5) (Int.le_trans e_6 f_7.2) e_9 e_11 e_12 e_13 e_421 e_423 (Int.le_trans f_430.1 e_428) (Int.le_trans e_429 f_430.2) qh_432 e_433) dX12_beyond_30 (fun v_434 e_435 e_436 e_437 => ?_)
    refine lv_iload_n C0.1 C0.2.1 dX12_beyond_31 rfl (lv_at hl 3 rfl) ?_
    refine y_c1 (n := 2) C0 (by decide) dX12_beyond_32 (fun v_438 e_439 => ?_)
    refine y_icmp_ne (tgt := 40) C0 dX12_beyond_33 (by decide) (fun c_440 => ?_) (fun c_440 => ((o32_199 l2 u2 e_15 c_16 e_439 c_440)).elim)
    refine lv_iload_n C0.1 C0.2.1 dX12_beyond_40 rfl (lv_at hl 3 rfl) ?_
    refine y_if_ne (tgt := 48) C0 dX12_beyond_41 (by decide) (fun c_441 => ?_) (fun c_441 => ((o32_200 l2 u2 e_15 c_16 e_439 c_440 c_441)).elim)
    refine y_c1 (n := 0) C0 (by decide) dX12_beyond_48 (fun v_442 e_443 => ?_)
    refine y_add C0 (o32_201 l1 u1 (Int.le_trans f_7.1 e_5) (Int.le_trans e_6 f_7.2) e_9 e_11 e_12 e_13 e_421 e_423 (Int.le_trans f_430.1 e_428) (Int.le_trans e_429 f_430.2) qh_432 e_433 e_435 e_436 e_437 e_443 (le_min v_434) (le_max v_434) (le_min v_442) (le_max v_442) (le_min a1) (le_max a1) (le_min v_3) (le_max v_3) (le_min v_10) (le_max v_10) (le_min v_420) (le_max v_420) (le_min v_422) (le_max v_422) (le_min v_426) (le_max v_426)) (o32_202 l1 u1 (Int.le_trans f_7.1 e_5) (Int.le_trans e_6 f_7.2) e_9 e_11 e_12 e_13 e_421 e_423 (Int.le_trans f_430.1 e_428) (Int.le_trans e_429 f_430.2) qh_432 e_433 e_435 e_436 e_437 e_443 (le_min v_434) (le_max v_434) (le_min v_442) (le_max v_442) (le_min a1) (le_max a1) (le_min v_3) (le_max v_3) (le_min v_10) (le_max v_10) (le_min v_420) (le_max v_420) (le_min v_422) (le_max v_422) (le_min v_426) (le_max v_426)) dX12_beyond_49 (fun v_444 e_445 => ?_)
    refine lv_istore (lv' := [(4, .int v_444), (3, .int v_422), (0, .ref (ad 1)), (1, .int a1), (2, .int a2)]) C0.1 C0.2.1 dX12_beyond_50 hl (by decide) rfl (fun ls hl => ?_)
    refine lv_iload_n C0.1 C0.2.1 dX12_beyond_52 rfl (lv_at hl 1 rfl) ?_
    refine y_i2l C0 dX12_beyond_53 (fun w_446 e_447 => ?_)
    refine y_lc (v := 0) C0 (by decide) dX12_beyond_54 (fun w_448 e_449 => ?_)
    refine lv_aload_n C0.1 C0.2.1 dX12_beyond_55 rfl (lv_at hl 2 rfl) ?_
    refine y_c1 (n := 1) C0 (by decide) dX12_beyond_56 (fun v_450 e_451 => ?_)
    refine y_iald C0 h kSM_1 rfl (by decide) (o32_5 e_451) (o32_38 e_451) dX12_beyond_57 (fun v_452 e_453 e_454 e_455 => ?_)
    have f_456 := o32_39 v_450.toInt.toNat (o32_40 e_451) (o32_41 e_451)
    have e_457 : aI ws0 1 1 = v_452 := (congrArg (aI ws0 1) (ix_c (c := 1) (o32_42 e_451))).symm.trans e_453
    have qh_458 : v_452.toInt = v_3.toInt := congrArg Int32.toInt (e_457.symm.trans (Eq.trans rfl e_8))
    have e_459 := laid_1 (Laid.pa hLd Pa.rf) e_457
    refine y_c1 (n := 1) C0 (by decide) dX12_beyond_58 (fun v_460 e_461 => ?_)
    refine y_sub C0 (o32_203 l1 u1 (Int.le_trans f_7.1 e_5) (Int.le_trans e_6 f_7.2) e_9 e_11 e_12 e_13 e_421 e_423 (Int.le_trans f_430.1 e_428) (Int.le_trans e_429 f_430.2) qh_432 e_433 e_435 e_436 e_437 e_443 e_445 e_447 (Int.le_trans f_456.1 e_454) (Int.le_trans e_455 f_456.2) qh_458 e_459 e_461 (le_min v_452) (le_max v_452) (le_min v_460) (le_max v_460) (le_min a1) (le_max a1) (le_min v_3) (le_max v_3) (le_min v_10) (le_max v_10) (le_min v_420) (le_max v_420) (le_min v_422) (le_max v_422) (le_min v_426) (le_max v_426) (le_min v_434) (le_max v_434) (le_min v_442) (le_max v_442) (le_min v_444) (le_max v_444)) (o32_204 l1 u1 (Int.le_trans f_7.1 e_5) (Int.le_trans e_6 f_7.2) e_9 e_11 e_12 e_13 e_421 e_423 (Int.le_trans f_430.1 e_428) (Int.le_trans e_429 f_430.2) qh_432 e_433 e_435 e_436 e_437 e_443 e_445 e_447 (Int.le_trans f_456.1 e_454) (Int.le_trans e_455 f_456.2) qh_458 e_459 e_461 (le_min v_452) (le_max v_452) (le_min v_460) (le_max v_460) (le_min a1) (le_max a1) (le_min v_3) (le_max v_3) (le_min v_10) (le_max v_10) (le_min v_420) (le_max v_420) (le_min v_422) (le_max v_422) (le_min v_426) (le_max v_426) (le_min v_434) (le_max v_434) (le_min v_442) (le_max v_442) (le_min v_444) (le_max v_444)) dX12_beyond_59 (fun v_462 e_463 => ?_)
    refine y_i2l C0 dX12_beyond_60 (fun w_464 e_465 => ?_)
    refine y_ci h (y_rS (As := [.long w_446, .long w_448, .long w_464]) (rest := []) C0 hZ h (c_X12_within l G Z ad _ h.2 w_446 w_448 w_464) k_X12_within q_1580 q_1579 hl.1 rfl rfl (Nat.le_of_ble_eq_true rfl) dX12_beyond_61 ⟨Nat.le_of_ble_eq_true rfl, Nat.le_of_ble_eq_true rfl⟩ ⟨Nat.le_of_ble_eq_true rfl, Nat.le_of_ble_eq_true rfl⟩) (fun r_469 H locs ws_466 h u_467 p_468 => ?_)
    obtain ⟨e_470, e_471, e_472, e_473, e_474⟩ := p_468
    replace HE : FT = g45c_X12_beyond (xso SM ad ws_466) r_469.toInt v_422.toInt v_444.toInt := HE.trans (by rw [e_470, e_445, e_443, e_435, (xg1 e_427 : v_426.toInt = (xso SM ad ws0) 1 1 v_424.toInt.toNat), e_425, e_471, e_465, e_463, e_461, (xg1 e_453 : v_452.toInt = (xso SM ad ws0) 1 1 v_450.toInt.toNat), e_451, e_449, e_447, e_423, e_421]; rfl)
    replace HE : FT = g46b_X12_beyond (xso SM ad ws_466) r_469.toInt v_422.toInt v_444.toInt := HE.trans rfl
    refine y_if_eq (tgt := 94) C0 dX12_beyond_64 (by decide) (fun c_475 => ?_) (fun c_475 => ?_)
    · -- 64
      replace HE : FT = g47_X12_beyond (xso SM ad ws_466) := HE.trans (if_pos c_475)
      refine y_c1 (n := (-1)) C0 (by decide) dX12_beyond_94 (fun v_476 e_477 => ?_)
      replace HE : FT = ((xso SM ad ws_466), v_476.toInt) := HE.trans (by rw [e_477]; rfl)
      obtain ⟨f_479, e_480⟩ : ∃ v, aI ws_466 1 2 = v := ⟨_, rfl⟩
      have b_481 := ty_aI 2 h.2 kSM_1 rfl (by decide)
      rw [e_480] at b_481
      have g_478 : v_476.toInt = beyF v_3.toInt f_479.toInt a1.toInt a2.toInt := by
        unfold beyF
        rw [if_neg]
        · omega
        · have hd : v_434.toInt = a1.toInt / v_3.toInt := by rw [e_435, (o32_205 l1 u1 (Int.le_trans f_7.1 e_5) (Int.le_trans e_6 f_7.2) e_9 e_11 e_12 e_13 e_421 e_423 (Int.le_trans f_430.1 e_428) (Int.le_trans e_429 f_430.2) qh_432 e_433 e_435 e_436 e_437 e_443 e_445 e_447 e_449 (Int.le_trans f_456.1 e_454) (Int.le_trans e_455 f_456.2) qh_458 e_459 e_461 e_463 e_465 e_472 e_473 e_474 c_475)]
          intro hq
          obtain ⟨q1, q2, q3, q4⟩ := hq
          (repeat' split at q1) <;> (repeat' split at q3) <;> omega
      rw [hQ]
      exact y_iret C0 h u_467 ⟨(congrArg Prod.fst (HE.symm.trans hFT)), (congrArg Prod.snd (HE.symm.trans hFT)), (o32_12 e_477), (o32_122 e_477), (by rw [e_8, (Eq.trans (Eq.symm (Fr.aI u_467 kSM_1 (by decide))) e_480)]; exact g_478)⟩ dX12_beyond_95
    · -- 64
      replace HE : FT = g48_X12_beyond (xso SM ad ws_466) v_422.toInt v_444.toInt := HE.trans (if_neg c_475)
      refine lv_iload C0.1 C0.2.1 dX12_beyond_67 (lv_at hl 0 rfl) ?_
      refine y_i2l C0 dX12_beyond_69 (fun w_482 e_483 => ?_)
      refine y_lc (v := 0) C0 (by decide) dX12_beyond_70 (fun w_484 e_485 => ?_)
      refine lv_aload_n C0.1 C0.2.1 dX12_beyond_71 rfl (lv_at hl 2 rfl) ?_
      refine y_c1 (n := 2) C0 (by decide) dX12_beyond_72 (fun v_486 e_487 => ?_)
      refine y_iald C0 h kSM_1 rfl (by decide) (o32_43 e_487) (o32_44 e_487) dX12_beyond_73 (fun v_488 e_489 e_490 e_491 => ?_)
      have f_492 := o32_45 v_486.toInt.toNat (o32_46 e_487) (o32_47 e_487)
      have e_493 : aI ws_466 1 2 = v_488 := (congrArg (aI ws_466 1) (ix_c (c := 2) (o32_48 e_487))).symm.trans e_489
      have e_494 := laid_2 (Laid.pa hLd (Pa.fr u_467 (by decide))) e_493
      refine y_c1 (n := 1) C0 (by decide) dX12_beyond_74 (fun v_495 e_496 => ?_)
      refine y_sub C0 (o32_124 (Int.le_trans f_492.1 e_490) (Int.le_trans e_491 f_492.2) e_494 e_496 (le_min v_488) (le_max v_488) (le_min v_495) (le_max v_495)) (o32_125 (Int.le_trans f_492.1 e_490) (Int.le_trans e_491 f_492.2) e_494 e_496 (le_min v_488) (le_max v_488) (le_min v_495) (le_max v_495)) dX12_beyond_75 (fun v_497 e_498 => ?_)
      refine y_i2l C0 dX12_beyond_76 (fun w_499 e_500 => ?_)
      refine y_ci h (y_rS (As := [.long w_482, .long w_484, .long w_499]) (rest := []) C0 hZ h (c_X12_within l G Z ad _ h.2 w_482 w_484 w_499) k_X12_within q_1580 q_1579 hl.1 rfl rfl (Nat.le_of_ble_eq_true rfl) dX12_beyond_77 ⟨Nat.le_of_ble_eq_true rfl, Nat.le_of_ble_eq_true rfl⟩ ⟨Nat.le_of_ble_eq_true rfl, Nat.le_of_ble_eq_true rfl⟩) (fun r_504 H locs ws_501 h u_502 p_503 => ?_)
      obtain ⟨e_505, e_506, e_507, e_508, e_509⟩ := p_503
      replace HE : FT = g49c_X12_beyond (xso SM ad ws_501) r_504.toInt v_422.toInt v_444.toInt := HE.trans (by rw [e_505, e_506, e_500, e_498, e_496, (xg1 e_489 : v_488.toInt = (xso SM ad ws_466) 1 1 v_486.toInt.toNat), e_487, e_485, e_483]; rfl)
      replace HE : FT = g50b_X12_beyond (xso SM ad ws_501) r_504.toInt v_422.toInt v_444.toInt := HE.trans rfl
      refine y_if_eq (tgt := 94) C0 dX12_beyond_80 (by decide) (fun c_510 => ?_) (fun c_510 => ?_)
      · -- 80
        replace HE : FT = g51_X12_beyond (xso SM ad ws_501) := HE.trans (if_pos c_510)
        refine y_c1 (n := (-1)) C0 (by decide) dX12_beyond_94 (fun v_511 e_512 => ?_)
        replace HE : FT = ((xso SM ad ws_501), v_511.toInt) := HE.trans (by rw [e_512]; rfl)
        have g_513 : v_511.toInt = beyF v_3.toInt v_488.toInt a1.toInt a2.toInt := by
          unfold beyF
          rw [if_neg]
          · omega
          · have hd : v_434.toInt = a1.toInt / v_3.toInt := by rw [e_435, (o32_206 l1 u1 (Int.le_trans f_7.1 e_5) (Int.le_trans e_6 f_7.2) e_9 e_11 e_12 e_13 e_421 e_423 (Int.le_trans f_430.1 e_428) (Int.le_trans e_429 f_430.2) qh_432 e_433 e_435 e_436 e_437 e_443 e_445 e_447 e_449 (Int.le_trans f_456.1 e_454) (Int.le_trans e_455 f_456.2) qh_458 e_459 e_461 e_463 e_465 e_472 e_473 e_474 c_475 e_483 e_485 (Int.le_trans f_492.1 e_490) (Int.le_trans e_491 f_492.2) e_494 e_496 e_498 e_500 e_507 e_508 e_509 c_510)]
            intro hq
            obtain ⟨q1, q2, q3, q4⟩ := hq
            (repeat' split at q1) <;> (repeat' split at q3) <;> omega
        rw [hQ]
        exact y_iret C0 h (Fr.tr u_467 u_502) ⟨(congrArg Prod.fst (HE.symm.trans hFT)), (congrArg Prod.snd (HE.symm.trans hFT)), (o32_12 e_512), (o32_122 e_512), (by rw [e_8, (Eq.trans (Eq.symm (Fr.aI u_467 kSM_1 (by decide))) e_493)]; exact g_513)⟩ dX12_beyond_95
      · -- 80
        replace HE : FT = g52_X12_beyond (xso SM ad ws_501) v_422.toInt v_444.toInt := HE.trans (if_neg c_510)
        refine lv_aload_n C0.1 C0.2.1 dX12_beyond_83 rfl (lv_at hl 2 rfl) ?_
        refine y_c1 (n := 1) C0 (by decide) dX12_beyond_84 (fun v_514 e_515 => ?_)
        refine y_iald C0 h kSM_1 rfl (by decide) (o32_5 e_515) (o32_38 e_515) dX12_beyond_85 (fun v_516 e_517 e_518 e_519 => ?_)
        have f_520 := o32_39 v_514.toInt.toNat (o32_40 e_515) (o32_41 e_515)
        have e_521 : aI ws_501 1 1 = v_516 := (congrArg (aI ws_501 1) (ix_c (c := 1) (o32_42 e_515))).symm.trans e_517
        have qh_522 : v_516.toInt = v_3.toInt := congrArg Int32.toInt (e_521.symm.trans (Eq.trans (Eq.trans (Fr.aI u_502 kSM_1 (by decide)) (Fr.aI u_467 kSM_1 (by decide))) e_8))
        have e_523 := laid_1 (Laid.pa hLd (Pa.tr (Pa.fr u_467 (by decide)) (Pa.fr u_502 (by decide)))) e_521
        refine lv_iload C0.1 C0.2.1 dX12_beyond_86 (lv_at hl 0 rfl) ?_
        refine y_mulb (la := 1) (ha := 5) (lb := 0) (hb := 4) C0 (by decide) (o32_207 l1 u1 (Int.le_trans f_7.1 e_5) (Int.le_trans e_6 f_7.2) e_9 e_11 e_12 e_13 e_421 e_423 (Int.le_trans f_430.1 e_428) (Int.le_trans e_429 f_430.2) qh_432 e_433 e_435 e_436 e_437 e_443 e_445 e_447 e_449 (Int.le_trans f_456.1 e_454) (Int.le_trans e_455 f_456.2) qh_458 e_459 e_461 e_463 e_465 e_472 e_473 e_474 c_475 e_483 e_485 (Int.le_trans f_492.1 e_490) (Int.le_trans e_491 f_492.2) e_494 e_496 e_498 e_500 e_507 e_508 e_509 c_510 (Int.le_trans f_520.1 e_518) (Int.le_trans e_519 f_520.2) qh_522 e_523) (o32_208 l1 u1 (Int.le_trans f_7.1 e_5) (Int.le_trans e_6 f_7.2) e_9 e_11 e_12 e_13 e_421 e_423 (Int.le_trans f_430.1 e_428) (Int.le_trans e_429 f_430.2) qh_432 e_433 e_435 e_436 e_437 e_443 e_445 e_447 e_449 (Int.le_trans f_456.1 e_454) (Int.le_trans e_455 f_456.2) qh_458 e_459 e_461 e_463 e_465 e_472 e_473 e_474 c_475 e_483 e_485 (Int.le_trans f_492.1 e_490) (Int.le_trans e_491 f_492.2) e_494 e_496 e_498 e_500 e_507 e_508 e_509 c_510 (Int.le_trans f_520.1 e_518) (Int.le_trans e_519 f_520.2) qh_522 e_523) (by decide) (o32_209 l1 u1 (Int.le_trans f_7.1 e_5) (Int.le_trans e_6 f_7.2) e_9 e_11 e_12 e_13 e_421 e_423 (Int.le_trans f_430.1 e_428) (Int.le_trans e_429 f_430.2) qh_432 e_433 e_435 e_436 e_437 e_443 e_445 e_447 e_449 (Int.le_trans f_456.1 e_454) (Int.le_trans e_455 f_456.2) qh_458 e_459 e_461 e_463 e_465 e_472 e_473 e_474 c_475 e_483 e_485 (Int.le_trans f_492.1 e_490) (Int.le_trans e_491 f_492.2) e_494 e_496 e_498 e_500 e_507 e_508 e_509 c_510 (Int.le_trans f_520.1 e_518) (Int.le_trans e_519 f_520.2) qh_522 e_523) (o32_210 l1 u1 (Int.le_trans f_7.1 e_5) (Int.le_trans e_6 f_7.2) e_9 e_11 e_12 e_13 e_421 e_423 (Int.le_trans f_430.1 e_428) (Int.le_trans e_429 f_430.2) qh_432 e_433 e_435 e_436 e_437 e_443 e_445 e_447 e_449 (Int.le_trans f_456.1 e_454) (Int.le_trans e_455 f_456.2) qh_458 e_459 e_461 e_463 e_465 e_472 e_473 e_474 c_475 e_483 e_485 (Int.le_trans f_492.1 e_490) (Int.le_trans e_491 f_492.2) e_494 e_496 e_498 e_500 e_507 e_508 e_509 c_510 (Int.le_trans f_520.1 e_518) (Int.le_trans e_519 f_520.2) qh_522 e_523) (by decide) dX12_beyond_88 (fun v_524 e_525 e_526 e_527 => ?_)
        refine lv_iload_n C0.1 C0.2.1 dX12_beyond_89 rfl (lv_at hl 1 rfl) ?_
        refine y_add C0 (o32_211 l1 u1 (Int.le_trans f_7.1 e_5) (Int.le_trans e_6 f_7.2) e_9 e_11 e_12 e_13 e_421 e_423 (Int.le_trans f_430.1 e_428) (Int.le_trans e_429 f_430.2) qh_432 e_433 e_435 e_436 e_437 e_443 e_445 e_447 e_449 (Int.le_trans f_456.1 e_454) (Int.le_trans e_455 f_456.2) qh_458 e_459 e_461 e_463 e_465 e_472 e_473 e_474 c_475 e_483 e_485 (Int.le_trans f_492.1 e_490) (Int.le_trans e_491 f_492.2) e_494 e_496 e_498 e_500 e_507 e_508 e_509 c_510 (Int.le_trans f_520.1 e_518) (Int.le_trans e_519 f_520.2) qh_522 e_523 e_526 e_527 (le_min v_524) (le_max v_524) (le_min v_422) (le_max v_422) (le_min a1) (le_max a1) (le_min v_3) (le_max v_3) (le_min v_10) (le_max v_10) (le_min v_420) (le_max v_420) (le_min v_426) (le_max v_426) (le_min v_434) (le_max v_434) (le_min v_442) (le_max v_442) (le_min v_444) (le_max v_444) (le_min v_452) (le_max v_452) (le_min v_460) (le_max v_460) (le_min v_462) (le_max v_462) (le_min r_469) (le_max r_469) (le_min v_488) (le_max v_488) (le_min v_495) (le_max v_495) (le_min v_497) (le_max v_497) (le_min r_504) (le_max r_504) (le_min v_516) (le_max v_516)) (o32_212 l1 u1 (Int.le_trans f_7.1 e_5) (Int.le_trans e_6 f_7.2) e_9 e_11 e_12 e_13 e_421 e_423 (Int.le_trans f_430.1 e_428) (Int.le_trans e_429 f_430.2) qh_432 e_433 e_435 e_436 e_437 e_443 e_445 e_447 e_449 (Int.le_trans f_456.1 e_454) (Int.le_trans e_455 f_456.2) qh_458 e_459 e_461 e_463 e_465 e_472 e_473 e_474 c_475 e_483 e_485 (Int.le_trans f_492.1 e_490) (Int.le_trans e_491 f_492.2) e_494 e_496 e_498 e_500 e_507 e_508 e_509 c_510 (Int.le_trans f_520.1 e_518) (Int.le_trans e_519 f_520.2) qh_522 e_523 e_526 e_527 (le_min v_524) (le_max v_524) (le_min v_422) (le_max v_422) (le_min a1) (le_max a1) (le_min v_3) (le_max v_3) (le_min v_10) (le_max v_10) (le_min v_420) (le_max v_420) (le_min v_426) (le_max v_426) (le_min v_434) (le_max v_434) (le_min v_442) (le_max v_442) (le_min v_444) (le_max v_444) (le_min v_452) (le_max v_452) (le_min v_460) (le_max v_460) (le_min v_462) (le_max v_462) (le_min r_469) (le_max r_469) (le_min v_488) (le_max v_488) (le_min v_495) (le_max v_495) (le_min v_497) (le_max v_497) (le_min r_504) (le_max r_504) (le_min v_516) (le_max v_516)) dX12_beyond_90 (fun v_528 e_529 => ?_)
        refine lv_goto (tgt := 95) C0.1 C0.2.1 dX12_beyond_91 (by decide) ?_
        replace HE : FT = ((xso SM ad ws_501), v_528.toInt) := HE.trans (by rw [e_529, e_525, (xg1 e_517 : v_516.toInt = (xso SM ad ws_501) 1 1 v_514.toInt.toNat), e_515]; rfl)
        have g_530 : v_528.toInt = beyF v_3.toInt v_488.toInt a1.toInt a2.toInt := by
          unfold beyF
          have hm : v_516.toInt * v_444.toInt = v_3.toInt * v_444.toInt := by rw [(o32_215 l1 u1 (Int.le_trans f_7.1 e_5) (Int.le_trans e_6 f_7.2) e_9 e_11 e_12 e_13 e_421 e_423 (Int.le_trans f_430.1 e_428) (Int.le_trans e_429 f_430.2) qh_432 e_433 e_435 e_436 e_437 e_443 e_445 e_447 e_449 (Int.le_trans f_456.1 e_454) (Int.le_trans e_455 f_456.2) qh_458 e_459 e_461 e_463 e_465 e_472 e_473 e_474 c_475 e_483 e_485 (Int.le_trans f_492.1 e_490) (Int.le_trans e_491 f_492.2) e_494 e_496 e_498 e_500 e_507 e_508 e_509 c_510 (Int.le_trans f_520.1 e_518) (Int.le_trans e_519 f_520.2) qh_522 e_523 e_526 e_527 e_529)]
          have hy : v_444.toInt = a1.toInt / v_3.toInt + (if a2.toInt = 2 then 1 else if a2.toInt = 0 then -1 else 0) := by
            have hd : v_434.toInt = a1.toInt / v_3.toInt := by rw [e_435, (o32_217 l1 u1 (Int.le_trans f_7.1 e_5) (Int.le_trans e_6 f_7.2) e_9 e_11 e_12 e_13 e_421 e_423 (Int.le_trans f_430.1 e_428) (Int.le_trans e_429 f_430.2) qh_432 e_433 e_435 e_436 e_437 e_443 e_445 e_447 e_449 (Int.le_trans f_456.1 e_454) (Int.le_trans e_455 f_456.2) qh_458 e_459 e_461 e_463 e_465 e_472 e_473 e_474 c_475 e_483 e_485 (Int.le_trans f_492.1 e_490) (Int.le_trans e_491 f_492.2) e_494 e_496 e_498 e_500 e_507 e_508 e_509 c_510 (Int.le_trans f_520.1 e_518) (Int.le_trans e_519 f_520.2) qh_522 e_523 e_526 e_527 e_529)]
            (repeat' split) <;> omega
          rw [← hy, if_pos (by refine ⟨?_, ?_, ?_, ?_⟩ <;> (repeat' split) <;> omega)]
          (repeat' split) <;> omega
        rw [hQ]
        exact y_iret C0 h (Fr.tr u_467 u_502) ⟨(congrArg Prod.fst (HE.symm.trans hFT)), (congrArg Prod.snd (HE.symm.trans hFT)), (o32_213 l1 u1 (Int.le_trans f_7.1 e_5) (Int.le_trans e_6 f_7.2) e_9 e_11 e_12 e_13 e_421 e_423 (Int.le_trans f_430.1 e_428) (Int.le_trans e_429 f_430.2) qh_432 e_433 e_435 e_436 e_437 e_443 e_445 e_447 e_449 (Int.le_trans f_456.1 e_454) (Int.le_trans e_455 f_456.2) qh_458 e_459 e_461 e_463 e_465 e_472 e_473 e_474 c_475 e_483 e_485 e_498 e_500 e_507 e_508 e_509 c_510 (Int.le_trans f_520.1 e_518) (Int.le_trans e_519 f_520.2) qh_522 e_523 e_526 e_527 e_529), (o32_214 l1 u1 (Int.le_trans f_7.1 e_5) (Int.le_trans e_6 f_7.2) e_9 e_11 e_12 e_13 e_421 e_423 (Int.le_trans f_430.1 e_428) (Int.le_trans e_429 f_430.2) qh_432 e_433 e_435 e_436 e_437 e_443 e_445 e_447 e_449 (Int.le_trans f_456.1 e_454) (Int.le_trans e_455 f_456.2) qh_458 e_459 e_461 e_463 e_465 e_472 e_473 e_474 c_475 e_483 e_485 e_498 e_500 e_507 e_508 e_509 c_510 (Int.le_trans f_520.1 e_518) (Int.le_trans e_519 f_520.2) qh_522 e_523 e_526 e_527 e_529), (by rw [e_8, (Eq.trans (Eq.symm (Fr.aI u_467 kSM_1 (by decide))) e_493)]; exact g_530)⟩ dX12_beyond_95
noncomputable def g5c_X12_streetFrom (s : XS) (r_24 : Int) : XR := (s, r_24)
noncomputable def g3_X12_streetFrom (s : XS) (a1 : Int) (a2 : Int) : XR := g5c_X12_streetFrom ((f_X12_beyond s a1 a2).1) (((f_X12_beyond s a1 a2).2))
noncomputable def g4_X12_streetFrom (s : XS) : XR := (s, ((-1)))
noncomputable def g2b_X12_streetFrom (s : XS) (r_14 : Int) (a1 : Int) (a2 : Int) : XR := if r_14 = 0 then g3_X12_streetFrom s a1 a2 else g4_X12_streetFrom s
noncomputable def g1c_X12_streetFrom (s : XS) (r_14 : Int) (a1 : Int) (a2 : Int) : XR := g2b_X12_streetFrom s r_14 a1 a2
noncomputable def f_X12_streetFrom (s : XS) (a1 : Int) (a2 : Int) : XR := g1c_X12_streetFrom ((f_X12_isIn s ((s 1 1 (Int.toNat (11 + a1)))) a2).1) (((f_X12_isIn s ((s 1 1 (Int.toNat (11 + a1)))) a2).2)) a1 a2
set_option maxHeartbeats 4000000 in
set_option maxRecDepth 100000 in
theorem c_X12_streetFrom (l : Launch) (G : GG) (Z : RZ) (ad : Nat → Nat) (ws0 : va_W) (hT : Ty G SM ad ws0) (a1 : Int32) (a2 : Int32) (l1 : 0 ≤ a1.toInt) (u1 : a1.toInt ≤ 24) (l2 : 0 ≤ a2.toInt) (u2 : a2.toInt ≤ 3) (hLd : Laid ws0) : Mq l yX12_streetFrom cX12_streetFrom 3 (some .int) 3 G Z [.ref (ad 0), .int a1, .int a2] ws0 (PI G SM ad [] ws0 (fun r u => (xso SM ad u = (f_X12_streetFrom (xso SM ad ws0) a1.toInt a2.toInt).1) ∧ (r.toInt = (f_X12_streetFrom (xso SM ad ws0) a1.toInt a2.toInt).2) ∧ ((-1) ≤ r.toInt) ∧ (r.toInt ≤ 24) ∧ (SF ws0 a1.toInt a2.toInt r.toInt))) := by
  refine Mq.start (by decide) (Nat.le_of_ble_eq_true rfl) ?_
  intro p e s m below meth c A ls C0 hZ h hl
  have hl : lv_has ls 3 [(0, .ref (ad 0)), (1, .int a1), (2, .int a2)] := hl
  have h : Wt G SM ad A s s.heap [] ws0 := ⟨h, hT⟩
  obtain ⟨args, hargs⟩ : ∃ z, z = ([.ref (ad 0), .int a1, .int a2] : List Value).toArray := ⟨_, rfl⟩
  rw [← hargs] at C0 ⊢
  have C0 : Cx p s m args meth c RX12 cX12_streetFrom 3 (some .int) := C0
  obtain ⟨Q, hQ⟩ : ∃ z, z = MQ below ((PI G SM ad [] ws0 (fun r u => (xso SM ad u = (f_X12_streetFrom (xso SM ad ws0) a1.toInt a2.toInt).1) ∧ (r.toInt = (f_X12_streetFrom (xso SM ad ws0) a1.toInt a2.toInt).2) ∧ ((-1) ≤ r.toInt) ∧ (r.toInt ≤ 24) ∧ (SF ws0 a1.toInt a2.toInt r.toInt))) A) args s 0 0 A := ⟨_, rfl⟩
  rw [← hQ]
  obtain ⟨FT, hFT⟩ : ∃ z, z = f_X12_streetFrom (xso SM ad ws0) a1.toInt a2.toInt := ⟨_, rfl⟩
  have HE : FT = f_X12_streetFrom (xso SM ad ws0) a1.toInt a2.toInt := hFT
  refine lv_aload_n C0.1 C0.2.1 dX12_streetFrom_0 rfl (lv_at hl 0 rfl) ?_
  refine ng_X12_all C0 h kSM_0 q_1439 dX12_streetFrom_1 ?_
  refine y_c2 (n := 11) C0 (by decide) dX12_streetFrom_4 (fun v_1 e_2 => ?_)
  refine lv_iload_n C0.1 C0.2.1 dX12_streetFrom_6 rfl (lv_at hl 1 rfl) ?_
  refine y_add C0 (o32_218 l1 u1 e_2 (le_min v_1) (le_max v_1) (le_min a1) (le_max a1)) (o32_219 l1 u1 e_2 (le_min v_1) (le_max v_1) (le_min a1) (le_max a1)) dX12_streetFrom_7 (fun v_3 e_4 => ?_)
  refine y_iald C0 h kSM_1 rfl (by decide) (o32_220 l1 u1 e_2 e_4) (o32_221 l1 u1 e_2 e_4) dX12_streetFrom_8 (fun v_5 e_6 e_7 e_8 => ?_)
  refine y_i2l C0 dX12_streetFrom_9 (fun w_9 e_10 => ?_)
  refine lv_iload_n C0.1 C0.2.1 dX12_streetFrom_10 rfl (lv_at hl 2 rfl) ?_
  refine y_ci h (y_rS (As := [.long w_9, .int a2]) (rest := []) C0 hZ h (c_X12_isIn l G Z ad _ h.2 w_9 a2) k_X12_isIn q_1716 q_1715 hl.1 rfl rfl (Nat.le_of_ble_eq_true rfl) dX12_streetFrom_11 ⟨Nat.le_of_ble_eq_true rfl, Nat.le_of_ble_eq_true rfl⟩ ⟨Nat.le_of_ble_eq_true rfl, Nat.le_of_ble_eq_true rfl⟩) (fun r_14 H locs ws_11 h u_12 p_13 => ?_)
  obtain ⟨e_15, e_16, e_17, e_18, e_19⟩ := p_13
  replace HE : FT = g1c_X12_streetFrom (xso SM ad ws_11) r_14.toInt a1.toInt a2.toInt := HE.trans (by rw [e_15, e_16, e_10, (xg1 e_6 : v_5.toInt = (xso SM ad ws0) 1 1 v_3.toInt.toNat), e_4, e_2]; rfl)
  replace HE : FT = g2b_X12_streetFrom (xso SM ad ws_11) r_14.toInt a1.toInt a2.toInt := HE.trans rfl
  refine y_if_eq (tgt := 21) C0 dX12_streetFrom_14 (by decide) (fun c_20 => ?_) (fun c_20 => ?_)
  · -- 14
    replace HE : FT = g3_X12_streetFrom (xso SM ad ws_11) a1.toInt a2.toInt := HE.trans (if_pos c_20)
    refine lv_aload_n C0.1 C0.2.1 dX12_streetFrom_21 rfl (lv_at hl 0 rfl) ?_
    refine ng_X12_all C0 h kSM_0 q_1439 dX12_streetFrom_22 ?_
    refine lv_iload_n C0.1 C0.2.1 dX12_streetFrom_25 rfl (lv_at hl 1 rfl) ?_
    refine lv_iload_n C0.1 C0.2.1 dX12_streetFrom_26 rfl (lv_at hl 2 rfl) ?_
    refine y_ci h (y_rS (As := [.ref (ad 1), .int a1, .int a2]) (rest := []) C0 hZ h (c_X12_beyond l G Z ad _ h.2 a1 a2 (o32_222 l1 u1 e_2 e_4) (o32_223 l1 u1 e_2 e_4) (o32_224 l2 u2) (o32_225 l2 u2) (Laid.pa hLd (Pa.fr u_12 (by decide)))) k_X12_beyond q_1633 q_1632 hl.1 rfl rfl (Nat.le_of_ble_eq_true rfl) dX12_streetFrom_27 ⟨Nat.le_of_ble_eq_true rfl, Nat.le_of_ble_eq_true rfl⟩ ⟨Nat.le_of_ble_eq_true rfl, Nat.le_of_ble_eq_true rfl⟩) (fun r_24 H locs ws_21 h u_22 p_23 => ?_)
    obtain ⟨e_25, e_26, e_27, e_28, e_29⟩ := p_23
    replace HE : FT = g5c_X12_streetFrom (xso SM ad ws_21) r_24.toInt := HE.trans (by rw [e_25, e_26]; rfl)
    replace HE : FT = ((xso SM ad ws_21), r_24.toInt) := HE.trans rfl
    rw [hQ]
    exact y_iret C0 h (Fr.tr u_12 u_22) ⟨(congrArg Prod.fst (HE.symm.trans hFT)), (congrArg Prod.snd (HE.symm.trans hFT)), (o32_226 e_27 e_28), (o32_227 e_27 e_28), (sf_out (o32_228 l1 u1 e_2 e_4) l2 e_6 e_10 (Or.elim e_19 (fun q => ((o32_229 e_17 e_18 c_20 q.1)).elim) (fun q => q.2)) (bey_cg (Pw.fr u_12 (by decide)) e_29))⟩ dX12_streetFrom_30
  · -- 14
    replace HE : FT = g4_X12_streetFrom (xso SM ad ws_11) := HE.trans (if_neg c_20)
    refine y_c1 (n := (-1)) C0 (by decide) dX12_streetFrom_17 (fun v_30 e_31 => ?_)
    refine lv_goto (tgt := 30) C0.1 C0.2.1 dX12_streetFrom_18 (by decide) ?_
    replace HE : FT = ((xso SM ad ws_11), v_30.toInt) := HE.trans (by rw [e_31]; rfl)
    rw [hQ]
    exact y_iret C0 h u_12 ⟨(congrArg Prod.fst (HE.symm.trans hFT)), (congrArg Prod.snd (HE.symm.trans hFT)), (o32_12 e_31), (o32_122 e_31), (sf_in (o32_228 l1 u1 e_2 e_4) l2 e_6 e_10 (Or.elim e_19 (fun q => q.2) (fun q => ((o32_230 e_17 e_18 c_20 q.1)).elim)) (o32_231 e_31))⟩ dX12_streetFrom_30
noncomputable def g3_X12_isFreeIn (s : XS) : XR := (s, 1)
noncomputable def g6_X12_isFreeIn (s : XS) : XR := (s, 0)
noncomputable def g7_X12_isFreeIn (s : XS) : XR := (s, 1)
noncomputable def g5b_X12_isFreeIn (s : XS) (v_35 : Int) (v_30 : Int) : XR := if v_30 < v_35 then g7_X12_isFreeIn s else g6_X12_isFreeIn s
noncomputable def g4_X12_isFreeIn (s : XS) (a1 : Int) (a2 : Int) : XR := g5b_X12_isFreeIn s ((s 1 1 (Int.toNat (86 + a1)))) ((Xiadd (s 1 1 (Int.toNat 111)) a2))
noncomputable def g2b_X12_isFreeIn (s : XS) (r_13 : Int) (a1 : Int) (a2 : Int) : XR := if r_13 = 0 then g4_X12_isFreeIn s a1 a2 else g3_X12_isFreeIn s
noncomputable def g1c_X12_isFreeIn (s : XS) (r_13 : Int) (a1 : Int) (a2 : Int) : XR := g2b_X12_isFreeIn s r_13 a1 a2
noncomputable def f_X12_isFreeIn (s : XS) (a1 : Int) (a2 : Int) : XR := g1c_X12_isFreeIn ((f_X12_isIn s ((s 1 1 (Int.toNat 10))) a1).1) (((f_X12_isIn s ((s 1 1 (Int.toNat 10))) a1).2)) a1 a2
set_option maxHeartbeats 4000000 in
set_option maxRecDepth 100000 in
theorem c_X12_isFreeIn (l : Launch) (G : GG) (Z : RZ) (ad : Nat → Nat) (ws0 : va_W) (hT : Ty G SM ad ws0) (a1 : Int32) (a2 : Int32) (l1 : 0 ≤ a1.toInt) (u1 : a1.toInt ≤ 24) : Mq l yX12_isFreeIn cX12_isFreeIn 3 (some .boolean) 2 G Z [.ref (ad 0), .int a1, .int a2] ws0 (PI G SM ad [] ws0 (fun r u => (xso SM ad u = (f_X12_isFreeIn (xso SM ad ws0) a1.toInt a2.toInt).1) ∧ (r.toInt = (f_X12_isFreeIn (xso SM ad ws0) a1.toInt a2.toInt).2) ∧ (0 ≤ r.toInt) ∧ (r.toInt ≤ 1) ∧ ((r.toInt = 1 ∧ FB ws0 a1 a2) ∨ (r.toInt = 0 ∧ ¬ FB ws0 a1 a2)))) := by
  refine Mq.start (by decide) (Nat.le_of_ble_eq_true rfl) ?_
  intro p e s m below meth c A ls C0 hZ h hl
  have hl : lv_has ls 3 [(0, .ref (ad 0)), (1, .int a1), (2, .int a2)] := hl
  have h : Wt G SM ad A s s.heap [] ws0 := ⟨h, hT⟩
  obtain ⟨args, hargs⟩ : ∃ z, z = ([.ref (ad 0), .int a1, .int a2] : List Value).toArray := ⟨_, rfl⟩
  rw [← hargs] at C0 ⊢
  have C0 : Cx p s m args meth c RX12 cX12_isFreeIn 3 (some .boolean) := C0
  obtain ⟨Q, hQ⟩ : ∃ z, z = MQ below ((PI G SM ad [] ws0 (fun r u => (xso SM ad u = (f_X12_isFreeIn (xso SM ad ws0) a1.toInt a2.toInt).1) ∧ (r.toInt = (f_X12_isFreeIn (xso SM ad ws0) a1.toInt a2.toInt).2) ∧ (0 ≤ r.toInt) ∧ (r.toInt ≤ 1) ∧ ((r.toInt = 1 ∧ FB ws0 a1 a2) ∨ (r.toInt = 0 ∧ ¬ FB ws0 a1 a2)))) A) args s 0 0 A := ⟨_, rfl⟩
  rw [← hQ]
  obtain ⟨FT, hFT⟩ : ∃ z, z = f_X12_isFreeIn (xso SM ad ws0) a1.toInt a2.toInt := ⟨_, rfl⟩
  have HE : FT = f_X12_isFreeIn (xso SM ad ws0) a1.toInt a2.toInt := hFT
  refine lv_aload_n C0.1 C0.2.1 dX12_isFreeIn_0 rfl (lv_at hl 0 rfl) ?_
  refine ng_X12_all C0 h kSM_0 q_1439 dX12_isFreeIn_1 ?_
  refine y_c2 (n := 10) C0 (by decide) dX12_isFreeIn_4 (fun v_1 e_2 => ?_)
  refine y_iald C0 h kSM_1 rfl (by decide) (o32_232 e_2) (o32_233 e_2) dX12_isFreeIn_6 (fun v_3 e_4 e_5 e_6 => ?_)
  have e_7 : aI ws0 1 10 = v_3 := (congrArg (aI ws0 1) (ix_c (c := 10) (o32_234 e_2))).symm.trans e_4
  refine y_i2l C0 dX12_isFreeIn_7 (fun w_8 e_9 => ?_)
  refine lv_iload_n C0.1 C0.2.1 dX12_isFreeIn_8 rfl (lv_at hl 1 rfl) ?_
  refine y_ci h (y_rS (As := [.long w_8, .int a1]) (rest := []) C0 hZ h (c_X12_isIn l G Z ad _ h.2 w_8 a1) k_X12_isIn q_1716 q_1715 hl.1 rfl rfl (Nat.le_of_ble_eq_true rfl) dX12_isFreeIn_9 ⟨Nat.le_of_ble_eq_true rfl, Nat.le_of_ble_eq_true rfl⟩ ⟨Nat.le_of_ble_eq_true rfl, Nat.le_of_ble_eq_true rfl⟩) (fun r_13 H locs ws_10 h u_11 p_12 => ?_)
  obtain ⟨e_14, e_15, e_16, e_17, e_18⟩ := p_12
  replace HE : FT = g1c_X12_isFreeIn (xso SM ad ws_10) r_13.toInt a1.toInt a2.toInt := HE.trans (by rw [e_14, e_15, e_9, (xg1 e_4 : v_3.toInt = (xso SM ad ws0) 1 1 v_1.toInt.toNat), e_2]; rfl)
  replace HE : FT = g2b_X12_isFreeIn (xso SM ad ws_10) r_13.toInt a1.toInt a2.toInt := HE.trans rfl
  refine y_if_ne (tgt := 36) C0 dX12_isFreeIn_12 (by decide) (fun c_19 => ?_) (fun c_19 => ?_)
  · -- 12
    replace HE : FT = g3_X12_isFreeIn (xso SM ad ws_10) := HE.trans (if_neg c_19)
    refine y_c1 (n := 1) C0 (by decide) dX12_isFreeIn_36 (fun v_20 e_21 => ?_)
    refine lv_goto (tgt := 41) C0.1 C0.2.1 dX12_isFreeIn_37 (by decide) ?_
    replace HE : FT = ((xso SM ad ws_10), v_20.toInt) := HE.trans (by rw [e_21]; rfl)
    rw [hQ]
    exact y_zret C0 h (o32_5 e_21) (o32_6 e_21) u_11 ⟨(congrArg Prod.fst (HE.symm.trans hFT)), (congrArg Prod.snd (HE.symm.trans hFT)), (o32_5 e_21), (o32_6 e_21), (Or.inl ⟨(o32_10 e_21), Or.inl (fb_in e_7 e_9 (Or.elim e_18 (fun q => q.2) (fun q => ((o32_230 e_16 e_17 c_19 q.1)).elim)))⟩)⟩ dX12_isFreeIn_41
  · -- 12
    replace HE : FT = g4_X12_isFreeIn (xso SM ad ws_10) a1.toInt a2.toInt := HE.trans (if_pos c_19)
    refine lv_aload_n C0.1 C0.2.1 dX12_isFreeIn_15 rfl (lv_at hl 0 rfl) ?_
    refine ng_X12_all C0 h kSM_0 q_1439 dX12_isFreeIn_16 ?_
    refine y_c2 (n := 111) C0 (by decide) dX12_isFreeIn_19 (fun v_22 e_23 => ?_)
    refine y_iald C0 h kSM_1 rfl (by decide) (o32_235 e_23) (o32_236 e_23) dX12_isFreeIn_21 (fun v_24 e_25 e_26 e_27 => ?_)
    have e_28 : aI ws_10 1 111 = v_24 := (congrArg (aI ws_10 1) (ix_c (c := 111) (o32_237 e_23))).symm.trans e_25
    refine lv_iload_n C0.1 C0.2.1 dX12_isFreeIn_22 rfl (lv_at hl 2 rfl) ?_
    refine y_iaddX C0 dX12_isFreeIn_23 (fun v_30 e_29 => ?_)
    refine lv_aload_n C0.1 C0.2.1 dX12_isFreeIn_24 rfl (lv_at hl 0 rfl) ?_
    refine ng_X12_all C0 h kSM_0 q_1439 dX12_isFreeIn_25 ?_
    refine y_c2 (n := 86) C0 (by decide) dX12_isFreeIn_28 (fun v_31 e_32 => ?_)
    refine lv_iload_n C0.1 C0.2.1 dX12_isFreeIn_30 rfl (lv_at hl 1 rfl) ?_
    refine y_add C0 (o32_238 l1 u1 e_32 (le_min v_31) (le_max v_31) (le_min a1) (le_max a1)) (o32_239 l1 u1 e_32 (le_min v_31) (le_max v_31) (le_min a1) (le_max a1)) dX12_isFreeIn_31 (fun v_33 e_34 => ?_)
    refine y_iald C0 h kSM_1 rfl (by decide) (o32_240 l1 u1 e_32 e_34) (o32_241 l1 u1 e_32 e_34) dX12_isFreeIn_32 (fun v_35 e_36 e_37 e_38 => ?_)
    replace HE : FT = g5b_X12_isFreeIn (xso SM ad ws_10) v_35.toInt v_30.toInt := HE.trans (by rw [(ix_iadd e_29), (xg1 e_25 : v_24.toInt = (xso SM ad ws_10) 1 1 v_22.toInt.toNat), e_23, (xg1 e_36 : v_35.toInt = (xso SM ad ws_10) 1 1 v_33.toInt.toNat), e_34, e_32]; rfl)
    refine y_icmp_ge (tgt := 40) C0 dX12_isFreeIn_33 (by decide) (fun c_39 => ?_) (fun c_39 => ?_)
    · -- 33
      replace HE : FT = g6_X12_isFreeIn (xso SM ad ws_10) := HE.trans (if_neg (Int.not_lt.mpr c_39))
      refine y_c1 (n := 0) C0 (by decide) dX12_isFreeIn_40 (fun v_40 e_41 => ?_)
      replace HE : FT = ((xso SM ad ws_10), v_40.toInt) := HE.trans (by rw [e_41]; rfl)
      rw [hQ]
      exact y_zret C0 h (o32_1 e_41) (o32_2 e_41) u_11 ⟨(congrArg Prod.fst (HE.symm.trans hFT)), (congrArg Prod.snd (HE.symm.trans hFT)), (o32_1 e_41), (o32_2 e_41), (Or.inr ⟨(o32_8 e_41), fun q => q.elim (fun q => Or.elim e_18 (fun z => ((o32_229 e_16 e_17 c_19 z.1)).elim) (fun z => z.2 (fb_un e_7 e_9 q))) (fun q => ((o32_243 c_39 ((fb_fog (Eq.trans (Eq.symm (Fr.aI u_11 kSM_1 (by decide))) e_28) (o32_242 l1 u1 e_32 e_34) (Eq.trans (Eq.symm (Fr.aI u_11 kSM_1 (by decide))) e_36) e_29).mp q))).elim)⟩)⟩ dX12_isFreeIn_41
    · -- 33
      replace HE : FT = g7_X12_isFreeIn (xso SM ad ws_10) := HE.trans (if_pos c_39)
      refine y_c1 (n := 1) C0 (by decide) dX12_isFreeIn_36 (fun v_42 e_43 => ?_)
      refine lv_goto (tgt := 41) C0.1 C0.2.1 dX12_isFreeIn_37 (by decide) ?_
      replace HE : FT = ((xso SM ad ws_10), v_42.toInt) := HE.trans (by rw [e_43]; rfl)
      rw [hQ]
      exact y_zret C0 h (o32_5 e_43) (o32_6 e_43) u_11 ⟨(congrArg Prod.fst (HE.symm.trans hFT)), (congrArg Prod.snd (HE.symm.trans hFT)), (o32_5 e_43), (o32_6 e_43), (Or.inl ⟨(o32_10 e_43), Or.inr ((fb_fog (Eq.trans (Eq.symm (Fr.aI u_11 kSM_1 (by decide))) e_28) (o32_242 l1 u1 e_32 e_34) (Eq.trans (Eq.symm (Fr.aI u_11 kSM_1 (by decide))) e_36) e_29).mpr (o32_244 c_39))⟩)⟩ dX12_isFreeIn_41
noncomputable def g17_X12_between (s : XS) : XR := (s, 0)
noncomputable def g18_X12_between (s : XS) : XR := (s, 1)
noncomputable def g16b_X12_between (s : XS) (v_16 : Int) : XR := if 0 < v_16 then g18_X12_between s else g17_X12_between s
noncomputable def g14_X12_between (s : XS) (a1 : Int) (a2 : Int) : XR := g16b_X12_between s ((Xiadd a1 a2))
noncomputable def g20_X12_between (s : XS) : XR := (s, 0)
noncomputable def g21_X12_between (s : XS) : XR := (s, 1)
noncomputable def g19b_X12_between (s : XS) (v_29 : Int) : XR := if v_29 = 2 then g21_X12_between s else g20_X12_between s
noncomputable def g15_X12_between (s : XS) (a1 : Int) (a2 : Int) : XR := g19b_X12_between s ((Xiadd a1 a2))
noncomputable def g13b_X12_between (s : XS) (a0 : Int) (a1 : Int) (a2 : Int) : XR := if a0 = 3006 then g15_X12_between s a1 a2 else g14_X12_between s a1 a2
noncomputable def g11_X12_between (s : XS) (a0 : Int) (a1 : Int) (a2 : Int) : XR := g13b_X12_between s a0 a1 a2
noncomputable def g23_X12_between (s : XS) : XR := (s, 0)
noncomputable def g24_X12_between (s : XS) : XR := (s, 1)
noncomputable def g22b_X12_between (s : XS) (a2 : Int) (a1 : Int) : XR := if a2 < a1 then g24_X12_between s else g23_X12_between s
noncomputable def g12_X12_between (s : XS) (a1 : Int) (a2 : Int) : XR := g22b_X12_between s a2 a1
noncomputable def g10b_X12_between (s : XS) (a0 : Int) (a1 : Int) (a2 : Int) : XR := if a0 = 3005 then g12_X12_between s a1 a2 else g11_X12_between s a0 a1 a2
noncomputable def g8_X12_between (s : XS) (a0 : Int) (a1 : Int) (a2 : Int) : XR := g10b_X12_between s a0 a1 a2
noncomputable def g26_X12_between (s : XS) : XR := (s, 0)
noncomputable def g27_X12_between (s : XS) : XR := (s, 1)
noncomputable def g25b_X12_between (s : XS) (a2 : Int) (a1 : Int) : XR := if a1 < a2 then g27_X12_between s else g26_X12_between s
noncomputable def g9_X12_between (s : XS) (a1 : Int) (a2 : Int) : XR := g25b_X12_between s a2 a1
noncomputable def g7b_X12_between (s : XS) (a0 : Int) (a1 : Int) (a2 : Int) : XR := if a0 = 3004 then g9_X12_between s a1 a2 else g8_X12_between s a0 a1 a2
noncomputable def g5_X12_between (s : XS) (a0 : Int) (a1 : Int) (a2 : Int) : XR := g7b_X12_between s a0 a1 a2
noncomputable def g29_X12_between (s : XS) : XR := (s, 0)
noncomputable def g30_X12_between (s : XS) : XR := (s, 1)
noncomputable def g28b_X12_between (s : XS) (a2 : Int) (a1 : Int) : XR := if a1 = a2 then g30_X12_between s else g29_X12_between s
noncomputable def g6_X12_between (s : XS) (a1 : Int) (a2 : Int) : XR := g28b_X12_between s a2 a1
noncomputable def g4b_X12_between (s : XS) (a0 : Int) (a1 : Int) (a2 : Int) : XR := if a0 = 3003 then g6_X12_between s a1 a2 else g5_X12_between s a0 a1 a2
noncomputable def g2_X12_between (s : XS) (a0 : Int) (a1 : Int) (a2 : Int) : XR := g4b_X12_between s a0 a1 a2
noncomputable def g41_X12_between (s : XS) (w_87 : Int) : XR := (s, (Xl2i w_87))
noncomputable def g42_X12_between (s : XS) : XR := (s, (((-1000000))))
noncomputable def g40b_X12_between (s : XS) (v_96 : Int) (w_87 : Int) : XR := if v_96 < 0 then g42_X12_between s else g41_X12_between s w_87
noncomputable def g38_X12_between (s : XS) (w_87 : Int) : XR := g40b_X12_between s ((Xcmp w_87 ((-1000000)))) w_87
noncomputable def g39_X12_between (s : XS) : XR := (s, 1000000)
noncomputable def g37b_X12_between (s : XS) (v_91 : Int) (w_87 : Int) : XR := if 0 < v_91 then g39_X12_between s else g38_X12_between s w_87
noncomputable def g35_X12_between (s : XS) (a1 : Int) (a2 : Int) : XR := g37b_X12_between s ((Xcmp (Xlmul a1 a2) 1000000)) ((Xlmul a1 a2))
noncomputable def g47_X12_between (s : XS) (w_113 : Int) : XR := (s, (Xl2i w_113))
noncomputable def g48_X12_between (s : XS) : XR := (s, (((-1000000))))
noncomputable def g46b_X12_between (s : XS) (v_122 : Int) (w_113 : Int) : XR := if v_122 < 0 then g48_X12_between s else g47_X12_between s w_113
noncomputable def g44_X12_between (s : XS) (w_113 : Int) : XR := g46b_X12_between s ((Xcmp w_113 ((-1000000)))) w_113
noncomputable def g45_X12_between (s : XS) : XR := (s, 1000000)
noncomputable def g43b_X12_between (s : XS) (v_117 : Int) (w_113 : Int) : XR := if 0 < v_117 then g45_X12_between s else g44_X12_between s w_113
noncomputable def g36_X12_between (s : XS) (a1 : Int) (a2 : Int) : XR := g43b_X12_between s ((Xcmp (Xlsub a1 a2) 1000000)) ((Xlsub a1 a2))
noncomputable def g34b_X12_between (s : XS) (a0 : Int) (a1 : Int) (a2 : Int) : XR := if a0 = 3001 then g36_X12_between s a1 a2 else g35_X12_between s a1 a2
noncomputable def g32_X12_between (s : XS) (a0 : Int) (a1 : Int) (a2 : Int) : XR := g34b_X12_between s a0 a1 a2
noncomputable def g53_X12_between (s : XS) (w_139 : Int) : XR := (s, (Xl2i w_139))
noncomputable def g54_X12_between (s : XS) : XR := (s, (((-1000000))))
noncomputable def g52b_X12_between (s : XS) (v_148 : Int) (w_139 : Int) : XR := if v_148 < 0 then g54_X12_between s else g53_X12_between s w_139
noncomputable def g50_X12_between (s : XS) (w_139 : Int) : XR := g52b_X12_between s ((Xcmp w_139 ((-1000000)))) w_139
noncomputable def g51_X12_between (s : XS) : XR := (s, 1000000)
noncomputable def g49b_X12_between (s : XS) (v_143 : Int) (w_139 : Int) : XR := if 0 < v_143 then g51_X12_between s else g50_X12_between s w_139
noncomputable def g33_X12_between (s : XS) (a1 : Int) (a2 : Int) : XR := g49b_X12_between s ((Xcmp (Xladd a1 a2) 1000000)) ((Xladd a1 a2))
noncomputable def g31b_X12_between (s : XS) (a0 : Int) (a1 : Int) (a2 : Int) : XR := if a0 = 3000 then g33_X12_between s a1 a2 else g32_X12_between s a0 a1 a2
noncomputable def g3_X12_between (s : XS) (a0 : Int) (a1 : Int) (a2 : Int) : XR := g31b_X12_between s a0 a1 a2
noncomputable def g1b_X12_between (s : XS) (a0 : Int) (a1 : Int) (a2 : Int) : XR := if 3002 < a0 then g2_X12_between s a0 a1 a2 else g3_X12_between s a0 a1 a2
noncomputable def f_X12_between (s : XS) (a0 : Int) (a1 : Int) (a2 : Int) : XR := g1b_X12_between s a0 a1 a2
set_option maxHeartbeats 4000000 in
set_option maxRecDepth 100000 in
theorem c_X12_between (l : Launch) (G : GG) (Z : RZ) (ad : Nat → Nat) (ws0 : va_W) (hT : Ty G SM ad ws0) (a0 : Int32) (a1 : Int32) (a2 : Int32) : Mq l yX12_between cX12_between 5 (some .int) 1 G Z [.int a0, .int a1, .int a2] ws0 (PI G SM ad [] ws0 (fun r u => (xso SM ad u = (f_X12_between (xso SM ad ws0) a0.toInt a1.toInt a2.toInt).1) ∧ (r.toInt = (f_X12_between (xso SM ad ws0) a0.toInt a1.toInt a2.toInt).2))) := by
  refine Mq.start (by decide) (Nat.le_of_ble_eq_true rfl) ?_
  intro p e s m below meth c A ls C0 hZ h hl
  have hl : lv_has ls 5 [(0, .int a0), (1, .int a1), (2, .int a2)] := hl
  have h : Wt G SM ad A s s.heap [] ws0 := ⟨h, hT⟩
  obtain ⟨args, hargs⟩ : ∃ z, z = ([.int a0, .int a1, .int a2] : List Value).toArray := ⟨_, rfl⟩
  rw [← hargs] at C0 ⊢
  have C0 : Cx p s m args meth c RX12 cX12_between 5 (some .int) := C0
  obtain ⟨Q, hQ⟩ : ∃ z, z = MQ below ((PI G SM ad [] ws0 (fun r u => (xso SM ad u = (f_X12_between (xso SM ad ws0) a0.toInt a1.toInt a2.toInt).1) ∧ (r.toInt = (f_X12_between (xso SM ad ws0) a0.toInt a1.toInt a2.toInt).2))) A) args s 0 0 A := ⟨_, rfl⟩
  rw [← hQ]
  obtain ⟨FT, hFT⟩ : ∃ z, z = f_X12_between (xso SM ad ws0) a0.toInt a1.toInt a2.toInt := ⟨_, rfl⟩
  have HE : FT = f_X12_between (xso SM ad ws0) a0.toInt a1.toInt a2.toInt := hFT
  refine lv_iload_n C0.1 C0.2.1 dX12_between_0 rfl (lv_at hl 0 rfl) ?_
  refine y_c3 (n := 3002) C0 (by decide) dX12_between_1 (fun v_1 e_2 => ?_)
  replace HE : FT = g1b_X12_between (xso SM ad ws0) a0.toInt a1.toInt a2.toInt := HE.trans rfl
  refine y_icmp_gt (tgt := 74) C0 dX12_between_4 (by decide) (fun c_3 => ?_) (fun c_3 => ?_)
  · -- 4
    replace HE : FT = g2_X12_between (xso SM ad ws0) a0.toInt a1.toInt a2.toInt := HE.trans (if_pos (o32_246 e_2 c_3))
    refine lv_iload_n C0.1 C0.2.1 dX12_between_74 rfl (lv_at hl 0 rfl) ?_
    refine y_c3 (n := 3003) C0 (by decide) dX12_between_75 (fun v_4 e_5 => ?_)
    replace HE : FT = g4b_X12_between (xso SM ad ws0) a0.toInt a1.toInt a2.toInt := HE.trans rfl
    refine y_icmp_ne (tgt := 94) C0 dX12_between_78 (by decide) (fun c_6 => ?_) (fun c_6 => ?_)
    · -- 78
      replace HE : FT = g5_X12_between (xso SM ad ws0) a0.toInt a1.toInt a2.toInt := HE.trans (if_neg (o32_249 e_2 c_3 e_5 c_6))
      refine lv_iload_n C0.1 C0.2.1 dX12_between_94 rfl (lv_at hl 0 rfl) ?_
      refine y_c3 (n := 3004) C0 (by decide) dX12_between_95 (fun v_7 e_8 => ?_)
      replace HE : FT = g7b_X12_between (xso SM ad ws0) a0.toInt a1.toInt a2.toInt := HE.trans rfl
      refine y_icmp_ne (tgt := 114) C0 dX12_between_98 (by decide) (fun c_9 => ?_) (fun c_9 => ?_)
      · -- 98
        replace HE : FT = g8_X12_between (xso SM ad ws0) a0.toInt a1.toInt a2.toInt := HE.trans (if_neg (o32_252 e_2 c_3 e_5 c_6 e_8 c_9))
        refine lv_iload_n C0.1 C0.2.1 dX12_between_114 rfl (lv_at hl 0 rfl) ?_
        refine y_c3 (n := 3005) C0 (by decide) dX12_between_115 (fun v_10 e_11 => ?_)
        replace HE : FT = g10b_X12_between (xso SM ad ws0) a0.toInt a1.toInt a2.toInt := HE.trans rfl
        refine y_icmp_ne (tgt := 134) C0 dX12_between_118 (by decide) (fun c_12 => ?_) (fun c_12 => ?_)
        · -- 118
          replace HE : FT = g11_X12_between (xso SM ad ws0) a0.toInt a1.toInt a2.toInt := HE.trans (if_neg (o32_255 e_2 c_3 e_5 c_6 e_8 c_9 e_11 c_12))
          refine lv_iload_n C0.1 C0.2.1 dX12_between_134 rfl (lv_at hl 0 rfl) ?_
          refine y_c3 (n := 3006) C0 (by decide) dX12_between_135 (fun v_13 e_14 => ?_)
          replace HE : FT = g13b_X12_between (xso SM ad ws0) a0.toInt a1.toInt a2.toInt := HE.trans rfl
          refine y_icmp_ne (tgt := 156) C0 dX12_between_138 (by decide) (fun c_15 => ?_) (fun c_15 => ?_)
          · -- 138
            replace HE : FT = g14_X12_between (xso SM ad ws0) a1.toInt a2.toInt := HE.trans (if_neg (o32_258 e_2 c_3 e_5 c_6 e_8 c_9 e_11 c_12 e_14 c_15))
            refine lv_iload_n C0.1 C0.2.1 dX12_between_156 rfl (lv_at hl 1 rfl) ?_
            refine lv_iload_n C0.1 C0.2.1 dX12_between_157 rfl (lv_at hl 2 rfl) ?_
            refine xr_iadd C0 dX12_between_158 (fun v_16 e_17 => ?_)
            replace HE : FT = g16b_X12_between (xso SM ad ws0) v_16.toInt := HE.trans (by rw [e_17]; rfl)
            refine y_if_le (tgt := 166) C0 dX12_between_159 (by decide) (fun c_18 => ?_) (fun c_18 => ?_)
            · -- 159
              replace HE : FT = g17_X12_between (xso SM ad ws0) := HE.trans (if_neg (Int.not_lt.mpr c_18))
              refine y_c1 (n := 0) C0 (by decide) dX12_between_166 (fun v_19 e_20 => ?_)
              refine lv_istore_n (lv' := [(3, .int v_19), (0, .int a0), (1, .int a1), (2, .int a2)]) C0.1 C0.2.1 dX12_between_167 rfl hl (by decide) rfl (fun ls hl => ?_)
              refine lv_iload_n C0.1 C0.2.1 dX12_between_168 rfl (lv_at hl 0 rfl) ?_
              refine y_if_eq (tgt := 176) C0 dX12_between_169 (by decide) (fun c_21 => ?_) (fun c_21 => ((o32_260 e_20 c_21)).elim)
              refine y_c1 (n := 0) C0 (by decide) dX12_between_176 (fun v_22 e_23 => ?_)
              replace HE : FT = ((xso SM ad ws0), v_22.toInt) := HE.trans (by rw [e_23]; rfl)
              rw [hQ]
              exact y_iret C0 h Fr.rf ⟨(congrArg Prod.fst (HE.symm.trans hFT)), (congrArg Prod.snd (HE.symm.trans hFT))⟩ dX12_between_177
            · -- 159
              replace HE : FT = g18_X12_between (xso SM ad ws0) := HE.trans (if_pos c_18)
              refine y_c1 (n := 1) C0 (by decide) dX12_between_162 (fun v_24 e_25 => ?_)
              refine lv_goto (tgt := 167) C0.1 C0.2.1 dX12_between_163 (by decide) ?_
              refine lv_istore_n (lv' := [(3, .int v_24), (0, .int a0), (1, .int a1), (2, .int a2)]) C0.1 C0.2.1 dX12_between_167 rfl hl (by decide) rfl (fun ls hl => ?_)
              refine lv_iload_n C0.1 C0.2.1 dX12_between_168 rfl (lv_at hl 0 rfl) ?_
              refine y_if_eq (tgt := 176) C0 dX12_between_169 (by decide) (fun c_26 => ((o32_261 e_25 c_26)).elim) (fun c_26 => ?_)
              refine y_c1 (n := 1) C0 (by decide) dX12_between_172 (fun v_27 e_28 => ?_)
              refine lv_goto (tgt := 177) C0.1 C0.2.1 dX12_between_173 (by decide) ?_
              replace HE : FT = ((xso SM ad ws0), v_27.toInt) := HE.trans (by rw [e_28]; rfl)
              rw [hQ]
              exact y_iret C0 h Fr.rf ⟨(congrArg Prod.fst (HE.symm.trans hFT)), (congrArg Prod.snd (HE.symm.trans hFT))⟩ dX12_between_177
          · -- 138
            replace HE : FT = g15_X12_between (xso SM ad ws0) a1.toInt a2.toInt := HE.trans (if_pos (o32_259 e_2 c_3 e_5 c_6 e_8 c_9 e_11 c_12 e_14 c_15))
            refine lv_iload_n C0.1 C0.2.1 dX12_between_141 rfl (lv_at hl 1 rfl) ?_
            refine lv_iload_n C0.1 C0.2.1 dX12_between_142 rfl (lv_at hl 2 rfl) ?_
            refine xr_iadd C0 dX12_between_143 (fun v_29 e_30 => ?_)
            refine y_c1 (n := 2) C0 (by decide) dX12_between_144 (fun v_31 e_32 => ?_)
            replace HE : FT = g19b_X12_between (xso SM ad ws0) v_29.toInt := HE.trans (by rw [e_30]; rfl)
            refine y_icmp_ne (tgt := 152) C0 dX12_between_145 (by decide) (fun c_33 => ?_) (fun c_33 => ?_)
            · -- 145
              replace HE : FT = g20_X12_between (xso SM ad ws0) := HE.trans (if_neg (o32_262 e_32 c_33))
              refine y_c1 (n := 0) C0 (by decide) dX12_between_152 (fun v_34 e_35 => ?_)
              refine lv_goto (tgt := 167) C0.1 C0.2.1 dX12_between_153 (by decide) ?_
              refine lv_istore_n (lv' := [(3, .int v_34), (0, .int a0), (1, .int a1), (2, .int a2)]) C0.1 C0.2.1 dX12_between_167 rfl hl (by decide) rfl (fun ls hl => ?_)
              refine lv_iload_n C0.1 C0.2.1 dX12_between_168 rfl (lv_at hl 0 rfl) ?_
              refine y_if_eq (tgt := 176) C0 dX12_between_169 (by decide) (fun c_36 => ?_) (fun c_36 => ((o32_260 e_35 c_36)).elim)
              refine y_c1 (n := 0) C0 (by decide) dX12_between_176 (fun v_37 e_38 => ?_)
              replace HE : FT = ((xso SM ad ws0), v_37.toInt) := HE.trans (by rw [e_38]; rfl)
              rw [hQ]
              exact y_iret C0 h Fr.rf ⟨(congrArg Prod.fst (HE.symm.trans hFT)), (congrArg Prod.snd (HE.symm.trans hFT))⟩ dX12_between_177
            · -- 145
              replace HE : FT = g21_X12_between (xso SM ad ws0) := HE.trans (if_pos (o32_263 e_32 c_33))
              refine y_c1 (n := 1) C0 (by decide) dX12_between_148 (fun v_39 e_40 => ?_)
              refine lv_goto (tgt := 167) C0.1 C0.2.1 dX12_between_149 (by decide) ?_
              refine lv_istore_n (lv' := [(3, .int v_39), (0, .int a0), (1, .int a1), (2, .int a2)]) C0.1 C0.2.1 dX12_between_167 rfl hl (by decide) rfl (fun ls hl => ?_)
              refine lv_iload_n C0.1 C0.2.1 dX12_between_168 rfl (lv_at hl 0 rfl) ?_
              refine y_if_eq (tgt := 176) C0 dX12_between_169 (by decide) (fun c_41 => ((o32_261 e_40 c_41)).elim) (fun c_41 => ?_)
              refine y_c1 (n := 1) C0 (by decide) dX12_between_172 (fun v_42 e_43 => ?_)
              refine lv_goto (tgt := 177) C0.1 C0.2.1 dX12_between_173 (by decide) ?_
              replace HE : FT = ((xso SM ad ws0), v_42.toInt) := HE.trans (by rw [e_43]; rfl)
              rw [hQ]
              exact y_iret C0 h Fr.rf ⟨(congrArg Prod.fst (HE.symm.trans hFT)), (congrArg Prod.snd (HE.symm.trans hFT))⟩ dX12_between_177
        · -- 118
          replace HE : FT = g12_X12_between (xso SM ad ws0) a1.toInt a2.toInt := HE.trans (if_pos (o32_256 e_2 c_3 e_5 c_6 e_8 c_9 e_11 c_12))
          refine lv_iload_n C0.1 C0.2.1 dX12_between_121 rfl (lv_at hl 1 rfl) ?_
          refine lv_iload_n C0.1 C0.2.1 dX12_between_122 rfl (lv_at hl 2 rfl) ?_
          replace HE : FT = g22b_X12_between (xso SM ad ws0) a2.toInt a1.toInt := HE.trans rfl
          refine y_icmp_le (tgt := 130) C0 dX12_between_123 (by decide) (fun c_44 => ?_) (fun c_44 => ?_)
          · -- 123
            replace HE : FT = g23_X12_between (xso SM ad ws0) := HE.trans (if_neg (Int.not_lt.mpr c_44))
            refine y_c1 (n := 0) C0 (by decide) dX12_between_130 (fun v_45 e_46 => ?_)
            refine lv_goto (tgt := 167) C0.1 C0.2.1 dX12_between_131 (by decide) ?_
            refine lv_istore_n (lv' := [(3, .int v_45), (0, .int a0), (1, .int a1), (2, .int a2)]) C0.1 C0.2.1 dX12_between_167 rfl hl (by decide) rfl (fun ls hl => ?_)
            refine lv_iload_n C0.1 C0.2.1 dX12_between_168 rfl (lv_at hl 0 rfl) ?_
            refine y_if_eq (tgt := 176) C0 dX12_between_169 (by decide) (fun c_47 => ?_) (fun c_47 => ((o32_260 e_46 c_47)).elim)
            refine y_c1 (n := 0) C0 (by decide) dX12_between_176 (fun v_48 e_49 => ?_)
            replace HE : FT = ((xso SM ad ws0), v_48.toInt) := HE.trans (by rw [e_49]; rfl)
            rw [hQ]
            exact y_iret C0 h Fr.rf ⟨(congrArg Prod.fst (HE.symm.trans hFT)), (congrArg Prod.snd (HE.symm.trans hFT))⟩ dX12_between_177
          · -- 123
            replace HE : FT = g24_X12_between (xso SM ad ws0) := HE.trans (if_pos c_44)
            refine y_c1 (n := 1) C0 (by decide) dX12_between_126 (fun v_50 e_51 => ?_)
            refine lv_goto (tgt := 167) C0.1 C0.2.1 dX12_between_127 (by decide) ?_
            refine lv_istore_n (lv' := [(3, .int v_50), (0, .int a0), (1, .int a1), (2, .int a2)]) C0.1 C0.2.1 dX12_between_167 rfl hl (by decide) rfl (fun ls hl => ?_)
            refine lv_iload_n C0.1 C0.2.1 dX12_between_168 rfl (lv_at hl 0 rfl) ?_
            refine y_if_eq (tgt := 176) C0 dX12_between_169 (by decide) (fun c_52 => ((o32_261 e_51 c_52)).elim) (fun c_52 => ?_)
            refine y_c1 (n := 1) C0 (by decide) dX12_between_172 (fun v_53 e_54 => ?_)
            refine lv_goto (tgt := 177) C0.1 C0.2.1 dX12_between_173 (by decide) ?_
            replace HE : FT = ((xso SM ad ws0), v_53.toInt) := HE.trans (by rw [e_54]; rfl)
            rw [hQ]
            exact y_iret C0 h Fr.rf ⟨(congrArg Prod.fst (HE.symm.trans hFT)), (congrArg Prod.snd (HE.symm.trans hFT))⟩ dX12_between_177
      · -- 98
        replace HE : FT = g9_X12_between (xso SM ad ws0) a1.toInt a2.toInt := HE.trans (if_pos (o32_253 e_2 c_3 e_5 c_6 e_8 c_9))
        refine lv_iload_n C0.1 C0.2.1 dX12_between_101 rfl (lv_at hl 1 rfl) ?_
        refine lv_iload_n C0.1 C0.2.1 dX12_between_102 rfl (lv_at hl 2 rfl) ?_
        replace HE : FT = g25b_X12_between (xso SM ad ws0) a2.toInt a1.toInt := HE.trans rfl
        refine y_icmp_ge (tgt := 110) C0 dX12_between_103 (by decide) (fun c_55 => ?_) (fun c_55 => ?_)
        · -- 103
          replace HE : FT = g26_X12_between (xso SM ad ws0) := HE.trans (if_neg (Int.not_lt.mpr c_55))
          refine y_c1 (n := 0) C0 (by decide) dX12_between_110 (fun v_56 e_57 => ?_)
          refine lv_goto (tgt := 167) C0.1 C0.2.1 dX12_between_111 (by decide) ?_
          refine lv_istore_n (lv' := [(3, .int v_56), (0, .int a0), (1, .int a1), (2, .int a2)]) C0.1 C0.2.1 dX12_between_167 rfl hl (by decide) rfl (fun ls hl => ?_)
          refine lv_iload_n C0.1 C0.2.1 dX12_between_168 rfl (lv_at hl 0 rfl) ?_
          refine y_if_eq (tgt := 176) C0 dX12_between_169 (by decide) (fun c_58 => ?_) (fun c_58 => ((o32_260 e_57 c_58)).elim)
          refine y_c1 (n := 0) C0 (by decide) dX12_between_176 (fun v_59 e_60 => ?_)
          replace HE : FT = ((xso SM ad ws0), v_59.toInt) := HE.trans (by rw [e_60]; rfl)
          rw [hQ]
          exact y_iret C0 h Fr.rf ⟨(congrArg Prod.fst (HE.symm.trans hFT)), (congrArg Prod.snd (HE.symm.trans hFT))⟩ dX12_between_177
        · -- 103
          replace HE : FT = g27_X12_between (xso SM ad ws0) := HE.trans (if_pos c_55)
          refine y_c1 (n := 1) C0 (by decide) dX12_between_106 (fun v_61 e_62 => ?_)
          refine lv_goto (tgt := 167) C0.1 C0.2.1 dX12_between_107 (by decide) ?_
          refine lv_istore_n (lv' := [(3, .int v_61), (0, .int a0), (1, .int a1), (2, .int a2)]) C0.1 C0.2.1 dX12_between_167 rfl hl (by decide) rfl (fun ls hl => ?_)
          refine lv_iload_n C0.1 C0.2.1 dX12_between_168 rfl (lv_at hl 0 rfl) ?_
          refine y_if_eq (tgt := 176) C0 dX12_between_169 (by decide) (fun c_63 => ((o32_261 e_62 c_63)).elim) (fun c_63 => ?_)
          refine y_c1 (n := 1) C0 (by decide) dX12_between_172 (fun v_64 e_65 => ?_)
          refine lv_goto (tgt := 177) C0.1 C0.2.1 dX12_between_173 (by decide) ?_
          replace HE : FT = ((xso SM ad ws0), v_64.toInt) := HE.trans (by rw [e_65]; rfl)
          rw [hQ]
          exact y_iret C0 h Fr.rf ⟨(congrArg Prod.fst (HE.symm.trans hFT)), (congrArg Prod.snd (HE.symm.trans hFT))⟩ dX12_between_177
    · -- 78
      replace HE : FT = g6_X12_between (xso SM ad ws0) a1.toInt a2.toInt := HE.trans (if_pos (o32_250 e_2 c_3 e_5 c_6))
      refine lv_iload_n C0.1 C0.2.1 dX12_between_81 rfl (lv_at hl 1 rfl) ?_
      refine lv_iload_n C0.1 C0.2.1 dX12_between_82 rfl (lv_at hl 2 rfl) ?_
      replace HE : FT = g28b_X12_between (xso SM ad ws0) a2.toInt a1.toInt := HE.trans rfl
      refine y_icmp_ne (tgt := 90) C0 dX12_between_83 (by decide) (fun c_66 => ?_) (fun c_66 => ?_)
      · -- 83
        replace HE : FT = g29_X12_between (xso SM ad ws0) := HE.trans (if_neg c_66)
        refine y_c1 (n := 0) C0 (by decide) dX12_between_90 (fun v_67 e_68 => ?_)
        refine lv_goto (tgt := 167) C0.1 C0.2.1 dX12_between_91 (by decide) ?_
        refine lv_istore_n (lv' := [(3, .int v_67), (0, .int a0), (1, .int a1), (2, .int a2)]) C0.1 C0.2.1 dX12_between_167 rfl hl (by decide) rfl (fun ls hl => ?_)
        refine lv_iload_n C0.1 C0.2.1 dX12_between_168 rfl (lv_at hl 0 rfl) ?_
        refine y_if_eq (tgt := 176) C0 dX12_between_169 (by decide) (fun c_69 => ?_) (fun c_69 => ((o32_260 e_68 c_69)).elim)
        refine y_c1 (n := 0) C0 (by decide) dX12_between_176 (fun v_70 e_71 => ?_)
        replace HE : FT = ((xso SM ad ws0), v_70.toInt) := HE.trans (by rw [e_71]; rfl)
        rw [hQ]
        exact y_iret C0 h Fr.rf ⟨(congrArg Prod.fst (HE.symm.trans hFT)), (congrArg Prod.snd (HE.symm.trans hFT))⟩ dX12_between_177
      · -- 83
        replace HE : FT = g30_X12_between (xso SM ad ws0) := HE.trans (if_pos c_66)
        refine y_c1 (n := 1) C0 (by decide) dX12_between_86 (fun v_72 e_73 => ?_)
        refine lv_goto (tgt := 167) C0.1 C0.2.1 dX12_between_87 (by decide) ?_
        refine lv_istore_n (lv' := [(3, .int v_72), (0, .int a0), (1, .int a1), (2, .int a2)]) C0.1 C0.2.1 dX12_between_167 rfl hl (by decide) rfl (fun ls hl => ?_)
        refine lv_iload_n C0.1 C0.2.1 dX12_between_168 rfl (lv_at hl 0 rfl) ?_
        refine y_if_eq (tgt := 176) C0 dX12_between_169 (by decide) (fun c_74 => ((o32_261 e_73 c_74)).elim) (fun c_74 => ?_)
        refine y_c1 (n := 1) C0 (by decide) dX12_between_172 (fun v_75 e_76 => ?_)
        refine lv_goto (tgt := 177) C0.1 C0.2.1 dX12_between_173 (by decide) ?_
        replace HE : FT = ((xso SM ad ws0), v_75.toInt) := HE.trans (by rw [e_76]; rfl)
        rw [hQ]
        exact y_iret C0 h Fr.rf ⟨(congrArg Prod.fst (HE.symm.trans hFT)), (congrArg Prod.snd (HE.symm.trans hFT))⟩ dX12_between_177
  · -- 4
    replace HE : FT = g3_X12_between (xso SM ad ws0) a0.toInt a1.toInt a2.toInt := HE.trans (if_neg (o32_247 e_2 c_3))
    refine lv_iload_n C0.1 C0.2.1 dX12_between_7 rfl (lv_at hl 0 rfl) ?_
    refine y_c3 (n := 3000) C0 (by decide) dX12_between_8 (fun v_77 e_78 => ?_)
    replace HE : FT = g31b_X12_between (xso SM ad ws0) a0.toInt a1.toInt a2.toInt := HE.trans rfl
    refine y_icmp_ne (tgt := 22) C0 dX12_between_11 (by decide) (fun c_79 => ?_) (fun c_79 => ?_)
    · -- 11
      replace HE : FT = g32_X12_between (xso SM ad ws0) a0.toInt a1.toInt a2.toInt := HE.trans (if_neg (o32_265 e_2 c_3 e_78 c_79))
      refine lv_iload_n C0.1 C0.2.1 dX12_between_22 rfl (lv_at hl 0 rfl) ?_
      refine y_c3 (n := 3001) C0 (by decide) dX12_between_23 (fun v_80 e_81 => ?_)
      replace HE : FT = g34b_X12_between (xso SM ad ws0) a0.toInt a1.toInt a2.toInt := HE.trans rfl
      refine y_icmp_ne (tgt := 37) C0 dX12_between_26 (by decide) (fun c_82 => ?_) (fun c_82 => ?_)
      · -- 26
        replace HE : FT = g35_X12_between (xso SM ad ws0) a1.toInt a2.toInt := HE.trans (if_neg (o32_268 e_2 c_3 e_78 c_79 e_81 c_82))
        refine lv_iload_n C0.1 C0.2.1 dX12_between_37 rfl (lv_at hl 1 rfl) ?_
        refine y_i2l C0 dX12_between_38 (fun w_83 e_84 => ?_)
        refine lv_iload_n C0.1 C0.2.1 dX12_between_39 rfl (lv_at hl 2 rfl) ?_
        refine y_i2l C0 dX12_between_40 (fun w_85 e_86 => ?_)
        refine xr_lmul C0 dX12_between_41 (fun w_87 e_88 => ?_)
        refine lv_lstore_n (lv' := [(3, .long w_87), (0, .int a0), (1, .int a1), (2, .int a2)]) C0.1 C0.2.1 dX12_between_42 rfl hl (by decide) rfl (fun ls hl => ?_)
        refine lv_lload_n C0.1 C0.2.1 dX12_between_43 rfl (lv_at hl 0 rfl) ?_
        refine y_lc2 (n := 1000000) C0 q_1737 (by decide) dX12_between_44 (fun w_89 e_90 => ?_)
        refine y_lcmp C0 dX12_between_47 (fun v_91 e_92 => ?_)
        replace HE : FT = g37b_X12_between (xso SM ad ws0) v_91.toInt w_87.toInt := HE.trans (by rw [(ix_cmp e_92), e_90, e_88, e_86, e_84]; rfl)
        refine y_if_le (tgt := 57) C0 dX12_between_48 (by decide) (fun c_93 => ?_) (fun c_93 => ?_)
        · -- 48
          replace HE : FT = g38_X12_between (xso SM ad ws0) w_87.toInt := HE.trans (if_neg (Int.not_lt.mpr c_93))
          refine lv_lload_n C0.1 C0.2.1 dX12_between_57 rfl (lv_at hl 0 rfl) ?_
          refine y_lc2 (n := (-1000000)) C0 q_1738 (by decide) dX12_between_58 (fun w_94 e_95 => ?_)
          refine y_lcmp C0 dX12_between_61 (fun v_96 e_97 => ?_)
          replace HE : FT = g40b_X12_between (xso SM ad ws0) v_96.toInt w_87.toInt := HE.trans (by rw [(ix_cmp e_97), e_95]; rfl)
          refine y_if_ge (tgt := 71) C0 dX12_between_62 (by decide) (fun c_98 => ?_) (fun c_98 => ?_)
          · -- 62
            replace HE : FT = g41_X12_between (xso SM ad ws0) w_87.toInt := HE.trans (if_neg (Int.not_lt.mpr c_98))
            refine lv_lload_n C0.1 C0.2.1 dX12_between_71 rfl (lv_at hl 0 rfl) ?_
            refine xr_l2i C0 dX12_between_72 (fun v_99 e_100 => ?_)
            replace HE : FT = ((xso SM ad ws0), v_99.toInt) := HE.trans (by rw [e_100]; rfl)
            rw [hQ]
            exact y_iret C0 h Fr.rf ⟨(congrArg Prod.fst (HE.symm.trans hFT)), (congrArg Prod.snd (HE.symm.trans hFT))⟩ dX12_between_73
          · -- 62
            replace HE : FT = g42_X12_between (xso SM ad ws0) := HE.trans (if_pos c_98)
            refine y_lc2 (n := (-1000000)) C0 q_1738 (by decide) dX12_between_65 (fun w_101 e_102 => ?_)
            refine lv_goto (tgt := 72) C0.1 C0.2.1 dX12_between_68 (by decide) ?_
            refine y_l2i C0 (o32_270 e_102) (o32_271 e_102) dX12_between_72 (fun v_103 e_104 => ?_)
            replace HE : FT = ((xso SM ad ws0), v_103.toInt) := HE.trans (by rw [e_104, e_102]; rfl)
            rw [hQ]
            exact y_iret C0 h Fr.rf ⟨(congrArg Prod.fst (HE.symm.trans hFT)), (congrArg Prod.snd (HE.symm.trans hFT))⟩ dX12_between_73
        · -- 48
          replace HE : FT = g39_X12_between (xso SM ad ws0) := HE.trans (if_pos c_93)
          refine y_lc2 (n := 1000000) C0 q_1737 (by decide) dX12_between_51 (fun w_105 e_106 => ?_)
          refine lv_goto (tgt := 72) C0.1 C0.2.1 dX12_between_54 (by decide) ?_
          refine y_l2i C0 (o32_272 e_106) (o32_273 e_106) dX12_between_72 (fun v_107 e_108 => ?_)
          replace HE : FT = ((xso SM ad ws0), v_107.toInt) := HE.trans (by rw [e_108, e_106]; rfl)
          rw [hQ]
          exact y_iret C0 h Fr.rf ⟨(congrArg Prod.fst (HE.symm.trans hFT)), (congrArg Prod.snd (HE.symm.trans hFT))⟩ dX12_between_73
      · -- 26
        replace HE : FT = g36_X12_between (xso SM ad ws0) a1.toInt a2.toInt := HE.trans (if_pos (o32_269 e_2 c_3 e_78 c_79 e_81 c_82))
        refine lv_iload_n C0.1 C0.2.1 dX12_between_29 rfl (lv_at hl 1 rfl) ?_
        refine y_i2l C0 dX12_between_30 (fun w_109 e_110 => ?_)
        refine lv_iload_n C0.1 C0.2.1 dX12_between_31 rfl (lv_at hl 2 rfl) ?_
        refine y_i2l C0 dX12_between_32 (fun w_111 e_112 => ?_)
        refine xr_lsub C0 dX12_between_33 (fun w_113 e_114 => ?_)
        refine lv_goto (tgt := 42) C0.1 C0.2.1 dX12_between_34 (by decide) ?_
        refine lv_lstore_n (lv' := [(3, .long w_113), (0, .int a0), (1, .int a1), (2, .int a2)]) C0.1 C0.2.1 dX12_between_42 rfl hl (by decide) rfl (fun ls hl => ?_)
        refine lv_lload_n C0.1 C0.2.1 dX12_between_43 rfl (lv_at hl 0 rfl) ?_
        refine y_lc2 (n := 1000000) C0 q_1737 (by decide) dX12_between_44 (fun w_115 e_116 => ?_)
        refine y_lcmp C0 dX12_between_47 (fun v_117 e_118 => ?_)
        replace HE : FT = g43b_X12_between (xso SM ad ws0) v_117.toInt w_113.toInt := HE.trans (by rw [(ix_cmp e_118), e_116, e_114, e_112, e_110]; rfl)
        refine y_if_le (tgt := 57) C0 dX12_between_48 (by decide) (fun c_119 => ?_) (fun c_119 => ?_)
        · -- 48
          replace HE : FT = g44_X12_between (xso SM ad ws0) w_113.toInt := HE.trans (if_neg (Int.not_lt.mpr c_119))
          refine lv_lload_n C0.1 C0.2.1 dX12_between_57 rfl (lv_at hl 0 rfl) ?_
          refine y_lc2 (n := (-1000000)) C0 q_1738 (by decide) dX12_between_58 (fun w_120 e_121 => ?_)
          refine y_lcmp C0 dX12_between_61 (fun v_122 e_123 => ?_)
          replace HE : FT = g46b_X12_between (xso SM ad ws0) v_122.toInt w_113.toInt := HE.trans (by rw [(ix_cmp e_123), e_121]; rfl)
          refine y_if_ge (tgt := 71) C0 dX12_between_62 (by decide) (fun c_124 => ?_) (fun c_124 => ?_)
          · -- 62
            replace HE : FT = g47_X12_between (xso SM ad ws0) w_113.toInt := HE.trans (if_neg (Int.not_lt.mpr c_124))
            refine lv_lload_n C0.1 C0.2.1 dX12_between_71 rfl (lv_at hl 0 rfl) ?_
            refine xr_l2i C0 dX12_between_72 (fun v_125 e_126 => ?_)
            replace HE : FT = ((xso SM ad ws0), v_125.toInt) := HE.trans (by rw [e_126]; rfl)
            rw [hQ]
            exact y_iret C0 h Fr.rf ⟨(congrArg Prod.fst (HE.symm.trans hFT)), (congrArg Prod.snd (HE.symm.trans hFT))⟩ dX12_between_73
          · -- 62
            replace HE : FT = g48_X12_between (xso SM ad ws0) := HE.trans (if_pos c_124)
            refine y_lc2 (n := (-1000000)) C0 q_1738 (by decide) dX12_between_65 (fun w_127 e_128 => ?_)
            refine lv_goto (tgt := 72) C0.1 C0.2.1 dX12_between_68 (by decide) ?_
            refine y_l2i C0 (o32_270 e_128) (o32_271 e_128) dX12_between_72 (fun v_129 e_130 => ?_)
            replace HE : FT = ((xso SM ad ws0), v_129.toInt) := HE.trans (by rw [e_130, e_128]; rfl)
            rw [hQ]
            exact y_iret C0 h Fr.rf ⟨(congrArg Prod.fst (HE.symm.trans hFT)), (congrArg Prod.snd (HE.symm.trans hFT))⟩ dX12_between_73
        · -- 48
          replace HE : FT = g45_X12_between (xso SM ad ws0) := HE.trans (if_pos c_119)
          refine y_lc2 (n := 1000000) C0 q_1737 (by decide) dX12_between_51 (fun w_131 e_132 => ?_)
          refine lv_goto (tgt := 72) C0.1 C0.2.1 dX12_between_54 (by decide) ?_
          refine y_l2i C0 (o32_272 e_132) (o32_273 e_132) dX12_between_72 (fun v_133 e_134 => ?_)
          replace HE : FT = ((xso SM ad ws0), v_133.toInt) := HE.trans (by rw [e_134, e_132]; rfl)
          rw [hQ]
          exact y_iret C0 h Fr.rf ⟨(congrArg Prod.fst (HE.symm.trans hFT)), (congrArg Prod.snd (HE.symm.trans hFT))⟩ dX12_between_73
    · -- 11
      replace HE : FT = g33_X12_between (xso SM ad ws0) a1.toInt a2.toInt := HE.trans (if_pos (o32_266 e_2 c_3 e_78 c_79))
      refine lv_iload_n C0.1 C0.2.1 dX12_between_14 rfl (lv_at hl 1 rfl) ?_
      refine y_i2l C0 dX12_between_15 (fun w_135 e_136 => ?_)
      refine lv_iload_n C0.1 C0.2.1 dX12_between_16 rfl (lv_at hl 2 rfl) ?_
      refine y_i2l C0 dX12_between_17 (fun w_137 e_138 => ?_)
      refine xr_ladd C0 dX12_between_18 (fun w_139 e_140 => ?_)
      refine lv_goto (tgt := 42) C0.1 C0.2.1 dX12_between_19 (by decide) ?_
      refine lv_lstore_n (lv' := [(3, .long w_139), (0, .int a0), (1, .int a1), (2, .int a2)]) C0.1 C0.2.1 dX12_between_42 rfl hl (by decide) rfl (fun ls hl => ?_)
      refine lv_lload_n C0.1 C0.2.1 dX12_between_43 rfl (lv_at hl 0 rfl) ?_
      refine y_lc2 (n := 1000000) C0 q_1737 (by decide) dX12_between_44 (fun w_141 e_142 => ?_)
      refine y_lcmp C0 dX12_between_47 (fun v_143 e_144 => ?_)
      replace HE : FT = g49b_X12_between (xso SM ad ws0) v_143.toInt w_139.toInt := HE.trans (by rw [(ix_cmp e_144), e_142, e_140, e_138, e_136]; rfl)
      refine y_if_le (tgt := 57) C0 dX12_between_48 (by decide) (fun c_145 => ?_) (fun c_145 => ?_)
      · -- 48
        replace HE : FT = g50_X12_between (xso SM ad ws0) w_139.toInt := HE.trans (if_neg (Int.not_lt.mpr c_145))
        refine lv_lload_n C0.1 C0.2.1 dX12_between_57 rfl (lv_at hl 0 rfl) ?_
        refine y_lc2 (n := (-1000000)) C0 q_1738 (by decide) dX12_between_58 (fun w_146 e_147 => ?_)
        refine y_lcmp C0 dX12_between_61 (fun v_148 e_149 => ?_)
        replace HE : FT = g52b_X12_between (xso SM ad ws0) v_148.toInt w_139.toInt := HE.trans (by rw [(ix_cmp e_149), e_147]; rfl)
        refine y_if_ge (tgt := 71) C0 dX12_between_62 (by decide) (fun c_150 => ?_) (fun c_150 => ?_)
        · -- 62
          replace HE : FT = g53_X12_between (xso SM ad ws0) w_139.toInt := HE.trans (if_neg (Int.not_lt.mpr c_150))
          refine lv_lload_n C0.1 C0.2.1 dX12_between_71 rfl (lv_at hl 0 rfl) ?_
          refine xr_l2i C0 dX12_between_72 (fun v_151 e_152 => ?_)
          replace HE : FT = ((xso SM ad ws0), v_151.toInt) := HE.trans (by rw [e_152]; rfl)
          rw [hQ]
          exact y_iret C0 h Fr.rf ⟨(congrArg Prod.fst (HE.symm.trans hFT)), (congrArg Prod.snd (HE.symm.trans hFT))⟩ dX12_between_73
        · -- 62
          replace HE : FT = g54_X12_between (xso SM ad ws0) := HE.trans (if_pos c_150)
          refine y_lc2 (n := (-1000000)) C0 q_1738 (by decide) dX12_between_65 (fun w_153 e_154 => ?_)
          refine lv_goto (tgt := 72) C0.1 C0.2.1 dX12_between_68 (by decide) ?_
          refine y_l2i C0 (o32_270 e_154) (o32_271 e_154) dX12_between_72 (fun v_155 e_156 => ?_)
          replace HE : FT = ((xso SM ad ws0), v_155.toInt) := HE.trans (by rw [e_156, e_154]; rfl)
          rw [hQ]
          exact y_iret C0 h Fr.rf ⟨(congrArg Prod.fst (HE.symm.trans hFT)), (congrArg Prod.snd (HE.symm.trans hFT))⟩ dX12_between_73
      · -- 48
        replace HE : FT = g51_X12_between (xso SM ad ws0) := HE.trans (if_pos c_145)
        refine y_lc2 (n := 1000000) C0 q_1737 (by decide) dX12_between_51 (fun w_157 e_158 => ?_)
        refine lv_goto (tgt := 72) C0.1 C0.2.1 dX12_between_54 (by decide) ?_
        refine y_l2i C0 (o32_272 e_158) (o32_273 e_158) dX12_between_72 (fun v_159 e_160 => ?_)
        replace HE : FT = ((xso SM ad ws0), v_159.toInt) := HE.trans (by rw [e_160, e_158]; rfl)
        rw [hQ]
        exact y_iret C0 h Fr.rf ⟨(congrArg Prod.fst (HE.symm.trans hFT)), (congrArg Prod.snd (HE.symm.trans hFT))⟩ dX12_between_73
noncomputable def g2_X12_wordOf (s : XS) (a4 : Int) : XR := (s, a4)
noncomputable def g3_X12_wordOf (s : XS) (a2 : Int) : XR := (s, (a2 % (s 1 1 (Int.toNat 1))))
noncomputable def g4_X12_wordOf (s : XS) (a2 : Int) : XR := (s, (a2 / (s 1 1 (Int.toNat 1))))
noncomputable def g5_X12_wordOf (s : XS) (v_8 : Int) : XR := (s, (Xirem v_8 24))
noncomputable def g6_X12_wordOf (s : XS) (v_8 : Int) : XR := (s, (Xidiv v_8 24))
noncomputable def g7_X12_wordOf (s : XS) (a2 : Int) : XR := (s, (s 1 1 (Int.toNat (61 + a2))))
noncomputable def g1s_X12_wordOf (s : XS) (a1 : Int) (a2 : Int) (a4 : Int) (v_8 : Int) : XR := if a1 < 0 ∨ 4 < a1 then g2_X12_wordOf s a4 else if a1 = 0 then g3_X12_wordOf s a2 else if a1 = 1 then g4_X12_wordOf s a2 else if a1 = 2 then g5_X12_wordOf s v_8 else if a1 = 3 then g6_X12_wordOf s v_8 else if a1 = 4 then g7_X12_wordOf s a2 else (s, 0)
noncomputable def f_X12_wordOf (s : XS) (a1 : Int) (a2 : Int) (a3 : Int) (a4 : Int) : XR := g1s_X12_wordOf s a1 a2 a4 ((Xiadd (s 1 1 (Int.toNat 111)) a3))
set_option maxHeartbeats 4000000 in
set_option maxRecDepth 100000 in
theorem c_X12_wordOf (l : Launch) (G : GG) (Z : RZ) (ad : Nat → Nat) (ws0 : va_W) (hT : Ty G SM ad ws0) (a1 : Int32) (a2 : Int32) (a3 : Int32) (a4 : Int32) (l2 : 0 ≤ a2.toInt) (u2 : a2.toInt ≤ 24) (hLd : Laid ws0) : Mq l yX12_wordOf cX12_wordOf 6 (some .int) 1 G Z [.ref (ad 0), .int a1, .int a2, .int a3, .int a4] ws0 (PI G SM ad [] ws0 (fun r u => (xso SM ad u = (f_X12_wordOf (xso SM ad ws0) a1.toInt a2.toInt a3.toInt a4.toInt).1) ∧ (r.toInt = (f_X12_wordOf (xso SM ad ws0) a1.toInt a2.toInt a3.toInt a4.toInt).2))) := by
  refine Mq.start (by decide) (Nat.le_of_ble_eq_true rfl) ?_
  intro p e s m below meth c A ls C0 hZ h hl
  have hl : lv_has ls 6 [(0, .ref (ad 0)), (1, .int a1), (2, .int a2), (3, .int a3), (4, .int a4)] := hl
  have h : Wt G SM ad A s s.heap [] ws0 := ⟨h, hT⟩
  obtain ⟨args, hargs⟩ : ∃ z, z = ([.ref (ad 0), .int a1, .int a2, .int a3, .int a4] : List Value).toArray := ⟨_, rfl⟩
  rw [← hargs] at C0 ⊢
  have C0 : Cx p s m args meth c RX12 cX12_wordOf 6 (some .int) := C0
  obtain ⟨Q, hQ⟩ : ∃ z, z = MQ below ((PI G SM ad [] ws0 (fun r u => (xso SM ad u = (f_X12_wordOf (xso SM ad ws0) a1.toInt a2.toInt a3.toInt a4.toInt).1) ∧ (r.toInt = (f_X12_wordOf (xso SM ad ws0) a1.toInt a2.toInt a3.toInt a4.toInt).2))) A) args s 0 0 A := ⟨_, rfl⟩
  rw [← hQ]
  obtain ⟨FT, hFT⟩ : ∃ z, z = f_X12_wordOf (xso SM ad ws0) a1.toInt a2.toInt a3.toInt a4.toInt := ⟨_, rfl⟩
  have HE : FT = f_X12_wordOf (xso SM ad ws0) a1.toInt a2.toInt a3.toInt a4.toInt := hFT
  refine lv_aload_n C0.1 C0.2.1 dX12_wordOf_0 rfl (lv_at hl 0 rfl) ?_
  refine ng_X12_all C0 h kSM_0 q_1439 dX12_wordOf_1 ?_
  refine y_c2 (n := 111) C0 (by decide) dX12_wordOf_4 (fun v_1 e_2 => ?_)
  refine y_iald C0 h kSM_1 rfl (by decide) (o32_235 e_2) (o32_236 e_2) dX12_wordOf_6 (fun v_3 e_4 e_5 e_6 => ?_)
  have e_7 : aI ws0 1 111 = v_3 := (congrArg (aI ws0 1) (ix_c (c := 111) (o32_237 e_2))).symm.trans e_4
  refine lv_iload_n C0.1 C0.2.1 dX12_wordOf_7 rfl (lv_at hl 3 rfl) ?_
  refine xr_iadd C0 dX12_wordOf_8 (fun v_8 e_9 => ?_)
  refine lv_istore (lv' := [(5, .int v_8), (0, .ref (ad 0)), (1, .int a1), (2, .int a2), (3, .int a3), (4, .int a4)]) C0.1 C0.2.1 dX12_wordOf_9 hl (by decide) rfl (fun ls hl => ?_)
  refine lv_iload_n C0.1 C0.2.1 dX12_wordOf_11 rfl (lv_at hl 2 rfl) ?_
  replace HE : FT = g1s_X12_wordOf (xso SM ad ws0) a1.toInt a2.toInt a4.toInt v_8.toInt := HE.trans (by rw [e_9, (xg1 e_4 : v_3.toInt = (xso SM ad ws0) 1 1 v_1.toInt.toNat), e_2]; rfl)
  by_cases sw_10 : a1.toInt < 0 ∨ 4 < a1.toInt
  · refine lv_tableOut (tgt := 88) C0.1 C0.2.1 dX12_wordOf_12 sw_10 (by decide) ?_
    replace HE : FT = g2_X12_wordOf (xso SM ad ws0) a4.toInt := HE.trans (if_pos sw_10)
    refine lv_iload C0.1 C0.2.1 dX12_wordOf_88 (lv_at hl 5 rfl) ?_
    replace HE : FT = ((xso SM ad ws0), a4.toInt) := HE.trans rfl
    rw [hQ]
    exact y_iret C0 h Fr.rf ⟨(congrArg Prod.fst (HE.symm.trans hFT)), (congrArg Prod.snd (HE.symm.trans hFT))⟩ dX12_wordOf_90
  · obtain ⟨sw_101, sw_102⟩ := not_or.mp sw_10
    rcases (show a1.toInt = 0 ∨ a1.toInt = 1 ∨ a1.toInt = 2 ∨ a1.toInt = 3 ∨ a1.toInt = 4 by omega) with sw_104 | sw_104 | sw_104 | sw_104 | sw_104
    · refine lv_tableIn (off := 36) (tgt := 48) C0.1 C0.2.1 dX12_wordOf_12 sw_101 sw_102 (by rw [sw_104]; rfl) (by decide) ?_
      replace HE : FT = g3_X12_wordOf (xso SM ad ws0) a2.toInt := HE.trans ((if_neg (not_or.mpr ⟨sw_101, sw_102⟩)).trans (if_pos sw_104))
      refine lv_iload_n C0.1 C0.2.1 dX12_wordOf_48 rfl (lv_at hl 3 rfl) ?_
      refine lv_aload_n C0.1 C0.2.1 dX12_wordOf_49 rfl (lv_at hl 1 rfl) ?_
      refine ng_X12_all C0 h kSM_0 q_1439 dX12_wordOf_50 ?_
      refine y_c1 (n := 1) C0 (by decide) dX12_wordOf_53 (fun v_11 e_12 => ?_)
      refine y_iald C0 h kSM_1 rfl (by decide) (o32_5 e_12) (o32_38 e_12) dX12_wordOf_54 (fun v_13 e_14 e_15 e_16 => ?_)
      have f_17 := o32_39 v_11.toInt.toNat (o32_40 e_12) (o32_41 e_12)
      have e_18 : aI ws0 1 1 = v_13 := (congrArg (aI ws0 1) (ix_c (c := 1) (o32_42 e_12))).symm.trans e_14
      have e_19 := laid_1 (Laid.pa hLd Pa.rf) e_18
      refine y_remXm C0 (o32_106 (Int.le_trans f_17.1 e_15) (Int.le_trans e_16 f_17.2) e_19) (o32_107 l2 u2) dX12_wordOf_55 (fun v_20 e_21 e_22 e_23 => ?_)
      replace HE : FT = ((xso SM ad ws0), v_20.toInt) := HE.trans (by rw [e_21, (xg1 e_14 : v_13.toInt = (xso SM ad ws0) 1 1 v_11.toInt.toNat), e_12]; rfl)
      rw [hQ]
      exact y_iret C0 h Fr.rf ⟨(congrArg Prod.fst (HE.symm.trans hFT)), (congrArg Prod.snd (HE.symm.trans hFT))⟩ dX12_wordOf_56
    · refine lv_tableIn (off := 45) (tgt := 57) C0.1 C0.2.1 dX12_wordOf_12 sw_101 sw_102 (by rw [sw_104]; rfl) (by decide) ?_
      replace HE : FT = g4_X12_wordOf (xso SM ad ws0) a2.toInt := HE.trans ((if_neg (not_or.mpr ⟨sw_101, sw_102⟩)).trans ((if_neg (fun q => absurd (sw_104.symm.trans q) (by decide))).trans (if_pos sw_104)))
      refine lv_iload_n C0.1 C0.2.1 dX12_wordOf_57 rfl (lv_at hl 3 rfl) ?_
      refine lv_aload_n C0.1 C0.2.1 dX12_wordOf_58 rfl (lv_at hl 1 rfl) ?_
      refine ng_X12_all C0 h kSM_0 q_1439 dX12_wordOf_59 ?_
      refine y_c1 (n := 1) C0 (by decide) dX12_wordOf_62 (fun v_24 e_25 => ?_)
      refine y_iald C0 h kSM_1 rfl (by decide) (o32_5 e_25) (o32_38 e_25) dX12_wordOf_63 (fun v_26 e_27 e_28 e_29 => ?_)
      have f_30 := o32_39 v_24.toInt.toNat (o32_40 e_25) (o32_41 e_25)
      have e_31 : aI ws0 1 1 = v_26 := (congrArg (aI ws0 1) (ix_c (c := 1) (o32_42 e_25))).symm.trans e_27
      have e_32 := laid_1 (Laid.pa hLd Pa.rf) e_31
      refine y_divXm C0 (o32_106 (Int.le_trans f_30.1 e_28) (Int.le_trans e_29 f_30.2) e_32) (o32_107 l2 u2) dX12_wordOf_64 (fun v_33 e_34 e_35 e_36 => ?_)
      replace HE : FT = ((xso SM ad ws0), v_33.toInt) := HE.trans (by rw [e_34, (xg1 e_27 : v_26.toInt = (xso SM ad ws0) 1 1 v_24.toInt.toNat), e_25]; rfl)
      rw [hQ]
      exact y_iret C0 h Fr.rf ⟨(congrArg Prod.fst (HE.symm.trans hFT)), (congrArg Prod.snd (HE.symm.trans hFT))⟩ dX12_wordOf_65
    · refine lv_tableIn (off := 54) (tgt := 66) C0.1 C0.2.1 dX12_wordOf_12 sw_101 sw_102 (by rw [sw_104]; rfl) (by decide) ?_
      replace HE : FT = g5_X12_wordOf (xso SM ad ws0) v_8.toInt := HE.trans ((if_neg (not_or.mpr ⟨sw_101, sw_102⟩)).trans ((if_neg (fun q => absurd (sw_104.symm.trans q) (by decide))).trans ((if_neg (fun q => absurd (sw_104.symm.trans q) (by decide))).trans (if_pos sw_104))))
      refine lv_iload C0.1 C0.2.1 dX12_wordOf_66 (lv_at hl 0 rfl) ?_
      refine y_c2 (n := 24) C0 (by decide) dX12_wordOf_68 (fun v_37 e_38 => ?_)
      refine xr_irem C0 (o32_274 e_38) dX12_wordOf_70 (fun v_39 e_40 => ?_)
      replace HE : FT = ((xso SM ad ws0), v_39.toInt) := HE.trans (by rw [e_40, e_38]; rfl)
      rw [hQ]
      exact y_iret C0 h Fr.rf ⟨(congrArg Prod.fst (HE.symm.trans hFT)), (congrArg Prod.snd (HE.symm.trans hFT))⟩ dX12_wordOf_71
    · refine lv_tableIn (off := 60) (tgt := 72) C0.1 C0.2.1 dX12_wordOf_12 sw_101 sw_102 (by rw [sw_104]; rfl) (by decide) ?_
      replace HE : FT = g6_X12_wordOf (xso SM ad ws0) v_8.toInt := HE.trans ((if_neg (not_or.mpr ⟨sw_101, sw_102⟩)).trans ((if_neg (fun q => absurd (sw_104.symm.trans q) (by decide))).trans ((if_neg (fun q => absurd (sw_104.symm.trans q) (by decide))).trans ((if_neg (fun q => absurd (sw_104.symm.trans q) (by decide))).trans (if_pos sw_104)))))
      refine lv_iload C0.1 C0.2.1 dX12_wordOf_72 (lv_at hl 0 rfl) ?_
      refine y_c2 (n := 24) C0 (by decide) dX12_wordOf_74 (fun v_41 e_42 => ?_)
      refine xr_idiv C0 (o32_274 e_42) dX12_wordOf_76 (fun v_43 e_44 => ?_)
      replace HE : FT = ((xso SM ad ws0), v_43.toInt) := HE.trans (by rw [e_44, e_42]; rfl)
      rw [hQ]
      exact y_iret C0 h Fr.rf ⟨(congrArg Prod.fst (HE.symm.trans hFT)), (congrArg Prod.snd (HE.symm.trans hFT))⟩ dX12_wordOf_77
    · refine lv_tableIn (off := 66) (tgt := 78) C0.1 C0.2.1 dX12_wordOf_12 sw_101 sw_102 (by rw [sw_104]; rfl) (by decide) ?_
      replace HE : FT = g7_X12_wordOf (xso SM ad ws0) a2.toInt := HE.trans ((if_neg (not_or.mpr ⟨sw_101, sw_102⟩)).trans ((if_neg (fun q => absurd (sw_104.symm.trans q) (by decide))).trans ((if_neg (fun q => absurd (sw_104.symm.trans q) (by decide))).trans ((if_neg (fun q => absurd (sw_104.symm.trans q) (by decide))).trans ((if_neg (fun q => absurd (sw_104.symm.trans q) (by decide))).trans (if_pos sw_104))))))
      refine lv_aload_n C0.1 C0.2.1 dX12_wordOf_78 rfl (lv_at hl 1 rfl) ?_
      refine ng_X12_all C0 h kSM_0 q_1439 dX12_wordOf_79 ?_
      refine y_c2 (n := 61) C0 (by decide) dX12_wordOf_82 (fun v_45 e_46 => ?_)
      refine lv_iload_n C0.1 C0.2.1 dX12_wordOf_84 rfl (lv_at hl 3 rfl) ?_
      refine y_add C0 (o32_275 l2 u2 e_46 (le_min v_45) (le_max v_45) (le_min a2) (le_max a2)) (o32_276 l2 u2 e_46 (le_min v_45) (le_max v_45) (le_min a2) (le_max a2)) dX12_wordOf_85 (fun v_47 e_48 => ?_)
      refine y_iald C0 h kSM_1 rfl (by decide) (o32_277 l2 u2 e_46 e_48) (o32_278 l2 u2 e_46 e_48) dX12_wordOf_86 (fun v_49 e_50 e_51 e_52 => ?_)
      replace HE : FT = ((xso SM ad ws0), v_49.toInt) := HE.trans (by rw [(xg1 e_50 : v_49.toInt = (xso SM ad ws0) 1 1 v_47.toInt.toNat), e_48, e_46]; rfl)
      rw [hQ]
      exact y_iret C0 h Fr.rf ⟨(congrArg Prod.fst (HE.symm.trans hFT)), (congrArg Prod.snd (HE.symm.trans hFT))⟩ dX12_wordOf_87
noncomputable def g2_X12_lesser (s : XS) (a1 : Int) : XR := (s, a1)
noncomputable def g3_X12_lesser (s : XS) (a0 : Int) : XR := (s, a0)
noncomputable def g1b_X12_lesser (s : XS) (a1 : Int) (a0 : Int) : XR := if a0 < a1 then g3_X12_lesser s a0 else g2_X12_lesser s a1
noncomputable def f_X12_lesser (s : XS) (a0 : Int) (a1 : Int) : XR := g1b_X12_lesser s a1 a0
set_option maxHeartbeats 4000000 in
set_option maxRecDepth 100000 in
theorem c_X12_lesser (l : Launch) (G : GG) (Z : RZ) (ad : Nat → Nat) (ws0 : va_W) (hT : Ty G SM ad ws0) (a0 : Int32) (a1 : Int32) : Mq l yX12_lesser cX12_lesser 2 (some .int) 1 G Z [.int a0, .int a1] ws0 (PI G SM ad [] ws0 (fun r u => (xso SM ad u = (f_X12_lesser (xso SM ad ws0) a0.toInt a1.toInt).1) ∧ (r.toInt = (f_X12_lesser (xso SM ad ws0) a0.toInt a1.toInt).2) ∧ ((r.toInt = a0.toInt ∨ r.toInt = a1.toInt)) ∧ (r.toInt ≤ a0.toInt ∧ r.toInt ≤ a1.toInt))) := by
  refine Mq.start (by decide) (Nat.le_of_ble_eq_true rfl) ?_
  intro p e s m below meth c A ls C0 hZ h hl
  have hl : lv_has ls 2 [(0, .int a0), (1, .int a1)] := hl
  have h : Wt G SM ad A s s.heap [] ws0 := ⟨h, hT⟩
  obtain ⟨args, hargs⟩ : ∃ z, z = ([.int a0, .int a1] : List Value).toArray := ⟨_, rfl⟩
  rw [← hargs] at C0 ⊢
  have C0 : Cx p s m args meth c RX12 cX12_lesser 2 (some .int) := C0
  obtain ⟨Q, hQ⟩ : ∃ z, z = MQ below ((PI G SM ad [] ws0 (fun r u => (xso SM ad u = (f_X12_lesser (xso SM ad ws0) a0.toInt a1.toInt).1) ∧ (r.toInt = (f_X12_lesser (xso SM ad ws0) a0.toInt a1.toInt).2) ∧ ((r.toInt = a0.toInt ∨ r.toInt = a1.toInt)) ∧ (r.toInt ≤ a0.toInt ∧ r.toInt ≤ a1.toInt))) A) args s 0 0 A := ⟨_, rfl⟩
  rw [← hQ]
  obtain ⟨FT, hFT⟩ : ∃ z, z = f_X12_lesser (xso SM ad ws0) a0.toInt a1.toInt := ⟨_, rfl⟩
  have HE : FT = f_X12_lesser (xso SM ad ws0) a0.toInt a1.toInt := hFT
  refine lv_iload_n C0.1 C0.2.1 dX12_lesser_0 rfl (lv_at hl 0 rfl) ?_
  refine lv_iload_n C0.1 C0.2.1 dX12_lesser_1 rfl (lv_at hl 1 rfl) ?_
  replace HE : FT = g1b_X12_lesser (xso SM ad ws0) a1.toInt a0.toInt := HE.trans rfl
  refine y_icmp_ge (tgt := 9) C0 dX12_lesser_2 (by decide) (fun c_1 => ?_) (fun c_1 => ?_)
  · -- 2
    replace HE : FT = g2_X12_lesser (xso SM ad ws0) a1.toInt := HE.trans (if_neg (Int.not_lt.mpr c_1))
    refine lv_iload_n C0.1 C0.2.1 dX12_lesser_9 rfl (lv_at hl 1 rfl) ?_
    replace HE : FT = ((xso SM ad ws0), a1.toInt) := HE.trans rfl
    rw [hQ]
    exact y_iret C0 h Fr.rf ⟨(congrArg Prod.fst (HE.symm.trans hFT)), (congrArg Prod.snd (HE.symm.trans hFT)), (o32_279 c_1), (o32_280 c_1)⟩ dX12_lesser_10
  · -- 2
    replace HE : FT = g3_X12_lesser (xso SM ad ws0) a0.toInt := HE.trans (if_pos c_1)
    refine lv_iload_n C0.1 C0.2.1 dX12_lesser_5 rfl (lv_at hl 0 rfl) ?_
    refine lv_goto (tgt := 10) C0.1 C0.2.1 dX12_lesser_6 (by decide) ?_
    replace HE : FT = ((xso SM ad ws0), a0.toInt) := HE.trans rfl
    rw [hQ]
    exact y_iret C0 h Fr.rf ⟨(congrArg Prod.fst (HE.symm.trans hFT)), (congrArg Prod.snd (HE.symm.trans hFT)), (o32_281 c_1), (o32_282 c_1)⟩ dX12_lesser_10
noncomputable def g2_X12_orNone (s : XS) (a0 : Int) : XR := (s, a0)
noncomputable def g3_X12_orNone (s : XS) : XR := (s, ((-1)))
noncomputable def g1b_X12_orNone (s : XS) (a0 : Int) : XR := if a0 = 1000000000 then g3_X12_orNone s else g2_X12_orNone s a0
noncomputable def f_X12_orNone (s : XS) (a0 : Int) : XR := g1b_X12_orNone s a0
set_option maxHeartbeats 4000000 in
set_option maxRecDepth 100000 in
theorem c_X12_orNone (l : Launch) (G : GG) (Z : RZ) (ad : Nat → Nat) (ws0 : va_W) (hT : Ty G SM ad ws0) (a0 : Int32) : Mq l yX12_orNone cX12_orNone 1 (some .int) 1 G Z [.int a0] ws0 (PI G SM ad [] ws0 (fun r u => (xso SM ad u = (f_X12_orNone (xso SM ad ws0) a0.toInt).1) ∧ (r.toInt = (f_X12_orNone (xso SM ad ws0) a0.toInt).2))) := by
  refine Mq.start (by decide) (Nat.le_of_ble_eq_true rfl) ?_
  intro p e s m below meth c A ls C0 hZ h hl
  have hl : lv_has ls 1 [(0, .int a0)] := hl
  have h : Wt G SM ad A s s.heap [] ws0 := ⟨h, hT⟩
  obtain ⟨args, hargs⟩ : ∃ z, z = ([.int a0] : List Value).toArray := ⟨_, rfl⟩
  rw [← hargs] at C0 ⊢
  have C0 : Cx p s m args meth c RX12 cX12_orNone 1 (some .int) := C0
  obtain ⟨Q, hQ⟩ : ∃ z, z = MQ below ((PI G SM ad [] ws0 (fun r u => (xso SM ad u = (f_X12_orNone (xso SM ad ws0) a0.toInt).1) ∧ (r.toInt = (f_X12_orNone (xso SM ad ws0) a0.toInt).2))) A) args s 0 0 A := ⟨_, rfl⟩
  rw [← hQ]
  obtain ⟨FT, hFT⟩ : ∃ z, z = f_X12_orNone (xso SM ad ws0) a0.toInt := ⟨_, rfl⟩
  have HE : FT = f_X12_orNone (xso SM ad ws0) a0.toInt := hFT
  refine lv_iload_n C0.1 C0.2.1 dX12_orNone_0 rfl (lv_at hl 0 rfl) ?_
  refine y_c5 (n := 1000000000) C0 q_1887 (by decide) dX12_orNone_1 (fun v_1 e_2 => ?_)
  replace HE : FT = g1b_X12_orNone (xso SM ad ws0) a0.toInt := HE.trans rfl
  refine y_icmp_ne (tgt := 11) C0 dX12_orNone_4 (by decide) (fun c_3 => ?_) (fun c_3 => ?_)
  · -- 4
    replace HE : FT = g2_X12_orNone (xso SM ad ws0) a0.toInt := HE.trans (if_neg (o32_284 e_2 c_3))
    refine lv_iload_n C0.1 C0.2.1 dX12_orNone_11 rfl (lv_at hl 0 rfl) ?_
    replace HE : FT = ((xso SM ad ws0), a0.toInt) := HE.trans rfl
    rw [hQ]
    exact y_iret C0 h Fr.rf ⟨(congrArg Prod.fst (HE.symm.trans hFT)), (congrArg Prod.snd (HE.symm.trans hFT))⟩ dX12_orNone_12
  · -- 4
    replace HE : FT = g3_X12_orNone (xso SM ad ws0) := HE.trans (if_pos (o32_285 e_2 c_3))
    refine y_c1 (n := (-1)) C0 (by decide) dX12_orNone_7 (fun v_4 e_5 => ?_)
    refine lv_goto (tgt := 12) C0.1 C0.2.1 dX12_orNone_8 (by decide) ?_
    replace HE : FT = ((xso SM ad ws0), v_4.toInt) := HE.trans (by rw [e_5]; rfl)
    rw [hQ]
    exact y_iret C0 h Fr.rf ⟨(congrArg Prod.fst (HE.symm.trans hFT)), (congrArg Prod.snd (HE.symm.trans hFT))⟩ dX12_orNone_12
noncomputable def g8_X12_cut (s : XS) (a0 : Int) : XR := (s, a0)
noncomputable def g9_X12_cut (s : XS) (a0 : Int) : XR := (s, ((Xl2i a0)))
noncomputable def g7b_X12_cut (s : XS) (a1 : Int) (a0 : Int) : XR := if a1 = 2 then g9_X12_cut s a0 else g8_X12_cut s a0
noncomputable def g5_X12_cut (s : XS) (a0 : Int) (a1 : Int) : XR := g7b_X12_cut s a1 a0
noncomputable def g6_X12_cut (s : XS) (a0 : Int) : XR := (s, ((Xi2s (Xl2i a0))))
noncomputable def g4b_X12_cut (s : XS) (a1 : Int) (a0 : Int) : XR := if a1 = 1 then g6_X12_cut s a0 else g5_X12_cut s a0 a1
noncomputable def g2_X12_cut (s : XS) (a0 : Int) (a1 : Int) : XR := g4b_X12_cut s a1 a0
noncomputable def g3_X12_cut (s : XS) (a0 : Int) : XR := (s, ((Xi2b (Xl2i a0))))
noncomputable def g1b_X12_cut (s : XS) (a1 : Int) (a0 : Int) : XR := if a1 = 0 then g3_X12_cut s a0 else g2_X12_cut s a0 a1
noncomputable def f_X12_cut (s : XS) (a0 : Int) (a1 : Int) : XR := g1b_X12_cut s a1 a0
set_option maxHeartbeats 4000000 in
set_option maxRecDepth 100000 in
theorem c_X12_cut (l : Launch) (G : GG) (Z : RZ) (ad : Nat → Nat) (ws0 : va_W) (hT : Ty G SM ad ws0) (a0 : Int64) (a1 : Int32) : Mq l yX12_cut cX12_cut 3 (some .long) 1 G Z [.long a0, .int a1] ws0 (PL G SM ad [] ws0 (fun r u => (xso SM ad u = (f_X12_cut (xso SM ad ws0) a0.toInt a1.toInt).1) ∧ (r.toInt = (f_X12_cut (xso SM ad ws0) a0.toInt a1.toInt).2))) := by
  refine Mq.start (by decide) (Nat.le_of_ble_eq_true rfl) ?_
  intro p e s m below meth c A ls C0 hZ h hl
  have hl : lv_has ls 3 [(0, .long a0), (2, .int a1)] := hl
  have h : Wt G SM ad A s s.heap [] ws0 := ⟨h, hT⟩
  obtain ⟨args, hargs⟩ : ∃ z, z = ([.long a0, .int a1] : List Value).toArray := ⟨_, rfl⟩
  rw [← hargs] at C0 ⊢
  have C0 : Cx p s m args meth c RX12 cX12_cut 3 (some .long) := C0
  obtain ⟨Q, hQ⟩ : ∃ z, z = MQ below ((PL G SM ad [] ws0 (fun r u => (xso SM ad u = (f_X12_cut (xso SM ad ws0) a0.toInt a1.toInt).1) ∧ (r.toInt = (f_X12_cut (xso SM ad ws0) a0.toInt a1.toInt).2))) A) args s 0 0 A := ⟨_, rfl⟩
  rw [← hQ]
  obtain ⟨FT, hFT⟩ : ∃ z, z = f_X12_cut (xso SM ad ws0) a0.toInt a1.toInt := ⟨_, rfl⟩
  have HE : FT = f_X12_cut (xso SM ad ws0) a0.toInt a1.toInt := hFT
  refine lv_iload_n C0.1 C0.2.1 dX12_cut_0 rfl (lv_at hl 1 rfl) ?_
  replace HE : FT = g1b_X12_cut (xso SM ad ws0) a1.toInt a0.toInt := HE.trans rfl
  refine y_if_ne (tgt := 11) C0 dX12_cut_1 (by decide) (fun c_1 => ?_) (fun c_1 => ?_)
  · -- 1
    replace HE : FT = g2_X12_cut (xso SM ad ws0) a0.toInt a1.toInt := HE.trans (if_neg c_1)
    refine lv_iload_n C0.1 C0.2.1 dX12_cut_11 rfl (lv_at hl 1 rfl) ?_
    refine y_c1 (n := 1) C0 (by decide) dX12_cut_12 (fun v_2 e_3 => ?_)
    replace HE : FT = g4b_X12_cut (xso SM ad ws0) a1.toInt a0.toInt := HE.trans rfl
    refine y_icmp_ne (tgt := 23) C0 dX12_cut_13 (by decide) (fun c_4 => ?_) (fun c_4 => ?_)
    · -- 13
      replace HE : FT = g5_X12_cut (xso SM ad ws0) a0.toInt a1.toInt := HE.trans (if_neg (o32_286 c_1 e_3 c_4))
      refine lv_iload_n C0.1 C0.2.1 dX12_cut_23 rfl (lv_at hl 1 rfl) ?_
      refine y_c1 (n := 2) C0 (by decide) dX12_cut_24 (fun v_5 e_6 => ?_)
      replace HE : FT = g7b_X12_cut (xso SM ad ws0) a1.toInt a0.toInt := HE.trans rfl
      refine y_icmp_ne (tgt := 34) C0 dX12_cut_25 (by decide) (fun c_7 => ?_) (fun c_7 => ?_)
      · -- 25
        replace HE : FT = g8_X12_cut (xso SM ad ws0) a0.toInt := HE.trans (if_neg (o32_288 c_1 e_3 c_4 e_6 c_7))
        refine lv_lload_n C0.1 C0.2.1 dX12_cut_34 rfl (lv_at hl 0 rfl) ?_
        replace HE : FT = ((xso SM ad ws0), a0.toInt) := HE.trans rfl
        rw [hQ]
        exact y_lret C0 h Fr.rf ⟨(congrArg Prod.fst (HE.symm.trans hFT)), (congrArg Prod.snd (HE.symm.trans hFT))⟩ dX12_cut_35
      · -- 25
        replace HE : FT = g9_X12_cut (xso SM ad ws0) a0.toInt := HE.trans (if_pos (o32_289 c_1 e_3 c_4 e_6 c_7))
        refine lv_lload_n C0.1 C0.2.1 dX12_cut_28 rfl (lv_at hl 0 rfl) ?_
        refine xr_l2i C0 dX12_cut_29 (fun v_8 e_9 => ?_)
        refine y_i2l C0 dX12_cut_30 (fun w_10 e_11 => ?_)
        refine lv_goto (tgt := 35) C0.1 C0.2.1 dX12_cut_31 (by decide) ?_
        replace HE : FT = ((xso SM ad ws0), w_10.toInt) := HE.trans (by rw [e_11, e_9]; rfl)
        rw [hQ]
        exact y_lret C0 h Fr.rf ⟨(congrArg Prod.fst (HE.symm.trans hFT)), (congrArg Prod.snd (HE.symm.trans hFT))⟩ dX12_cut_35
    · -- 13
      replace HE : FT = g6_X12_cut (xso SM ad ws0) a0.toInt := HE.trans (if_pos (o32_287 c_1 e_3 c_4))
      refine lv_lload_n C0.1 C0.2.1 dX12_cut_16 rfl (lv_at hl 0 rfl) ?_
      refine xr_l2i C0 dX12_cut_17 (fun v_12 e_13 => ?_)
      refine xr_i2s C0 dX12_cut_18 (fun v_14 e_15 => ?_)
      refine y_i2l C0 dX12_cut_19 (fun w_16 e_17 => ?_)
      refine lv_goto (tgt := 35) C0.1 C0.2.1 dX12_cut_20 (by decide) ?_
      replace HE : FT = ((xso SM ad ws0), w_16.toInt) := HE.trans (by rw [e_17, e_15, e_13]; rfl)
      rw [hQ]
      exact y_lret C0 h Fr.rf ⟨(congrArg Prod.fst (HE.symm.trans hFT)), (congrArg Prod.snd (HE.symm.trans hFT))⟩ dX12_cut_35
  · -- 1
    replace HE : FT = g3_X12_cut (xso SM ad ws0) a0.toInt := HE.trans (if_pos c_1)
    refine lv_lload_n C0.1 C0.2.1 dX12_cut_4 rfl (lv_at hl 0 rfl) ?_
    refine xr_l2i C0 dX12_cut_5 (fun v_18 e_19 => ?_)
    refine xr_i2b C0 dX12_cut_6 (fun v_20 e_21 => ?_)
    refine y_i2l C0 dX12_cut_7 (fun w_22 e_23 => ?_)
    refine lv_goto (tgt := 35) C0.1 C0.2.1 dX12_cut_8 (by decide) ?_
    replace HE : FT = ((xso SM ad ws0), w_22.toInt) := HE.trans (by rw [e_23, e_21, e_19]; rfl)
    rw [hQ]
    exact y_lret C0 h Fr.rf ⟨(congrArg Prod.fst (HE.symm.trans hFT)), (congrArg Prod.snd (HE.symm.trans hFT))⟩ dX12_cut_35
