variable {tt : QQ}
theorem dX12_between_0 : decode cX12_between 0 = .ok (.iload_n 0, 1) := by decide +kernel
theorem dX12_between_1 : decode cX12_between 1 = .ok (.sipush 3002, 3) := by decide +kernel
theorem dX12_between_4 : decode cX12_between 4 = .ok (.if_icmp .gt 70, 3) := by decide +kernel
theorem dX12_between_7 : decode cX12_between 7 = .ok (.iload_n 0, 1) := by decide +kernel
theorem dX12_between_8 : decode cX12_between 8 = .ok (.sipush 3000, 3) := by decide +kernel
theorem dX12_between_11 : decode cX12_between 11 = .ok (.if_icmp .ne 11, 3) := by decide +kernel
theorem dX12_between_14 : decode cX12_between 14 = .ok (.iload_n 1, 1) := by decide +kernel
theorem dX12_between_15 : decode cX12_between 15 = .ok (.i2l, 1) := by decide +kernel
theorem dX12_between_16 : decode cX12_between 16 = .ok (.iload_n 2, 1) := by decide +kernel
theorem dX12_between_17 : decode cX12_between 17 = .ok (.i2l, 1) := by decide +kernel
theorem dX12_between_18 : decode cX12_between 18 = .ok (.ladd, 1) := by decide +kernel
theorem dX12_between_19 : decode cX12_between 19 = .ok (.goto 23, 3) := by decide +kernel
theorem dX12_between_22 : decode cX12_between 22 = .ok (.iload_n 0, 1) := by decide +kernel
theorem dX12_between_23 : decode cX12_between 23 = .ok (.sipush 3001, 3) := by decide +kernel
theorem dX12_between_26 : decode cX12_between 26 = .ok (.if_icmp .ne 11, 3) := by decide +kernel
theorem dX12_between_29 : decode cX12_between 29 = .ok (.iload_n 1, 1) := by decide +kernel
theorem dX12_between_30 : decode cX12_between 30 = .ok (.i2l, 1) := by decide +kernel
theorem dX12_between_31 : decode cX12_between 31 = .ok (.iload_n 2, 1) := by decide +kernel
theorem dX12_between_32 : decode cX12_between 32 = .ok (.i2l, 1) := by decide +kernel
theorem dX12_between_33 : decode cX12_between 33 = .ok (.lsub, 1) := by decide +kernel
theorem dX12_between_34 : decode cX12_between 34 = .ok (.goto 8, 3) := by decide +kernel
theorem dX12_between_37 : decode cX12_between 37 = .ok (.iload_n 1, 1) := by decide +kernel
theorem dX12_between_38 : decode cX12_between 38 = .ok (.i2l, 1) := by decide +kernel
theorem dX12_between_39 : decode cX12_between 39 = .ok (.iload_n 2, 1) := by decide +kernel
theorem dX12_between_40 : decode cX12_between 40 = .ok (.i2l, 1) := by decide +kernel
theorem dX12_between_41 : decode cX12_between 41 = .ok (.lmul, 1) := by decide +kernel
theorem dX12_between_42 : decode cX12_between 42 = .ok (.lstore_n 3, 1) := by decide +kernel
theorem dX12_between_43 : decode cX12_between 43 = .ok (.lload_n 3, 1) := by decide +kernel
theorem dX12_between_44 : decode cX12_between 44 = .ok (.ldc2_w 238, 3) := by decide +kernel
theorem dX12_between_47 : decode cX12_between 47 = .ok (.lcmp, 1) := by decide +kernel
theorem dX12_between_48 : decode cX12_between 48 = .ok (.ifCond .le 9, 3) := by decide +kernel
theorem dX12_between_51 : decode cX12_between 51 = .ok (.ldc2_w 238, 3) := by decide +kernel
theorem dX12_between_54 : decode cX12_between 54 = .ok (.goto 18, 3) := by decide +kernel
theorem dX12_between_57 : decode cX12_between 57 = .ok (.lload_n 3, 1) := by decide +kernel
theorem dX12_between_58 : decode cX12_between 58 = .ok (.ldc2_w 240, 3) := by decide +kernel
theorem dX12_between_61 : decode cX12_between 61 = .ok (.lcmp, 1) := by decide +kernel
theorem dX12_between_62 : decode cX12_between 62 = .ok (.ifCond .ge 9, 3) := by decide +kernel
theorem dX12_between_65 : decode cX12_between 65 = .ok (.ldc2_w 240, 3) := by decide +kernel
theorem dX12_between_68 : decode cX12_between 68 = .ok (.goto 4, 3) := by decide +kernel
theorem dX12_between_71 : decode cX12_between 71 = .ok (.lload_n 3, 1) := by decide +kernel
theorem dX12_between_72 : decode cX12_between 72 = .ok (.l2i, 1) := by decide +kernel
theorem dX12_between_73 : decode cX12_between 73 = .ok (.ireturn, 1) := by decide +kernel
theorem dX12_between_74 : decode cX12_between 74 = .ok (.iload_n 0, 1) := by decide +kernel
theorem dX12_between_75 : decode cX12_between 75 = .ok (.sipush 3003, 3) := by decide +kernel
theorem dX12_between_78 : decode cX12_between 78 = .ok (.if_icmp .ne 16, 3) := by decide +kernel
theorem dX12_between_81 : decode cX12_between 81 = .ok (.iload_n 1, 1) := by decide +kernel
theorem dX12_between_82 : decode cX12_between 82 = .ok (.iload_n 2, 1) := by decide +kernel
theorem dX12_between_83 : decode cX12_between 83 = .ok (.if_icmp .ne 7, 3) := by decide +kernel
theorem dX12_between_86 : decode cX12_between 86 = .ok (.iconst 1, 1) := by decide +kernel
theorem dX12_between_87 : decode cX12_between 87 = .ok (.goto 80, 3) := by decide +kernel
theorem dX12_between_90 : decode cX12_between 90 = .ok (.iconst 0, 1) := by decide +kernel
theorem dX12_between_91 : decode cX12_between 91 = .ok (.goto 76, 3) := by decide +kernel
theorem dX12_between_94 : decode cX12_between 94 = .ok (.iload_n 0, 1) := by decide +kernel
theorem dX12_between_95 : decode cX12_between 95 = .ok (.sipush 3004, 3) := by decide +kernel
theorem dX12_between_98 : decode cX12_between 98 = .ok (.if_icmp .ne 16, 3) := by decide +kernel
theorem dX12_between_101 : decode cX12_between 101 = .ok (.iload_n 1, 1) := by decide +kernel
theorem dX12_between_102 : decode cX12_between 102 = .ok (.iload_n 2, 1) := by decide +kernel
theorem dX12_between_103 : decode cX12_between 103 = .ok (.if_icmp .ge 7, 3) := by decide +kernel
theorem dX12_between_106 : decode cX12_between 106 = .ok (.iconst 1, 1) := by decide +kernel
theorem dX12_between_107 : decode cX12_between 107 = .ok (.goto 60, 3) := by decide +kernel
theorem dX12_between_110 : decode cX12_between 110 = .ok (.iconst 0, 1) := by decide +kernel
theorem dX12_between_111 : decode cX12_between 111 = .ok (.goto 56, 3) := by decide +kernel
theorem dX12_between_114 : decode cX12_between 114 = .ok (.iload_n 0, 1) := by decide +kernel
theorem dX12_between_115 : decode cX12_between 115 = .ok (.sipush 3005, 3) := by decide +kernel
theorem dX12_between_118 : decode cX12_between 118 = .ok (.if_icmp .ne 16, 3) := by decide +kernel
theorem dX12_between_121 : decode cX12_between 121 = .ok (.iload_n 1, 1) := by decide +kernel
theorem dX12_between_122 : decode cX12_between 122 = .ok (.iload_n 2, 1) := by decide +kernel
theorem dX12_between_123 : decode cX12_between 123 = .ok (.if_icmp .le 7, 3) := by decide +kernel
theorem dX12_between_126 : decode cX12_between 126 = .ok (.iconst 1, 1) := by decide +kernel
theorem dX12_between_127 : decode cX12_between 127 = .ok (.goto 40, 3) := by decide +kernel
theorem dX12_between_130 : decode cX12_between 130 = .ok (.iconst 0, 1) := by decide +kernel
theorem dX12_between_131 : decode cX12_between 131 = .ok (.goto 36, 3) := by decide +kernel
theorem dX12_between_134 : decode cX12_between 134 = .ok (.iload_n 0, 1) := by decide +kernel
theorem dX12_between_135 : decode cX12_between 135 = .ok (.sipush 3006, 3) := by decide +kernel
theorem dX12_between_138 : decode cX12_between 138 = .ok (.if_icmp .ne 18, 3) := by decide +kernel
theorem dX12_between_141 : decode cX12_between 141 = .ok (.iload_n 1, 1) := by decide +kernel
theorem dX12_between_142 : decode cX12_between 142 = .ok (.iload_n 2, 1) := by decide +kernel
theorem dX12_between_143 : decode cX12_between 143 = .ok (.iadd, 1) := by decide +kernel
theorem dX12_between_144 : decode cX12_between 144 = .ok (.iconst 2, 1) := by decide +kernel
theorem dX12_between_145 : decode cX12_between 145 = .ok (.if_icmp .ne 7, 3) := by decide +kernel
theorem dX12_between_148 : decode cX12_between 148 = .ok (.iconst 1, 1) := by decide +kernel
theorem dX12_between_149 : decode cX12_between 149 = .ok (.goto 18, 3) := by decide +kernel
theorem dX12_between_152 : decode cX12_between 152 = .ok (.iconst 0, 1) := by decide +kernel
theorem dX12_between_153 : decode cX12_between 153 = .ok (.goto 14, 3) := by decide +kernel
theorem dX12_between_156 : decode cX12_between 156 = .ok (.iload_n 1, 1) := by decide +kernel
theorem dX12_between_157 : decode cX12_between 157 = .ok (.iload_n 2, 1) := by decide +kernel
theorem dX12_between_158 : decode cX12_between 158 = .ok (.iadd, 1) := by decide +kernel
theorem dX12_between_159 : decode cX12_between 159 = .ok (.ifCond .le 7, 3) := by decide +kernel
theorem dX12_between_162 : decode cX12_between 162 = .ok (.iconst 1, 1) := by decide +kernel
theorem dX12_between_163 : decode cX12_between 163 = .ok (.goto 4, 3) := by decide +kernel
theorem dX12_between_166 : decode cX12_between 166 = .ok (.iconst 0, 1) := by decide +kernel
theorem dX12_between_167 : decode cX12_between 167 = .ok (.istore_n 3, 1) := by decide +kernel
theorem dX12_between_168 : decode cX12_between 168 = .ok (.iload_n 3, 1) := by decide +kernel
theorem dX12_between_169 : decode cX12_between 169 = .ok (.ifCond .eq 7, 3) := by decide +kernel
theorem dX12_between_172 : decode cX12_between 172 = .ok (.iconst 1, 1) := by decide +kernel
theorem dX12_between_173 : decode cX12_between 173 = .ok (.goto 4, 3) := by decide +kernel
theorem dX12_between_176 : decode cX12_between 176 = .ok (.iconst 0, 1) := by decide +kernel
theorem dX12_between_177 : decode cX12_between 177 = .ok (.ireturn, 1) := by decide +kernel
theorem dX12_beyond_0 : decode cX12_beyond 0 = .ok (.iload_n 1, 1) := by decide +kernel
theorem dX12_beyond_1 : decode cX12_beyond 1 = .ok (.aload_n 0, 1) := by decide +kernel
theorem dX12_beyond_2 : decode cX12_beyond 2 = .ok (.iconst 1, 1) := by decide +kernel
theorem dX12_beyond_3 : decode cX12_beyond 3 = .ok (.iaload, 1) := by decide +kernel
theorem dX12_beyond_4 : decode cX12_beyond 4 = .ok (.irem, 1) := by decide +kernel
theorem dX12_beyond_5 : decode cX12_beyond 5 = .ok (.iload_n 2, 1) := by decide +kernel
theorem dX12_beyond_6 : decode cX12_beyond 6 = .ok (.iconst 1, 1) := by decide +kernel
theorem dX12_beyond_7 : decode cX12_beyond 7 = .ok (.if_icmp .ne 7, 3) := by decide +kernel
theorem dX12_beyond_10 : decode cX12_beyond 10 = .ok (.iconst 1, 1) := by decide +kernel
theorem dX12_beyond_11 : decode cX12_beyond 11 = .ok (.goto 13, 3) := by decide +kernel
theorem dX12_beyond_14 : decode cX12_beyond 14 = .ok (.iload_n 2, 1) := by decide +kernel
theorem dX12_beyond_15 : decode cX12_beyond 15 = .ok (.iconst 3, 1) := by decide +kernel
theorem dX12_beyond_16 : decode cX12_beyond 16 = .ok (.if_icmp .ne 7, 3) := by decide +kernel
theorem dX12_beyond_19 : decode cX12_beyond 19 = .ok (.iconst (-1), 1) := by decide +kernel
theorem dX12_beyond_20 : decode cX12_beyond 20 = .ok (.goto 4, 3) := by decide +kernel
theorem dX12_beyond_23 : decode cX12_beyond 23 = .ok (.iconst 0, 1) := by decide +kernel
theorem dX12_beyond_24 : decode cX12_beyond 24 = .ok (.iadd, 1) := by decide +kernel
theorem dX12_beyond_25 : decode cX12_beyond 25 = .ok (.istore_n 3, 1) := by decide +kernel
theorem dX12_beyond_26 : decode cX12_beyond 26 = .ok (.iload_n 1, 1) := by decide +kernel
theorem dX12_beyond_27 : decode cX12_beyond 27 = .ok (.aload_n 0, 1) := by decide +kernel
theorem dX12_beyond_28 : decode cX12_beyond 28 = .ok (.iconst 1, 1) := by decide +kernel
theorem dX12_beyond_29 : decode cX12_beyond 29 = .ok (.iaload, 1) := by decide +kernel
theorem dX12_beyond_30 : decode cX12_beyond 30 = .ok (.idiv, 1) := by decide +kernel
theorem dX12_beyond_31 : decode cX12_beyond 31 = .ok (.iload_n 2, 1) := by decide +kernel
theorem dX12_beyond_32 : decode cX12_beyond 32 = .ok (.iconst 2, 1) := by decide +kernel
theorem dX12_beyond_33 : decode cX12_beyond 33 = .ok (.if_icmp .ne 7, 3) := by decide +kernel
theorem dX12_beyond_36 : decode cX12_beyond 36 = .ok (.iconst 1, 1) := by decide +kernel
theorem dX12_beyond_37 : decode cX12_beyond 37 = .ok (.goto 12, 3) := by decide +kernel
theorem dX12_beyond_40 : decode cX12_beyond 40 = .ok (.iload_n 2, 1) := by decide +kernel
theorem dX12_beyond_41 : decode cX12_beyond 41 = .ok (.ifCond .ne 7, 3) := by decide +kernel
theorem dX12_beyond_44 : decode cX12_beyond 44 = .ok (.iconst (-1), 1) := by decide +kernel
theorem dX12_beyond_45 : decode cX12_beyond 45 = .ok (.goto 4, 3) := by decide +kernel
theorem dX12_beyond_48 : decode cX12_beyond 48 = .ok (.iconst 0, 1) := by decide +kernel
theorem dX12_beyond_49 : decode cX12_beyond 49 = .ok (.iadd, 1) := by decide +kernel
theorem dX12_beyond_50 : decode cX12_beyond 50 = .ok (.istore 4, 2) := by decide +kernel
theorem dX12_beyond_52 : decode cX12_beyond 52 = .ok (.iload_n 3, 1) := by decide +kernel
theorem dX12_beyond_53 : decode cX12_beyond 53 = .ok (.i2l, 1) := by decide +kernel
theorem dX12_beyond_54 : decode cX12_beyond 54 = .ok (.lconst 0, 1) := by decide +kernel
theorem dX12_beyond_55 : decode cX12_beyond 55 = .ok (.aload_n 0, 1) := by decide +kernel
theorem dX12_beyond_56 : decode cX12_beyond 56 = .ok (.iconst 1, 1) := by decide +kernel
theorem dX12_beyond_57 : decode cX12_beyond 57 = .ok (.iaload, 1) := by decide +kernel
theorem dX12_beyond_58 : decode cX12_beyond 58 = .ok (.iconst 1, 1) := by decide +kernel
theorem dX12_beyond_59 : decode cX12_beyond 59 = .ok (.isub, 1) := by decide +kernel
theorem dX12_beyond_60 : decode cX12_beyond 60 = .ok (.i2l, 1) := by decide +kernel
theorem dX12_beyond_61 : decode cX12_beyond 61 = .ok (.invokestatic 161, 3) := by decide +kernel
theorem dX12_beyond_64 : decode cX12_beyond 64 = .ok (.ifCond .eq 30, 3) := by decide +kernel
theorem dX12_beyond_67 : decode cX12_beyond 67 = .ok (.iload 4, 2) := by decide +kernel
theorem dX12_beyond_69 : decode cX12_beyond 69 = .ok (.i2l, 1) := by decide +kernel
theorem dX12_beyond_70 : decode cX12_beyond 70 = .ok (.lconst 0, 1) := by decide +kernel
theorem dX12_beyond_71 : decode cX12_beyond 71 = .ok (.aload_n 0, 1) := by decide +kernel
theorem dX12_beyond_72 : decode cX12_beyond 72 = .ok (.iconst 2, 1) := by decide +kernel
theorem dX12_beyond_73 : decode cX12_beyond 73 = .ok (.iaload, 1) := by decide +kernel
theorem dX12_beyond_74 : decode cX12_beyond 74 = .ok (.iconst 1, 1) := by decide +kernel
theorem dX12_beyond_75 : decode cX12_beyond 75 = .ok (.isub, 1) := by decide +kernel
theorem dX12_beyond_76 : decode cX12_beyond 76 = .ok (.i2l, 1) := by decide +kernel
theorem dX12_beyond_77 : decode cX12_beyond 77 = .ok (.invokestatic 161, 3) := by decide +kernel
theorem dX12_beyond_80 : decode cX12_beyond 80 = .ok (.ifCond .eq 14, 3) := by decide +kernel
theorem dX12_beyond_83 : decode cX12_beyond 83 = .ok (.aload_n 0, 1) := by decide +kernel
theorem dX12_beyond_84 : decode cX12_beyond 84 = .ok (.iconst 1, 1) := by decide +kernel
theorem dX12_beyond_85 : decode cX12_beyond 85 = .ok (.iaload, 1) := by decide +kernel
theorem dX12_beyond_86 : decode cX12_beyond 86 = .ok (.iload 4, 2) := by decide +kernel
theorem dX12_beyond_88 : decode cX12_beyond 88 = .ok (.imul, 1) := by decide +kernel
theorem dX12_beyond_89 : decode cX12_beyond 89 = .ok (.iload_n 3, 1) := by decide +kernel
theorem dX12_beyond_90 : decode cX12_beyond 90 = .ok (.iadd, 1) := by decide +kernel
theorem dX12_beyond_91 : decode cX12_beyond 91 = .ok (.goto 4, 3) := by decide +kernel
theorem dX12_beyond_94 : decode cX12_beyond 94 = .ok (.iconst (-1), 1) := by decide +kernel
theorem dX12_beyond_95 : decode cX12_beyond 95 = .ok (.ireturn, 1) := by decide +kernel
theorem dX12_crossings_0 : decode cX12_crossings 0 = .ok (.aload_n 0, 1) := by decide +kernel
theorem dX12_crossings_1 : decode cX12_crossings 1 = .ok (.getfield 13, 3) := by decide +kernel
theorem dX12_crossings_4 : decode cX12_crossings 4 = .ok (.iconst 1, 1) := by decide +kernel
theorem dX12_crossings_5 : decode cX12_crossings 5 = .ok (.iaload, 1) := by decide +kernel
theorem dX12_crossings_6 : decode cX12_crossings 6 = .ok (.aload_n 0, 1) := by decide +kernel
theorem dX12_crossings_7 : decode cX12_crossings 7 = .ok (.getfield 13, 3) := by decide +kernel
theorem dX12_crossings_10 : decode cX12_crossings 10 = .ok (.iconst 2, 1) := by decide +kernel
theorem dX12_crossings_11 : decode cX12_crossings 11 = .ok (.iaload, 1) := by decide +kernel
theorem dX12_crossings_12 : decode cX12_crossings 12 = .ok (.imul, 1) := by decide +kernel
theorem dX12_crossings_13 : decode cX12_crossings 13 = .ok (.ireturn, 1) := by decide +kernel
theorem dX12_cut_0 : decode cX12_cut 0 = .ok (.iload_n 2, 1) := by decide +kernel
theorem dX12_cut_1 : decode cX12_cut 1 = .ok (.ifCond .ne 10, 3) := by decide +kernel
theorem dX12_cut_4 : decode cX12_cut 4 = .ok (.lload_n 0, 1) := by decide +kernel
theorem dX12_cut_5 : decode cX12_cut 5 = .ok (.l2i, 1) := by decide +kernel
theorem dX12_cut_6 : decode cX12_cut 6 = .ok (.i2b, 1) := by decide +kernel
theorem dX12_cut_7 : decode cX12_cut 7 = .ok (.i2l, 1) := by decide +kernel
theorem dX12_cut_8 : decode cX12_cut 8 = .ok (.goto 27, 3) := by decide +kernel
theorem dX12_cut_11 : decode cX12_cut 11 = .ok (.iload_n 2, 1) := by decide +kernel
theorem dX12_cut_12 : decode cX12_cut 12 = .ok (.iconst 1, 1) := by decide +kernel
theorem dX12_cut_13 : decode cX12_cut 13 = .ok (.if_icmp .ne 10, 3) := by decide +kernel
theorem dX12_cut_16 : decode cX12_cut 16 = .ok (.lload_n 0, 1) := by decide +kernel
theorem dX12_cut_17 : decode cX12_cut 17 = .ok (.l2i, 1) := by decide +kernel
theorem dX12_cut_18 : decode cX12_cut 18 = .ok (.i2s, 1) := by decide +kernel
theorem dX12_cut_19 : decode cX12_cut 19 = .ok (.i2l, 1) := by decide +kernel
theorem dX12_cut_20 : decode cX12_cut 20 = .ok (.goto 15, 3) := by decide +kernel
theorem dX12_cut_23 : decode cX12_cut 23 = .ok (.iload_n 2, 1) := by decide +kernel
theorem dX12_cut_24 : decode cX12_cut 24 = .ok (.iconst 2, 1) := by decide +kernel
theorem dX12_cut_25 : decode cX12_cut 25 = .ok (.if_icmp .ne 9, 3) := by decide +kernel
theorem dX12_cut_28 : decode cX12_cut 28 = .ok (.lload_n 0, 1) := by decide +kernel
theorem dX12_cut_29 : decode cX12_cut 29 = .ok (.l2i, 1) := by decide +kernel
theorem dX12_cut_30 : decode cX12_cut 30 = .ok (.i2l, 1) := by decide +kernel
theorem dX12_cut_31 : decode cX12_cut 31 = .ok (.goto 4, 3) := by decide +kernel
theorem dX12_cut_34 : decode cX12_cut 34 = .ok (.lload_n 0, 1) := by decide +kernel
theorem dX12_cut_35 : decode cX12_cut 35 = .ok (.lreturn, 1) := by decide +kernel
theorem dX12_directionBy_0 : decode cX12_directionBy 0 = .ok (.iload_n 0, 1) := by decide +kernel
theorem dX12_directionBy_1 : decode cX12_directionBy 1 = .ok (.iload_n 1, 1) := by decide +kernel
theorem dX12_directionBy_2 : decode cX12_directionBy 2 = .ok (.iconst 2, 1) := by decide +kernel
theorem dX12_directionBy_3 : decode cX12_directionBy 3 = .ok (.if_icmp .ne 7, 3) := by decide +kernel
theorem dX12_directionBy_6 : decode cX12_directionBy 6 = .ok (.iconst 3, 1) := by decide +kernel
theorem dX12_directionBy_7 : decode cX12_directionBy 7 = .ok (.goto 13, 3) := by decide +kernel
theorem dX12_directionBy_10 : decode cX12_directionBy 10 = .ok (.iload_n 1, 1) := by decide +kernel
theorem dX12_directionBy_11 : decode cX12_directionBy 11 = .ok (.iconst 3, 1) := by decide +kernel
theorem dX12_directionBy_12 : decode cX12_directionBy 12 = .ok (.if_icmp .ne 7, 3) := by decide +kernel
theorem dX12_directionBy_15 : decode cX12_directionBy 15 = .ok (.iconst 2, 1) := by decide +kernel
theorem dX12_directionBy_16 : decode cX12_directionBy 16 = .ok (.goto 4, 3) := by decide +kernel
theorem dX12_directionBy_19 : decode cX12_directionBy 19 = .ok (.iload_n 1, 1) := by decide +kernel
theorem dX12_directionBy_20 : decode cX12_directionBy 20 = .ok (.iadd, 1) := by decide +kernel
theorem dX12_directionBy_21 : decode cX12_directionBy 21 = .ok (.iconst 4, 1) := by decide +kernel
theorem dX12_directionBy_22 : decode cX12_directionBy 22 = .ok (.irem, 1) := by decide +kernel
theorem dX12_directionBy_23 : decode cX12_directionBy 23 = .ok (.ireturn, 1) := by decide +kernel
theorem dX12_isCrossing_0 : decode cX12_isCrossing 0 = .ok (.lload_n 1, 1) := by decide +kernel
theorem dX12_isCrossing_1 : decode cX12_isCrossing 1 = .ok (.lconst 0, 1) := by decide +kernel
theorem dX12_isCrossing_2 : decode cX12_isCrossing 2 = .ok (.aload_n 0, 1) := by decide +kernel
theorem dX12_isCrossing_3 : decode cX12_isCrossing 3 = .ok (.invokevirtual 233, 3) := by decide +kernel
theorem dX12_isCrossing_6 : decode cX12_isCrossing 6 = .ok (.iconst 1, 1) := by decide +kernel
theorem dX12_isCrossing_7 : decode cX12_isCrossing 7 = .ok (.isub, 1) := by decide +kernel
theorem dX12_isCrossing_8 : decode cX12_isCrossing 8 = .ok (.i2l, 1) := by decide +kernel
theorem dX12_isCrossing_9 : decode cX12_isCrossing 9 = .ok (.invokestatic 161, 3) := by decide +kernel
theorem dX12_isCrossing_12 : decode cX12_isCrossing 12 = .ok (.ireturn, 1) := by decide +kernel
theorem dX12_isDigit_0 : decode cX12_isDigit 0 = .ok (.iload_n 0, 1) := by decide +kernel
theorem dX12_isDigit_1 : decode cX12_isDigit 1 = .ok (.bipush 48, 2) := by decide +kernel
theorem dX12_isDigit_3 : decode cX12_isDigit 3 = .ok (.if_icmp .lt 13, 3) := by decide +kernel
theorem dX12_isDigit_6 : decode cX12_isDigit 6 = .ok (.iload_n 0, 1) := by decide +kernel
theorem dX12_isDigit_7 : decode cX12_isDigit 7 = .ok (.bipush 57, 2) := by decide +kernel
theorem dX12_isDigit_9 : decode cX12_isDigit 9 = .ok (.if_icmp .gt 7, 3) := by decide +kernel
theorem dX12_isDigit_12 : decode cX12_isDigit 12 = .ok (.iconst 1, 1) := by decide +kernel
theorem dX12_isDigit_13 : decode cX12_isDigit 13 = .ok (.goto 4, 3) := by decide +kernel
theorem dX12_isDigit_16 : decode cX12_isDigit 16 = .ok (.iconst 0, 1) := by decide +kernel
theorem dX12_isDigit_17 : decode cX12_isDigit 17 = .ok (.ireturn, 1) := by decide +kernel
theorem dX12_isDirection_0 : decode cX12_isDirection 0 = .ok (.iload_n 0, 1) := by decide +kernel
theorem dX12_isDirection_1 : decode cX12_isDirection 1 = .ok (.i2l, 1) := by decide +kernel
theorem dX12_isDirection_2 : decode cX12_isDirection 2 = .ok (.lconst 0, 1) := by decide +kernel
theorem dX12_isDirection_3 : decode cX12_isDirection 3 = .ok (.ldc2_w 236, 3) := by decide +kernel
theorem dX12_isDirection_6 : decode cX12_isDirection 6 = .ok (.invokestatic 161, 3) := by decide +kernel
theorem dX12_isDirection_9 : decode cX12_isDirection 9 = .ok (.ireturn, 1) := by decide +kernel
theorem dX12_isFreeIn_0 : decode cX12_isFreeIn 0 = .ok (.aload_n 0, 1) := by decide +kernel
theorem dX12_isFreeIn_1 : decode cX12_isFreeIn 1 = .ok (.getfield 13, 3) := by decide +kernel
theorem dX12_isFreeIn_4 : decode cX12_isFreeIn 4 = .ok (.bipush 10, 2) := by decide +kernel
theorem dX12_isFreeIn_6 : decode cX12_isFreeIn 6 = .ok (.iaload, 1) := by decide +kernel
theorem dX12_isFreeIn_7 : decode cX12_isFreeIn 7 = .ok (.i2l, 1) := by decide +kernel
theorem dX12_isFreeIn_8 : decode cX12_isFreeIn 8 = .ok (.iload_n 1, 1) := by decide +kernel
theorem dX12_isFreeIn_9 : decode cX12_isFreeIn 9 = .ok (.invokestatic 229, 3) := by decide +kernel
theorem dX12_isFreeIn_12 : decode cX12_isFreeIn 12 = .ok (.ifCond .ne 24, 3) := by decide +kernel
theorem dX12_isFreeIn_15 : decode cX12_isFreeIn 15 = .ok (.aload_n 0, 1) := by decide +kernel
theorem dX12_isFreeIn_16 : decode cX12_isFreeIn 16 = .ok (.getfield 13, 3) := by decide +kernel
theorem dX12_isFreeIn_19 : decode cX12_isFreeIn 19 = .ok (.bipush 111, 2) := by decide +kernel
theorem dX12_isFreeIn_21 : decode cX12_isFreeIn 21 = .ok (.iaload, 1) := by decide +kernel
theorem dX12_isFreeIn_22 : decode cX12_isFreeIn 22 = .ok (.iload_n 2, 1) := by decide +kernel
theorem dX12_isFreeIn_23 : decode cX12_isFreeIn 23 = .ok (.iadd, 1) := by decide +kernel
theorem dX12_isFreeIn_24 : decode cX12_isFreeIn 24 = .ok (.aload_n 0, 1) := by decide +kernel
theorem dX12_isFreeIn_25 : decode cX12_isFreeIn 25 = .ok (.getfield 13, 3) := by decide +kernel
theorem dX12_isFreeIn_28 : decode cX12_isFreeIn 28 = .ok (.bipush 86, 2) := by decide +kernel
theorem dX12_isFreeIn_30 : decode cX12_isFreeIn 30 = .ok (.iload_n 1, 1) := by decide +kernel
theorem dX12_isFreeIn_31 : decode cX12_isFreeIn 31 = .ok (.iadd, 1) := by decide +kernel
theorem dX12_isFreeIn_32 : decode cX12_isFreeIn 32 = .ok (.iaload, 1) := by decide +kernel
theorem dX12_isFreeIn_33 : decode cX12_isFreeIn 33 = .ok (.if_icmp .ge 7, 3) := by decide +kernel
theorem dX12_isFreeIn_36 : decode cX12_isFreeIn 36 = .ok (.iconst 1, 1) := by decide +kernel
theorem dX12_isFreeIn_37 : decode cX12_isFreeIn 37 = .ok (.goto 4, 3) := by decide +kernel
theorem dX12_isFreeIn_40 : decode cX12_isFreeIn 40 = .ok (.iconst 0, 1) := by decide +kernel
theorem dX12_isFreeIn_41 : decode cX12_isFreeIn 41 = .ok (.ireturn, 1) := by decide +kernel
theorem dX12_isIn_0 : decode cX12_isIn 0 = .ok (.lload_n 0, 1) := by decide +kernel
theorem dX12_isIn_1 : decode cX12_isIn 1 = .ok (.iload_n 2, 1) := by decide +kernel
theorem dX12_isIn_2 : decode cX12_isIn 2 = .ok (.lshr, 1) := by decide +kernel
theorem dX12_isIn_3 : decode cX12_isIn 3 = .ok (.lconst 1, 1) := by decide +kernel
theorem dX12_isIn_4 : decode cX12_isIn 4 = .ok (.land, 1) := by decide +kernel
theorem dX12_isIn_5 : decode cX12_isIn 5 = .ok (.lconst 1, 1) := by decide +kernel
theorem dX12_isIn_6 : decode cX12_isIn 6 = .ok (.lcmp, 1) := by decide +kernel
theorem dX12_isIn_7 : decode cX12_isIn 7 = .ok (.ifCond .ne 7, 3) := by decide +kernel
theorem dX12_isIn_10 : decode cX12_isIn 10 = .ok (.iconst 1, 1) := by decide +kernel
theorem dX12_isIn_11 : decode cX12_isIn 11 = .ok (.goto 4, 3) := by decide +kernel
theorem dX12_isIn_14 : decode cX12_isIn 14 = .ok (.iconst 0, 1) := by decide +kernel
theorem dX12_isIn_15 : decode cX12_isIn 15 = .ok (.ireturn, 1) := by decide +kernel
theorem dX12_isPerson_0 : decode cX12_isPerson 0 = .ok (.lload_n 1, 1) := by decide +kernel
theorem dX12_isPerson_1 : decode cX12_isPerson 1 = .ok (.lconst 0, 1) := by decide +kernel
theorem dX12_isPerson_2 : decode cX12_isPerson 2 = .ok (.aload_n 0, 1) := by decide +kernel
theorem dX12_isPerson_3 : decode cX12_isPerson 3 = .ok (.getfield 13, 3) := by decide +kernel
theorem dX12_isPerson_6 : decode cX12_isPerson 6 = .ok (.iconst 3, 1) := by decide +kernel
theorem dX12_isPerson_7 : decode cX12_isPerson 7 = .ok (.iaload, 1) := by decide +kernel
theorem dX12_isPerson_8 : decode cX12_isPerson 8 = .ok (.iconst 1, 1) := by decide +kernel
theorem dX12_isPerson_9 : decode cX12_isPerson 9 = .ok (.isub, 1) := by decide +kernel
theorem dX12_isPerson_10 : decode cX12_isPerson 10 = .ok (.i2l, 1) := by decide +kernel
theorem dX12_isPerson_11 : decode cX12_isPerson 11 = .ok (.invokestatic 161, 3) := by decide +kernel
theorem dX12_isPerson_14 : decode cX12_isPerson 14 = .ok (.ireturn, 1) := by decide +kernel
theorem dX12_isSmall_0 : decode cX12_isSmall 0 = .ok (.iload_n 0, 1) := by decide +kernel
theorem dX12_isSmall_1 : decode cX12_isSmall 1 = .ok (.bipush 97, 2) := by decide +kernel
theorem dX12_isSmall_3 : decode cX12_isSmall 3 = .ok (.if_icmp .lt 13, 3) := by decide +kernel
theorem dX12_isSmall_6 : decode cX12_isSmall 6 = .ok (.iload_n 0, 1) := by decide +kernel
theorem dX12_isSmall_7 : decode cX12_isSmall 7 = .ok (.bipush 122, 2) := by decide +kernel
theorem dX12_isSmall_9 : decode cX12_isSmall 9 = .ok (.if_icmp .gt 7, 3) := by decide +kernel
theorem dX12_isSmall_12 : decode cX12_isSmall 12 = .ok (.iconst 1, 1) := by decide +kernel
theorem dX12_isSmall_13 : decode cX12_isSmall 13 = .ok (.goto 4, 3) := by decide +kernel
theorem dX12_isSmall_16 : decode cX12_isSmall 16 = .ok (.iconst 0, 1) := by decide +kernel
theorem dX12_isSmall_17 : decode cX12_isSmall 17 = .ok (.ireturn, 1) := by decide +kernel
theorem dX12_leftsOf_0 : decode cX12_leftsOf 0 = .ok (.iload_n 0, 1) := by decide +kernel
theorem dX12_leftsOf_1 : decode cX12_leftsOf 1 = .ok (.iconst 2, 1) := by decide +kernel
theorem dX12_leftsOf_2 : decode cX12_leftsOf 2 = .ok (.if_icmp .ge 7, 3) := by decide +kernel
theorem dX12_leftsOf_5 : decode cX12_leftsOf 5 = .ok (.iconst 0, 1) := by decide +kernel
theorem dX12_leftsOf_6 : decode cX12_leftsOf 6 = .ok (.goto 6, 3) := by decide +kernel
theorem dX12_leftsOf_9 : decode cX12_leftsOf 9 = .ok (.iload_n 0, 1) := by decide +kernel
theorem dX12_leftsOf_10 : decode cX12_leftsOf 10 = .ok (.iconst 1, 1) := by decide +kernel
theorem dX12_leftsOf_11 : decode cX12_leftsOf 11 = .ok (.isub, 1) := by decide +kernel
theorem dX12_leftsOf_12 : decode cX12_leftsOf 12 = .ok (.ireturn, 1) := by decide +kernel
theorem dX12_lesser_0 : decode cX12_lesser 0 = .ok (.iload_n 0, 1) := by decide +kernel
theorem dX12_lesser_1 : decode cX12_lesser 1 = .ok (.iload_n 1, 1) := by decide +kernel
theorem dX12_lesser_2 : decode cX12_lesser 2 = .ok (.if_icmp .ge 7, 3) := by decide +kernel
theorem dX12_lesser_5 : decode cX12_lesser 5 = .ok (.iload_n 0, 1) := by decide +kernel
theorem dX12_lesser_6 : decode cX12_lesser 6 = .ok (.goto 4, 3) := by decide +kernel
theorem dX12_lesser_9 : decode cX12_lesser 9 = .ok (.iload_n 1, 1) := by decide +kernel
theorem dX12_lesser_10 : decode cX12_lesser 10 = .ok (.ireturn, 1) := by decide +kernel
theorem dX12_orNone_0 : decode cX12_orNone 0 = .ok (.iload_n 0, 1) := by decide +kernel
theorem dX12_orNone_1 : decode cX12_orNone 1 = .ok (.ldc_w 351, 3) := by decide +kernel
theorem dX12_orNone_4 : decode cX12_orNone 4 = .ok (.if_icmp .ne 7, 3) := by decide +kernel
theorem dX12_orNone_7 : decode cX12_orNone 7 = .ok (.iconst (-1), 1) := by decide +kernel
theorem dX12_orNone_8 : decode cX12_orNone 8 = .ok (.goto 4, 3) := by decide +kernel
theorem dX12_orNone_11 : decode cX12_orNone 11 = .ok (.iload_n 0, 1) := by decide +kernel
theorem dX12_orNone_12 : decode cX12_orNone 12 = .ok (.ireturn, 1) := by decide +kernel
theorem dX12_see_0 : decode cX12_see 0 = .ok (.iload_n 1, 1) := by decide +kernel
theorem dX12_see_1 : decode cX12_see 1 = .ok (.aload_n 0, 1) := by decide +kernel
theorem dX12_see_2 : decode cX12_see 2 = .ok (.getfield 102, 3) := by decide +kernel
theorem dX12_see_5 : decode cX12_see 5 = .ok (.if_icmp .ge 12, 3) := by decide +kernel
theorem dX12_see_8 : decode cX12_see 8 = .ok (.aload_n 0, 1) := by decide +kernel
theorem dX12_see_9 : decode cX12_see 9 = .ok (.getfield 21, 3) := by decide +kernel
theorem dX12_see_12 : decode cX12_see 12 = .ok (.iload_n 1, 1) := by decide +kernel
theorem dX12_see_13 : decode cX12_see 13 = .ok (.iaload, 1) := by decide +kernel
theorem dX12_see_14 : decode cX12_see 14 = .ok (.goto 4, 3) := by decide +kernel
theorem dX12_see_17 : decode cX12_see 17 = .ok (.iconst (-1), 1) := by decide +kernel
theorem dX12_see_18 : decode cX12_see 18 = .ok (.ireturn, 1) := by decide +kernel
theorem dX12_streetFrom_0 : decode cX12_streetFrom 0 = .ok (.aload_n 0, 1) := by decide +kernel
theorem dX12_streetFrom_1 : decode cX12_streetFrom 1 = .ok (.getfield 13, 3) := by decide +kernel
theorem dX12_streetFrom_4 : decode cX12_streetFrom 4 = .ok (.bipush 11, 2) := by decide +kernel
theorem dX12_streetFrom_6 : decode cX12_streetFrom 6 = .ok (.iload_n 1, 1) := by decide +kernel
theorem dX12_streetFrom_7 : decode cX12_streetFrom 7 = .ok (.iadd, 1) := by decide +kernel
theorem dX12_streetFrom_8 : decode cX12_streetFrom 8 = .ok (.iaload, 1) := by decide +kernel
theorem dX12_streetFrom_9 : decode cX12_streetFrom 9 = .ok (.i2l, 1) := by decide +kernel
theorem dX12_streetFrom_10 : decode cX12_streetFrom 10 = .ok (.iload_n 2, 1) := by decide +kernel
theorem dX12_streetFrom_11 : decode cX12_streetFrom 11 = .ok (.invokestatic 229, 3) := by decide +kernel
theorem dX12_streetFrom_14 : decode cX12_streetFrom 14 = .ok (.ifCond .eq 7, 3) := by decide +kernel
theorem dX12_streetFrom_17 : decode cX12_streetFrom 17 = .ok (.iconst (-1), 1) := by decide +kernel
theorem dX12_streetFrom_18 : decode cX12_streetFrom 18 = .ok (.goto 12, 3) := by decide +kernel
theorem dX12_streetFrom_21 : decode cX12_streetFrom 21 = .ok (.aload_n 0, 1) := by decide +kernel
theorem dX12_streetFrom_22 : decode cX12_streetFrom 22 = .ok (.getfield 13, 3) := by decide +kernel
theorem dX12_streetFrom_25 : decode cX12_streetFrom 25 = .ok (.iload_n 1, 1) := by decide +kernel
theorem dX12_streetFrom_26 : decode cX12_streetFrom 26 = .ok (.iload_n 2, 1) := by decide +kernel
theorem dX12_streetFrom_27 : decode cX12_streetFrom 27 = .ok (.invokestatic 203, 3) := by decide +kernel
theorem dX12_streetFrom_30 : decode cX12_streetFrom 30 = .ok (.ireturn, 1) := by decide +kernel
theorem dX12_within_0 : decode cX12_within 0 = .ok (.lload_n 0, 1) := by decide +kernel
theorem dX12_within_1 : decode cX12_within 1 = .ok (.lload_n 2, 1) := by decide +kernel
theorem dX12_within_2 : decode cX12_within 2 = .ok (.lcmp, 1) := by decide +kernel
theorem dX12_within_3 : decode cX12_within 3 = .ok (.ifCond .lt 14, 3) := by decide +kernel
theorem dX12_within_6 : decode cX12_within 6 = .ok (.lload_n 0, 1) := by decide +kernel
theorem dX12_within_7 : decode cX12_within 7 = .ok (.lload 4, 2) := by decide +kernel
theorem dX12_within_9 : decode cX12_within 9 = .ok (.lcmp, 1) := by decide +kernel
theorem dX12_within_10 : decode cX12_within 10 = .ok (.ifCond .gt 7, 3) := by decide +kernel
theorem dX12_within_13 : decode cX12_within 13 = .ok (.iconst 1, 1) := by decide +kernel
theorem dX12_within_14 : decode cX12_within 14 = .ok (.goto 4, 3) := by decide +kernel
theorem dX12_within_17 : decode cX12_within 17 = .ok (.iconst 0, 1) := by decide +kernel
theorem dX12_within_18 : decode cX12_within 18 = .ok (.ireturn, 1) := by decide +kernel
theorem dX12_wordOf_0 : decode cX12_wordOf 0 = .ok (.aload_n 0, 1) := by decide +kernel
theorem dX12_wordOf_1 : decode cX12_wordOf 1 = .ok (.getfield 13, 3) := by decide +kernel
theorem dX12_wordOf_4 : decode cX12_wordOf 4 = .ok (.bipush 111, 2) := by decide +kernel
theorem dX12_wordOf_6 : decode cX12_wordOf 6 = .ok (.iaload, 1) := by decide +kernel
theorem dX12_wordOf_7 : decode cX12_wordOf 7 = .ok (.iload_n 3, 1) := by decide +kernel
theorem dX12_wordOf_8 : decode cX12_wordOf 8 = .ok (.iadd, 1) := by decide +kernel
theorem dX12_wordOf_9 : decode cX12_wordOf 9 = .ok (.istore 5, 2) := by decide +kernel
theorem dX12_wordOf_11 : decode cX12_wordOf 11 = .ok (.iload_n 1, 1) := by decide +kernel
theorem dX12_wordOf_12 : decode cX12_wordOf 12 = .ok (.tableswitch 76 0 4 #[36, 45, 54, 60, 66], 36) := by decide +kernel
theorem dX12_wordOf_48 : decode cX12_wordOf 48 = .ok (.iload_n 2, 1) := by decide +kernel
theorem dX12_wordOf_49 : decode cX12_wordOf 49 = .ok (.aload_n 0, 1) := by decide +kernel
theorem dX12_wordOf_50 : decode cX12_wordOf 50 = .ok (.getfield 13, 3) := by decide +kernel
theorem dX12_wordOf_53 : decode cX12_wordOf 53 = .ok (.iconst 1, 1) := by decide +kernel
theorem dX12_wordOf_54 : decode cX12_wordOf 54 = .ok (.iaload, 1) := by decide +kernel
theorem dX12_wordOf_55 : decode cX12_wordOf 55 = .ok (.irem, 1) := by decide +kernel
theorem dX12_wordOf_56 : decode cX12_wordOf 56 = .ok (.ireturn, 1) := by decide +kernel
theorem dX12_wordOf_57 : decode cX12_wordOf 57 = .ok (.iload_n 2, 1) := by decide +kernel
theorem dX12_wordOf_58 : decode cX12_wordOf 58 = .ok (.aload_n 0, 1) := by decide +kernel
theorem dX12_wordOf_59 : decode cX12_wordOf 59 = .ok (.getfield 13, 3) := by decide +kernel
theorem dX12_wordOf_62 : decode cX12_wordOf 62 = .ok (.iconst 1, 1) := by decide +kernel
theorem dX12_wordOf_63 : decode cX12_wordOf 63 = .ok (.iaload, 1) := by decide +kernel
theorem dX12_wordOf_64 : decode cX12_wordOf 64 = .ok (.idiv, 1) := by decide +kernel
theorem dX12_wordOf_65 : decode cX12_wordOf 65 = .ok (.ireturn, 1) := by decide +kernel
theorem dX12_wordOf_66 : decode cX12_wordOf 66 = .ok (.iload 5, 2) := by decide +kernel
theorem dX12_wordOf_68 : decode cX12_wordOf 68 = .ok (.bipush 24, 2) := by decide +kernel
theorem dX12_wordOf_70 : decode cX12_wordOf 70 = .ok (.irem, 1) := by decide +kernel
theorem dX12_wordOf_71 : decode cX12_wordOf 71 = .ok (.ireturn, 1) := by decide +kernel
theorem dX12_wordOf_72 : decode cX12_wordOf 72 = .ok (.iload 5, 2) := by decide +kernel
theorem dX12_wordOf_74 : decode cX12_wordOf 74 = .ok (.bipush 24, 2) := by decide +kernel
theorem dX12_wordOf_76 : decode cX12_wordOf 76 = .ok (.idiv, 1) := by decide +kernel
theorem dX12_wordOf_77 : decode cX12_wordOf 77 = .ok (.ireturn, 1) := by decide +kernel
theorem dX12_wordOf_78 : decode cX12_wordOf 78 = .ok (.aload_n 0, 1) := by decide +kernel
theorem dX12_wordOf_79 : decode cX12_wordOf 79 = .ok (.getfield 13, 3) := by decide +kernel
theorem dX12_wordOf_82 : decode cX12_wordOf 82 = .ok (.bipush 61, 2) := by decide +kernel
theorem dX12_wordOf_84 : decode cX12_wordOf 84 = .ok (.iload_n 2, 1) := by decide +kernel
theorem dX12_wordOf_85 : decode cX12_wordOf 85 = .ok (.iadd, 1) := by decide +kernel
theorem dX12_wordOf_86 : decode cX12_wordOf 86 = .ok (.iaload, 1) := by decide +kernel
theorem dX12_wordOf_87 : decode cX12_wordOf 87 = .ok (.ireturn, 1) := by decide +kernel
theorem dX12_wordOf_88 : decode cX12_wordOf 88 = .ok (.iload 4, 2) := by decide +kernel
theorem dX12_wordOf_90 : decode cX12_wordOf 90 = .ok (.ireturn, 1) := by decide +kernel
theorem o32_1 {x0 : Int} (h0 : x0 = 0) : 0 ≤ x0 := by omega
theorem o32_2 {x0 : Int} (h0 : x0 = 0) : x0 ≤ 1 := by omega
theorem o32_3 {x0 x1 x2 x3 x4 : Int} (h0 : ((x4 = -1 ∧ x1 < x2) ∨ (x4 = 0 ∧ x1 = x2) ∨ (x4 = 1 ∧ x2 < x1))) (h1 : x4 < 0) (h2 : x0 = 0) : ((x0 = 0 ∧ (x1 < x2 ∨ x3 < x1)) ∨ (x0 = 1 ∧ x2 ≤ x1 ∧ x1 ≤ x3)) := by omega
theorem o32_4 {x0 x1 x2 x3 x4 x5 : Int} (h0 : ((x4 = -1 ∧ x1 < x2) ∨ (x4 = 0 ∧ x1 = x2) ∨ (x4 = 1 ∧ x2 < x1))) (h1 : 0 ≤ x4) (h2 : ((x5 = -1 ∧ x1 < x3) ∨ (x5 = 0 ∧ x1 = x3) ∨ (x5 = 1 ∧ x3 < x1))) (h3 : 0 < x5) (h4 : x0 = 0) : ((x0 = 0 ∧ (x1 < x2 ∨ x3 < x1)) ∨ (x0 = 1 ∧ x2 ≤ x1 ∧ x1 ≤ x3)) := by omega
theorem o32_5 {x0 : Int} (h0 : x0 = 1) : 0 ≤ x0 := by omega
theorem o32_6 {x0 : Int} (h0 : x0 = 1) : x0 ≤ 1 := by omega
theorem o32_7 {x0 x1 x2 x3 x4 x5 : Int} (h0 : ((x4 = -1 ∧ x1 < x2) ∨ (x4 = 0 ∧ x1 = x2) ∨ (x4 = 1 ∧ x2 < x1))) (h1 : 0 ≤ x4) (h2 : ((x5 = -1 ∧ x1 < x3) ∨ (x5 = 0 ∧ x1 = x3) ∨ (x5 = 1 ∧ x3 < x1))) (h3 : x5 ≤ 0) (h4 : x0 = 1) : ((x0 = 0 ∧ (x1 < x2 ∨ x3 < x1)) ∨ (x0 = 1 ∧ x2 ≤ x1 ∧ x1 ≤ x3)) := by omega
theorem o32_8 {x0 : Int} (h0 : x0 = 0) : x0 = 0 := by omega
theorem o32_9 {x0 x1 x2 : Int} (h0 : x0 = 1) (h1 : ((x1 = -1 ∧ x2 < x0) ∨ (x1 = 0 ∧ x2 = x0) ∨ (x1 = 1 ∧ x0 < x2))) (h2 : ¬ x1 = 0) (h3 : x2 = 1) : False := by omega
theorem o32_10 {x0 : Int} (h0 : x0 = 1) : x0 = 1 := by omega
theorem o32_11 {x0 x1 x2 : Int} (h0 : x1 = 1) (h1 : ((x2 = -1 ∧ x0 < x1) ∨ (x2 = 0 ∧ x0 = x1) ∨ (x2 = 1 ∧ x1 < x0))) (h2 : x2 = 0) : x0 = 1 := by omega
theorem o32_12 {x0 : Int} (h0 : x0 = (-1)) : (-1) ≤ x0 := by omega
theorem o32_13 {x0 : Int} (h0 : x0 = (-1)) : x0 ≤ 255 := by omega
theorem o32_14 {x0 x1 x2 : Int} (h0 : 0 ≤ x1) (h1 : x1 ≤ 901) (h2 : 0 ≤ x2) (h3 : x2 ≤ 900) (h4 : x2 ≤ x1) (h5 : x0 = (-1)) : (x0 = -1 ∨ x1 ≤ 899) := by omega
theorem o32_15 {x0 x1 : Int} (h0 : 0 ≤ x0) (h1 : x0 ≤ 901) (h2 : 0 ≤ x1) (h3 : x1 ≤ 900) (h4 : x0 < x1) : 0 ≤ x0 := by omega
theorem o32_16 {x0 x1 : Int} (h0 : 0 ≤ x0) (h1 : x0 ≤ 901) (h2 : 0 ≤ x1) (h3 : x1 ≤ 900) (h4 : x0 < x1) : x0 < (900 : Nat) := by omega
theorem o32_17 {x0 : Int} (h0 : 0 ≤ x0) (h1 : x0 ≤ 255) : (-1) ≤ x0 := by omega
theorem o32_18 {x0 : Int} (h0 : 0 ≤ x0) (h1 : x0 ≤ 255) : x0 ≤ 255 := by omega
theorem o32_19 {x0 x1 x2 : Int} (h0 : 0 ≤ x1) (h1 : x1 ≤ 901) (h2 : 0 ≤ x2) (h3 : x2 ≤ 900) (h4 : x1 < x2) (h5 : 0 ≤ x0) (h6 : x0 ≤ 255) : (x0 = -1 ∨ x1 ≤ 899) := by omega
theorem o32_20 {x0 x1 x2 : Int} (h0 : x2 = 97) (h1 : x1 < x2) (h2 : x0 = 0) : (x0 = 0 ∨ (97 ≤ x1 ∧ x1 ≤ 122)) := by omega
theorem o32_21 {x0 x1 x2 x3 : Int} (h0 : x2 = 97) (h1 : x2 ≤ x1) (h2 : x3 = 122) (h3 : x3 < x1) (h4 : x0 = 0) : (x0 = 0 ∨ (97 ≤ x1 ∧ x1 ≤ 122)) := by omega
theorem o32_22 {x0 x1 x2 x3 : Int} (h0 : x2 = 97) (h1 : x2 ≤ x1) (h2 : x3 = 122) (h3 : x1 ≤ x3) (h4 : x0 = 1) : (x0 = 0 ∨ (97 ≤ x1 ∧ x1 ≤ 122)) := by omega
theorem o32_23 {x0 x1 x2 : Int} (h0 : x2 = 48) (h1 : x1 < x2) (h2 : x0 = 0) : (x0 = 0 ∨ (48 ≤ x1 ∧ x1 ≤ 57)) := by omega
theorem o32_24 {x0 x1 x2 x3 : Int} (h0 : x2 = 48) (h1 : x2 ≤ x1) (h2 : x3 = 57) (h3 : x3 < x1) (h4 : x0 = 0) : (x0 = 0 ∨ (48 ≤ x1 ∧ x1 ≤ 57)) := by omega
theorem o32_25 {x0 x1 x2 x3 : Int} (h0 : x2 = 48) (h1 : x2 ≤ x1) (h2 : x3 = 57) (h3 : x1 ≤ x3) (h4 : x0 = 1) : (x0 = 0 ∨ (48 ≤ x1 ∧ x1 ≤ 57)) := by omega
theorem o32_26 {x0 : Int} (h0 : x0 = 1) : x0 < (5322 : Nat) := by omega
theorem o32_27 : ∀ p, p < 2 → 1 ≤ p → 0 ≤ (elAll p).1 ∧ (elAll p).2 ≤ 5 := by decide +kernel
theorem o32_28 {x0 : Int} (h0 : x0 = 1) : (x0).toNat < 2 := by omega
theorem o32_29 {x0 : Int} (h0 : x0 = 1) : 1 ≤ (x0).toNat := by omega
theorem o32_30 {x0 : Int} (h0 : x0 = 1) : x0 = ((1 : Nat) : Int) := by omega
theorem o32_31 {x0 : Int} (h0 : x0 = 2) : 0 ≤ x0 := by omega
theorem o32_32 {x0 : Int} (h0 : x0 = 2) : x0 < (5322 : Nat) := by omega
theorem o32_33 : ∀ p, p < 3 → 2 ≤ p → 0 ≤ (elAll p).1 ∧ (elAll p).2 ≤ 5 := by decide +kernel
theorem o32_34 {x0 : Int} (h0 : x0 = 2) : (x0).toNat < 3 := by omega
theorem o32_35 {x0 : Int} (h0 : x0 = 2) : 2 ≤ (x0).toNat := by omega
theorem o32_36 {x0 : Int} (h0 : x0 = 2) : x0 = ((2 : Nat) : Int) := by omega
theorem o32_37 {x0 : Int} (h0 : 0 ≤ x0) (h1 : x0 ≤ 5) : 0 ≤ x0 := by omega
theorem o32_38 {x0 : Int} (h0 : 0 ≤ x0) (h1 : x0 ≤ 5) : x0 ≤ 5 := by omega
theorem o32_39 {x0 : Int} (h0 : 0 * 0 ≤ x0) (h1 : x0 ≤ 5 * 5) : 0 ≤ x0 := by omega
theorem o32_40 {x0 : Int} (h0 : 0 * 0 ≤ x0) (h1 : x0 ≤ 5 * 5) : x0 ≤ 25 := by omega
theorem o32_41 {x0 x1 : Int} (h0 : 0 ≤ x0) (h1 : x0 ≤ 25) (h2 : x1 = 1) (h3 : -2147483648 ≤ x0) (h4 : x0 ≤ 2147483647) (h5 : -2147483648 ≤ x1) (h6 : x1 ≤ 2147483647) : -2147483648 ≤ x0 - x1 := by omega
theorem o32_42 {x0 x1 : Int} (h0 : 0 ≤ x0) (h1 : x0 ≤ 25) (h2 : x1 = 1) (h3 : -2147483648 ≤ x0) (h4 : x0 ≤ 2147483647) (h5 : -2147483648 ≤ x1) (h6 : x1 ≤ 2147483647) : x0 - x1 ≤ 2147483647 := by omega
theorem o32_43 {x0 x1 x2 x3 x4 x5 x6 : Int} (h0 : x1 = 0) (h1 : 0 ≤ x2) (h2 : x2 ≤ 25) (h3 : x3 = 1) (h4 : x4 = x2 - x3) (h5 : x5 = x4) (h6 : 0 ≤ x0) (h7 : x0 ≤ 1) (h8 : ((x0 = 0 ∧ (x6 < x1 ∨ x5 < x6)) ∨ (x0 = 1 ∧ x1 ≤ x6 ∧ x6 ≤ x5))) : 0 ≤ x0 := by omega
theorem o32_44 {x0 x1 x2 x3 x4 x5 x6 : Int} (h0 : x1 = 0) (h1 : 0 ≤ x2) (h2 : x2 ≤ 25) (h3 : x3 = 1) (h4 : x4 = x2 - x3) (h5 : x5 = x4) (h6 : 0 ≤ x0) (h7 : x0 ≤ 1) (h8 : ((x0 = 0 ∧ (x6 < x1 ∨ x5 < x6)) ∨ (x0 = 1 ∧ x1 ≤ x6 ∧ x6 ≤ x5))) : x0 ≤ 1 := by omega
theorem o32_45 {x0 x1 x2 x3 x4 x5 x6 : Int} (h0 : x2 = 0) (h1 : 0 ≤ x3) (h2 : x3 ≤ 25) (h3 : x4 = 1) (h4 : x5 = x3 - x4) (h5 : x6 = x5) (h6 : 0 ≤ x0) (h7 : x0 ≤ 1) (h8 : ((x0 = 0 ∧ (x1 < x2 ∨ x6 < x1)) ∨ (x0 = 1 ∧ x2 ≤ x1 ∧ x1 ≤ x6))) : (x0 = 0 ∨ (0 ≤ x1 ∧ x1 ≤ 24)) := by omega
theorem o32_46 {x0 x1 x2 x3 x4 x5 x6 : Int} (h0 : x1 = 0) (h1 : 0 ≤ x2) (h2 : x2 ≤ 25) (h3 : x3 = 1) (h4 : x4 = x2 - x3) (h5 : x5 = x4) (h6 : 0 ≤ x0) (h7 : x0 ≤ 1) (h8 : ((x0 = 0 ∧ (x6 < x1 ∨ x5 < x6)) ∨ (x0 = 1 ∧ x1 ≤ x6 ∧ x6 ≤ x5))) (h9 : x2 = 0) : x0 = 0 := by omega
theorem o32_47 {x0 : Int} (h0 : x0 = 3) : 0 ≤ x0 := by omega
theorem o32_48 {x0 : Int} (h0 : x0 = 3) : x0 < (5322 : Nat) := by omega
theorem o32_49 : ∀ p, p < 4 → 3 ≤ p → 0 ≤ (elAll p).1 ∧ (elAll p).2 ≤ 5 := by decide +kernel
theorem o32_50 {x0 : Int} (h0 : x0 = 3) : (x0).toNat < 4 := by omega
theorem o32_51 {x0 : Int} (h0 : x0 = 3) : 3 ≤ (x0).toNat := by omega
theorem o32_52 {x0 : Int} (h0 : x0 = 3) : x0 = ((3 : Nat) : Int) := by omega
theorem o32_53 {x0 x1 : Int} (h0 : 0 ≤ x0) (h1 : x0 ≤ 5) (h2 : x1 = 1) (h3 : -2147483648 ≤ x0) (h4 : x0 ≤ 2147483647) (h5 : -2147483648 ≤ x1) (h6 : x1 ≤ 2147483647) : -2147483648 ≤ x0 - x1 := by omega
theorem o32_54 {x0 x1 : Int} (h0 : 0 ≤ x0) (h1 : x0 ≤ 5) (h2 : x1 = 1) (h3 : -2147483648 ≤ x0) (h4 : x0 ≤ 2147483647) (h5 : -2147483648 ≤ x1) (h6 : x1 ≤ 2147483647) : x0 - x1 ≤ 2147483647 := by omega
theorem o32_55 {x0 x1 x2 x3 x4 x5 x6 : Int} (h0 : x1 = 0) (h1 : 0 ≤ x2) (h2 : x2 ≤ 5) (h3 : x3 = 1) (h4 : x4 = x2 - x3) (h5 : x5 = x4) (h6 : 0 ≤ x0) (h7 : x0 ≤ 1) (h8 : ((x0 = 0 ∧ (x6 < x1 ∨ x5 < x6)) ∨ (x0 = 1 ∧ x1 ≤ x6 ∧ x6 ≤ x5))) : 0 ≤ x0 := by omega
theorem o32_56 {x0 x1 x2 x3 x4 x5 x6 : Int} (h0 : x1 = 0) (h1 : 0 ≤ x2) (h2 : x2 ≤ 5) (h3 : x3 = 1) (h4 : x4 = x2 - x3) (h5 : x5 = x4) (h6 : 0 ≤ x0) (h7 : x0 ≤ 1) (h8 : ((x0 = 0 ∧ (x6 < x1 ∨ x5 < x6)) ∨ (x0 = 1 ∧ x1 ≤ x6 ∧ x6 ≤ x5))) : x0 ≤ 1 := by omega
theorem o32_57 {x0 x1 x2 x3 x4 x5 x6 : Int} (h0 : x2 = 0) (h1 : 0 ≤ x3) (h2 : x3 ≤ 5) (h3 : x4 = 1) (h4 : x5 = x3 - x4) (h5 : x6 = x5) (h6 : 0 ≤ x0) (h7 : x0 ≤ 1) (h8 : ((x0 = 0 ∧ (x1 < x2 ∨ x6 < x1)) ∨ (x0 = 1 ∧ x2 ≤ x1 ∧ x1 ≤ x6))) : (x0 = 0 ∨ (0 ≤ x1 ∧ x1 ≤ 4)) := by omega
theorem o32_58 {x0 x1 x2 x3 x4 x5 x6 : Int} (h0 : x1 = 0) (h1 : 0 ≤ x0) (h2 : x0 ≤ 5) (h3 : x2 = 1) (h4 : x3 = x0 - x2) (h5 : x4 = x3) (h6 : 0 ≤ x5) (h7 : x5 ≤ 1) (h8 : ((x5 = 0 ∧ (x6 < x1 ∨ x4 < x6)) ∨ (x5 = 1 ∧ x1 ≤ x6 ∧ x6 ≤ x4))) (h9 : ¬ x5 = 0) : 1 ≤ x0 := by omega
theorem o32_59 {x0 x1 x2 x3 x4 : Int} (h0 : x1 = x2) (h1 : x3 = 0) (h2 : x4 = 3) (h3 : 0 ≤ x0) (h4 : x0 ≤ 1) (h5 : ((x0 = 0 ∧ (x1 < x3 ∨ x4 < x1)) ∨ (x0 = 1 ∧ x3 ≤ x1 ∧ x1 ≤ x4))) : 0 ≤ x0 := by omega
theorem o32_60 {x0 x1 x2 x3 x4 : Int} (h0 : x1 = x2) (h1 : x3 = 0) (h2 : x4 = 3) (h3 : 0 ≤ x0) (h4 : x0 ≤ 1) (h5 : ((x0 = 0 ∧ (x1 < x3 ∨ x4 < x1)) ∨ (x0 = 1 ∧ x3 ≤ x1 ∧ x1 ≤ x4))) : x0 ≤ 1 := by omega
theorem o32_61 {x0 x1 x2 x3 x4 : Int} (h0 : x2 = x1) (h1 : x3 = 0) (h2 : x4 = 3) (h3 : 0 ≤ x0) (h4 : x0 ≤ 1) (h5 : ((x0 = 0 ∧ (x2 < x3 ∨ x4 < x2)) ∨ (x0 = 1 ∧ x3 ≤ x2 ∧ x2 ≤ x4))) : (x0 = 0 ∨ (0 ≤ x1 ∧ x1 ≤ 3)) := by omega
theorem o32_62 {x0 x1 x2 x3 : Int} (h0 : 0 ≤ x0) (h1 : x0 ≤ 3) (h2 : 0 ≤ x1) (h3 : x1 ≤ 3) (h4 : x2 = 2) (h5 : ¬ x1 = x2) (h6 : x3 = 3) (h7 : ¬ x1 = x3) (h8 : -2147483648 ≤ x0) (h9 : x0 ≤ 2147483647) (h10 : -2147483648 ≤ x1) (h11 : x1 ≤ 2147483647) (h12 : -2147483648 ≤ x2) (h13 : x2 ≤ 2147483647) (h14 : -2147483648 ≤ x3) (h15 : x3 ≤ 2147483647) : -2147483648 ≤ x0 + x1 := by omega
theorem o32_63 {x0 x1 x2 x3 : Int} (h0 : 0 ≤ x0) (h1 : x0 ≤ 3) (h2 : 0 ≤ x1) (h3 : x1 ≤ 3) (h4 : x2 = 2) (h5 : ¬ x1 = x2) (h6 : x3 = 3) (h7 : ¬ x1 = x3) (h8 : -2147483648 ≤ x0) (h9 : x0 ≤ 2147483647) (h10 : -2147483648 ≤ x1) (h11 : x1 ≤ 2147483647) (h12 : -2147483648 ≤ x2) (h13 : x2 ≤ 2147483647) (h14 : -2147483648 ≤ x3) (h15 : x3 ≤ 2147483647) : x0 + x1 ≤ 2147483647 := by omega
theorem o32_64 {x0 : Int} (h0 : x0 = 4) : x0 = 4 := by omega
theorem o32_65 {x0 x1 x2 x3 x4 : Int} (h0 : 0 ≤ x1) (h1 : x1 ≤ 3) (h2 : 0 ≤ x2) (h3 : x2 ≤ 3) (h4 : x3 = 2) (h5 : ¬ x2 = x3) (h6 : x4 = 3) (h7 : ¬ x2 = x4) (h8 : x0 = x1 + x2) : 0 ≤ x0 := by omega
theorem o32_66 {x0 x1 x2 x3 x4 x5 : Int} (h0 : 0 ≤ x1) (h1 : x1 ≤ 3) (h2 : 0 ≤ x2) (h3 : x2 ≤ 3) (h4 : x3 = 2) (h5 : ¬ x2 = x3) (h6 : x4 = 3) (h7 : ¬ x2 = x4) (h8 : x5 = x1 + x2) (h9 : x0 = x5 % 4) : 0 ≤ x0 := by omega
theorem o32_67 {x0 x1 x2 x3 x4 x5 : Int} (h0 : 0 ≤ x1) (h1 : x1 ≤ 3) (h2 : 0 ≤ x2) (h3 : x2 ≤ 3) (h4 : x3 = 2) (h5 : ¬ x2 = x3) (h6 : x4 = 3) (h7 : ¬ x2 = x4) (h8 : x5 = x1 + x2) (h9 : x0 = x5 % 4) : x0 ≤ 3 := by omega
theorem o32_68 {x0 x1 : Int} (h0 : 0 ≤ x0) (h1 : x0 ≤ 3) (h2 : x1 = 2) (h3 : -2147483648 ≤ x0) (h4 : x0 ≤ 2147483647) (h5 : -2147483648 ≤ x1) (h6 : x1 ≤ 2147483647) : -2147483648 ≤ x0 + x1 := by omega
theorem o32_69 {x0 x1 : Int} (h0 : 0 ≤ x0) (h1 : x0 ≤ 3) (h2 : x1 = 2) (h3 : -2147483648 ≤ x0) (h4 : x0 ≤ 2147483647) (h5 : -2147483648 ≤ x1) (h6 : x1 ≤ 2147483647) : x0 + x1 ≤ 2147483647 := by omega
theorem o32_70 {x0 x1 x2 : Int} (h0 : 0 ≤ x1) (h1 : x1 ≤ 3) (h2 : x2 = 2) (h3 : x0 = x1 + x2) : 0 ≤ x0 := by omega
theorem o32_71 {x0 x1 x2 x3 : Int} (h0 : 0 ≤ x1) (h1 : x1 ≤ 3) (h2 : x2 = 2) (h3 : x3 = x1 + x2) (h4 : x0 = x3 % 4) : 0 ≤ x0 := by omega
theorem o32_72 {x0 x1 x2 x3 : Int} (h0 : 0 ≤ x1) (h1 : x1 ≤ 3) (h2 : x2 = 2) (h3 : x3 = x1 + x2) (h4 : x0 = x3 % 4) : x0 ≤ 3 := by omega
theorem o32_73 {x0 x1 : Int} (h0 : 0 ≤ x0) (h1 : x0 ≤ 3) (h2 : x1 = 3) (h3 : -2147483648 ≤ x0) (h4 : x0 ≤ 2147483647) (h5 : -2147483648 ≤ x1) (h6 : x1 ≤ 2147483647) : -2147483648 ≤ x0 + x1 := by omega
theorem o32_74 {x0 x1 : Int} (h0 : 0 ≤ x0) (h1 : x0 ≤ 3) (h2 : x1 = 3) (h3 : -2147483648 ≤ x0) (h4 : x0 ≤ 2147483647) (h5 : -2147483648 ≤ x1) (h6 : x1 ≤ 2147483647) : x0 + x1 ≤ 2147483647 := by omega
theorem o32_75 {x0 x1 x2 : Int} (h0 : 0 ≤ x1) (h1 : x1 ≤ 3) (h2 : x2 = 3) (h3 : x0 = x1 + x2) : 0 ≤ x0 := by omega
theorem o32_76 {x0 x1 x2 x3 : Int} (h0 : 0 ≤ x1) (h1 : x1 ≤ 3) (h2 : x2 = 3) (h3 : x3 = x1 + x2) (h4 : x0 = x3 % 4) : 0 ≤ x0 := by omega
theorem o32_77 {x0 x1 x2 x3 : Int} (h0 : 0 ≤ x1) (h1 : x1 ≤ 3) (h2 : x2 = 3) (h3 : x3 = x1 + x2) (h4 : x0 = x3 % 4) : x0 ≤ 3 := by omega
theorem o32_78 {x0 x1 x2 : Int} (h0 : 0 ≤ x0) (h1 : x0 ≤ 3) (h2 : x2 = 2) (h3 : x2 ≤ x0) (h4 : x1 = 1) (h5 : -2147483648 ≤ x0) (h6 : x0 ≤ 2147483647) (h7 : -2147483648 ≤ x1) (h8 : x1 ≤ 2147483647) (h9 : -2147483648 ≤ x2) (h10 : x2 ≤ 2147483647) : -2147483648 ≤ x0 - x1 := by omega
theorem o32_79 {x0 x1 x2 : Int} (h0 : 0 ≤ x0) (h1 : x0 ≤ 3) (h2 : x2 = 2) (h3 : x2 ≤ x0) (h4 : x1 = 1) (h5 : -2147483648 ≤ x0) (h6 : x0 ≤ 2147483647) (h7 : -2147483648 ≤ x1) (h8 : x1 ≤ 2147483647) (h9 : -2147483648 ≤ x2) (h10 : x2 ≤ 2147483647) : x0 - x1 ≤ 2147483647 := by omega
theorem o32_80 {x0 x1 x2 x3 : Int} (h0 : 0 ≤ x1) (h1 : x1 ≤ 3) (h2 : x2 = 2) (h3 : x2 ≤ x1) (h4 : x3 = 1) (h5 : x0 = x1 - x3) : 0 ≤ x0 := by omega
theorem o32_81 {x0 x1 x2 x3 : Int} (h0 : 0 ≤ x1) (h1 : x1 ≤ 3) (h2 : x2 = 2) (h3 : x2 ≤ x1) (h4 : x3 = 1) (h5 : x0 = x1 - x3) : x0 ≤ 2 := by omega
theorem o32_82 {x0 x1 x2 x3 : Int} (h0 : 0 ≤ x1) (h1 : x1 ≤ 3) (h2 : x2 = 2) (h3 : x2 ≤ x1) (h4 : x3 = 1) (h5 : x0 = x1 - x3) : ((x1 < 2 ∧ x0 = 0) ∨ (2 ≤ x1 ∧ x0 = x1 - 1)) := by omega
theorem o32_83 {x0 : Int} (h0 : x0 = 0) : x0 ≤ 2 := by omega
theorem o32_84 {x0 x1 x2 : Int} (h0 : 0 ≤ x1) (h1 : x1 ≤ 3) (h2 : x2 = 2) (h3 : x1 < x2) (h4 : x0 = 0) : ((x1 < 2 ∧ x0 = 0) ∨ (2 ≤ x1 ∧ x0 = x1 - 1)) := by omega
theorem o32_85 {x0 : Int} (h0 : 0 ≤ x0) (h1 : x0 ≤ 5) (h2 : 1 ≤ x0) : 0 < x0 := by omega
theorem o32_86 {x0 : Int} (h0 : 0 ≤ x0) (h1 : x0 ≤ 24) : 0 ≤ x0 := by omega
theorem o32_87 {x0 x1 x2 x3 : Int} (h0 : 0 ≤ x2) (h1 : x2 ≤ 24) (h2 : 0 ≤ x3) (h3 : x3 ≤ 5) (h4 : 1 ≤ x3) (h5 : x0 = x2 % x3) (h6 : 0 ≤ x0) (h7 : x0 < x3) (h8 : x1 = 0) (h9 : -2147483648 ≤ x0) (h10 : x0 ≤ 2147483647) (h11 : -2147483648 ≤ x1) (h12 : x1 ≤ 2147483647) (h13 : -2147483648 ≤ x2) (h14 : x2 ≤ 2147483647) (h15 : -2147483648 ≤ x3) (h16 : x3 ≤ 2147483647) : -2147483648 ≤ x0 + x1 := by omega
theorem o32_88 {x0 x1 x2 x3 : Int} (h0 : 0 ≤ x2) (h1 : x2 ≤ 24) (h2 : 0 ≤ x3) (h3 : x3 ≤ 5) (h4 : 1 ≤ x3) (h5 : x0 = x2 % x3) (h6 : 0 ≤ x0) (h7 : x0 < x3) (h8 : x1 = 0) (h9 : -2147483648 ≤ x0) (h10 : x0 ≤ 2147483647) (h11 : -2147483648 ≤ x1) (h12 : x1 ≤ 2147483647) (h13 : -2147483648 ≤ x2) (h14 : x2 ≤ 2147483647) (h15 : -2147483648 ≤ x3) (h16 : x3 ≤ 2147483647) : x0 + x1 ≤ 2147483647 := by omega
theorem o32_89 {x0 x1 x2 x3 x4 x5 : Int} (h0 : 0 ≤ x1) (h1 : x1 ≤ 24) (h2 : 0 ≤ x2) (h3 : x2 ≤ 5) (h4 : 1 ≤ x2) (h5 : x3 = x1 % x2) (h6 : 0 ≤ x3) (h7 : x3 < x2) (h8 : x4 = 0) (h9 : x5 = x3 + x4) (h10 : 0 ≤ x0) (h11 : x0 ≤ 5) (h12 : x0 = x2) (h13 : 1 ≤ x0) : 0 < x0 := by omega
theorem o32_90 {x0 x1 x2 x3 x4 x5 : Int} (h0 : 0 ≤ x0) (h1 : x0 ≤ 24) (h2 : 0 ≤ x1) (h3 : x1 ≤ 5) (h4 : 1 ≤ x1) (h5 : x2 = x0 % x1) (h6 : 0 ≤ x2) (h7 : x2 < x1) (h8 : x3 = 0) (h9 : x4 = x2 + x3) (h10 : 0 ≤ x5) (h11 : x5 ≤ 5) (h12 : x5 = x1) (h13 : 1 ≤ x5) : 0 ≤ x0 := by omega
theorem o32_91 {x0 x1 x2 x3 x4 x5 x6 x7 : Int} (h0 : 0 ≤ x2) (h1 : x2 ≤ 24) (h2 : 0 ≤ x3) (h3 : x3 ≤ 5) (h4 : 1 ≤ x3) (h5 : x4 = x2 % x3) (h6 : 0 ≤ x4) (h7 : x4 < x3) (h8 : x5 = 0) (h9 : x6 = x4 + x5) (h10 : 0 ≤ x7) (h11 : x7 ≤ 5) (h12 : x7 = x3) (h13 : 1 ≤ x7) (h14 : x0 = x2 / x7) (h15 : 0 ≤ x0) (h16 : x0 ≤ x2) (h17 : x1 = 0) (h18 : -2147483648 ≤ x0) (h19 : x0 ≤ 2147483647) (h20 : -2147483648 ≤ x1) (h21 : x1 ≤ 2147483647) (h22 : -2147483648 ≤ x2) (h23 : x2 ≤ 2147483647) (h24 : -2147483648 ≤ x3) (h25 : x3 ≤ 2147483647) (h26 : -2147483648 ≤ x4) (h27 : x4 ≤ 2147483647) (h28 : -2147483648 ≤ x5) (h29 : x5 ≤ 2147483647) (h30 : -2147483648 ≤ x6) (h31 : x6 ≤ 2147483647) (h32 : -2147483648 ≤ x7) (h33 : x7 ≤ 2147483647) : -2147483648 ≤ x0 + x1 := by omega
theorem o32_92 {x0 x1 x2 x3 x4 x5 x6 x7 : Int} (h0 : 0 ≤ x2) (h1 : x2 ≤ 24) (h2 : 0 ≤ x3) (h3 : x3 ≤ 5) (h4 : 1 ≤ x3) (h5 : x4 = x2 % x3) (h6 : 0 ≤ x4) (h7 : x4 < x3) (h8 : x5 = 0) (h9 : x6 = x4 + x5) (h10 : 0 ≤ x7) (h11 : x7 ≤ 5) (h12 : x7 = x3) (h13 : 1 ≤ x7) (h14 : x0 = x2 / x7) (h15 : 0 ≤ x0) (h16 : x0 ≤ x2) (h17 : x1 = 0) (h18 : -2147483648 ≤ x0) (h19 : x0 ≤ 2147483647) (h20 : -2147483648 ≤ x1) (h21 : x1 ≤ 2147483647) (h22 : -2147483648 ≤ x2) (h23 : x2 ≤ 2147483647) (h24 : -2147483648 ≤ x3) (h25 : x3 ≤ 2147483647) (h26 : -2147483648 ≤ x4) (h27 : x4 ≤ 2147483647) (h28 : -2147483648 ≤ x5) (h29 : x5 ≤ 2147483647) (h30 : -2147483648 ≤ x6) (h31 : x6 ≤ 2147483647) (h32 : -2147483648 ≤ x7) (h33 : x7 ≤ 2147483647) : x0 + x1 ≤ 2147483647 := by omega
theorem o32_93 {x0 x1 x2 x3 x4 x5 x6 x7 x8 x9 x10 x11 : Int} (h0 : 0 ≤ x2) (h1 : x2 ≤ 24) (h2 : 0 ≤ x3) (h3 : x3 ≤ 5) (h4 : 1 ≤ x3) (h5 : x4 = x2 % x3) (h6 : 0 ≤ x4) (h7 : x4 < x3) (h8 : x5 = 0) (h9 : x6 = x4 + x5) (h10 : 0 ≤ x7) (h11 : x7 ≤ 5) (h12 : x7 = x3) (h13 : 1 ≤ x7) (h14 : x8 = x2 / x7) (h15 : 0 ≤ x8) (h16 : x8 ≤ x2) (h17 : x9 = 0) (h18 : x10 = x8 + x9) (h19 : x11 = x6) (h20 : 0 ≤ x0) (h21 : x0 ≤ 5) (h22 : x0 = x3) (h23 : 1 ≤ x0) (h24 : x1 = 1) (h25 : -2147483648 ≤ x0) (h26 : x0 ≤ 2147483647) (h27 : -2147483648 ≤ x1) (h28 : x1 ≤ 2147483647) (h29 : -2147483648 ≤ x2) (h30 : x2 ≤ 2147483647) (h31 : -2147483648 ≤ x3) (h32 : x3 ≤ 2147483647) (h33 : -2147483648 ≤ x4) (h34 : x4 ≤ 2147483647) (h35 : -2147483648 ≤ x5) (h36 : x5 ≤ 2147483647) (h37 : -2147483648 ≤ x6) (h38 : x6 ≤ 2147483647) (h39 : -2147483648 ≤ x7) (h40 : x7 ≤ 2147483647) (h41 : -2147483648 ≤ x8) (h42 : x8 ≤ 2147483647) (h43 : -2147483648 ≤ x9) (h44 : x9 ≤ 2147483647) (h45 : -2147483648 ≤ x10) (h46 : x10 ≤ 2147483647) : -2147483648 ≤ x0 - x1 := by omega
theorem o32_94 {x0 x1 x2 x3 x4 x5 x6 x7 x8 x9 x10 x11 : Int} (h0 : 0 ≤ x2) (h1 : x2 ≤ 24) (h2 : 0 ≤ x3) (h3 : x3 ≤ 5) (h4 : 1 ≤ x3) (h5 : x4 = x2 % x3) (h6 : 0 ≤ x4) (h7 : x4 < x3) (h8 : x5 = 0) (h9 : x6 = x4 + x5) (h10 : 0 ≤ x7) (h11 : x7 ≤ 5) (h12 : x7 = x3) (h13 : 1 ≤ x7) (h14 : x8 = x2 / x7) (h15 : 0 ≤ x8) (h16 : x8 ≤ x2) (h17 : x9 = 0) (h18 : x10 = x8 + x9) (h19 : x11 = x6) (h20 : 0 ≤ x0) (h21 : x0 ≤ 5) (h22 : x0 = x3) (h23 : 1 ≤ x0) (h24 : x1 = 1) (h25 : -2147483648 ≤ x0) (h26 : x0 ≤ 2147483647) (h27 : -2147483648 ≤ x1) (h28 : x1 ≤ 2147483647) (h29 : -2147483648 ≤ x2) (h30 : x2 ≤ 2147483647) (h31 : -2147483648 ≤ x3) (h32 : x3 ≤ 2147483647) (h33 : -2147483648 ≤ x4) (h34 : x4 ≤ 2147483647) (h35 : -2147483648 ≤ x5) (h36 : x5 ≤ 2147483647) (h37 : -2147483648 ≤ x6) (h38 : x6 ≤ 2147483647) (h39 : -2147483648 ≤ x7) (h40 : x7 ≤ 2147483647) (h41 : -2147483648 ≤ x8) (h42 : x8 ≤ 2147483647) (h43 : -2147483648 ≤ x9) (h44 : x9 ≤ 2147483647) (h45 : -2147483648 ≤ x10) (h46 : x10 ≤ 2147483647) : x0 - x1 ≤ 2147483647 := by omega
theorem o32_95 {x0 : Int} (h0 : x0 = (-1)) : x0 ≤ 24 := by omega
theorem o32_96 {x0 x1 x2 x3 x4 x5 x6 x7 x8 x9 x10 x11 x12 x13 x14 x15 : Int} (h0 : 0 ≤ x2) (h1 : x2 ≤ 24) (h2 : 0 ≤ x1) (h3 : x1 ≤ 5) (h4 : 1 ≤ x1) (h5 : x3 = x2 % x1) (h6 : 0 ≤ x3) (h7 : x3 < x1) (h8 : x4 = 0) (h9 : x5 = x3 + x4) (h10 : 0 ≤ x0) (h11 : x0 ≤ 5) (h12 : x0 = x1) (h13 : 1 ≤ x0) (h14 : x6 = x2 / x0) (h15 : 0 ≤ x6) (h16 : x6 ≤ x2) (h17 : x7 = 0) (h18 : x8 = x6 + x7) (h19 : x9 = x5) (h20 : x10 = 0) (h21 : 0 ≤ x11) (h22 : x11 ≤ 5) (h23 : x11 = x1) (h24 : 1 ≤ x11) (h25 : x12 = 1) (h26 : x13 = x11 - x12) (h27 : x14 = x13) (h28 : 0 ≤ x15) (h29 : x15 ≤ 1) (h30 : ((x15 = 0 ∧ (x9 < x10 ∨ x14 < x9)) ∨ (x15 = 1 ∧ x10 ≤ x9 ∧ x9 ≤ x14))) (h31 : x15 = 0) : x0 = x1 := by omega
theorem o32_97 {x0 x1 : Int} (h0 : 0 ≤ x0) (h1 : x0 ≤ 5) (h2 : 1 ≤ x0) (h3 : x1 = 1) (h4 : -2147483648 ≤ x0) (h5 : x0 ≤ 2147483647) (h6 : -2147483648 ≤ x1) (h7 : x1 ≤ 2147483647) : -2147483648 ≤ x0 - x1 := by omega
theorem o32_98 {x0 x1 : Int} (h0 : 0 ≤ x0) (h1 : x0 ≤ 5) (h2 : 1 ≤ x0) (h3 : x1 = 1) (h4 : -2147483648 ≤ x0) (h5 : x0 ≤ 2147483647) (h6 : -2147483648 ≤ x1) (h7 : x1 ≤ 2147483647) : x0 - x1 ≤ 2147483647 := by omega
theorem o32_99 {x0 x1 x2 x3 x4 x5 x6 x7 x8 x9 x10 x11 x12 x13 x14 x15 x16 x17 x18 x19 x20 x21 x22 : Int} (h0 : 0 ≤ x2) (h1 : x2 ≤ 24) (h2 : 0 ≤ x1) (h3 : x1 ≤ 5) (h4 : 1 ≤ x1) (h5 : x3 = x2 % x1) (h6 : 0 ≤ x3) (h7 : x3 < x1) (h8 : x4 = 0) (h9 : x5 = x3 + x4) (h10 : 0 ≤ x0) (h11 : x0 ≤ 5) (h12 : x0 = x1) (h13 : 1 ≤ x0) (h14 : x6 = x2 / x0) (h15 : 0 ≤ x6) (h16 : x6 ≤ x2) (h17 : x7 = 0) (h18 : x8 = x6 + x7) (h19 : x9 = x5) (h20 : x10 = 0) (h21 : 0 ≤ x11) (h22 : x11 ≤ 5) (h23 : x11 = x1) (h24 : 1 ≤ x11) (h25 : x12 = 1) (h26 : x13 = x11 - x12) (h27 : x14 = x13) (h28 : 0 ≤ x15) (h29 : x15 ≤ 1) (h30 : ((x15 = 0 ∧ (x9 < x10 ∨ x14 < x9)) ∨ (x15 = 1 ∧ x10 ≤ x9 ∧ x9 ≤ x14))) (h31 : ¬ x15 = 0) (h32 : x16 = x8) (h33 : x17 = 0) (h34 : 0 ≤ x18) (h35 : x18 ≤ 5) (h36 : 1 ≤ x18) (h37 : x19 = 1) (h38 : x20 = x18 - x19) (h39 : x21 = x20) (h40 : 0 ≤ x22) (h41 : x22 ≤ 1) (h42 : ((x22 = 0 ∧ (x16 < x17 ∨ x21 < x16)) ∨ (x22 = 1 ∧ x17 ≤ x16 ∧ x16 ≤ x21))) (h43 : x22 = 0) : x0 = x1 := by omega
theorem o32_100 {x0 x1 x2 x3 x4 x5 x6 x7 x8 x9 x10 x11 x12 x13 x14 x15 x16 x17 x18 x19 x20 x21 x22 x23 : Int} (h0 : 0 ≤ x1) (h1 : x1 ≤ 24) (h2 : 0 ≤ x2) (h3 : x2 ≤ 5) (h4 : 1 ≤ x2) (h5 : x3 = x1 % x2) (h6 : 0 ≤ x3) (h7 : x3 < x2) (h8 : x4 = 0) (h9 : x5 = x3 + x4) (h10 : 0 ≤ x6) (h11 : x6 ≤ 5) (h12 : x6 = x2) (h13 : 1 ≤ x6) (h14 : x7 = x1 / x6) (h15 : 0 ≤ x7) (h16 : x7 ≤ x1) (h17 : x8 = 0) (h18 : x9 = x7 + x8) (h19 : x10 = x5) (h20 : x11 = 0) (h21 : 0 ≤ x12) (h22 : x12 ≤ 5) (h23 : x12 = x2) (h24 : 1 ≤ x12) (h25 : x13 = 1) (h26 : x14 = x12 - x13) (h27 : x15 = x14) (h28 : 0 ≤ x16) (h29 : x16 ≤ 1) (h30 : ((x16 = 0 ∧ (x10 < x11 ∨ x15 < x10)) ∨ (x16 = 1 ∧ x11 ≤ x10 ∧ x10 ≤ x15))) (h31 : ¬ x16 = 0) (h32 : x17 = x9) (h33 : x18 = 0) (h34 : 0 ≤ x19) (h35 : x19 ≤ 5) (h36 : 1 ≤ x19) (h37 : x20 = 1) (h38 : x21 = x19 - x20) (h39 : x22 = x21) (h40 : 0 ≤ x23) (h41 : x23 ≤ 1) (h42 : ((x23 = 0 ∧ (x17 < x18 ∨ x22 < x17)) ∨ (x23 = 1 ∧ x18 ≤ x17 ∧ x17 ≤ x22))) (h43 : ¬ x23 = 0) (h44 : 0 ≤ x0) (h45 : x0 ≤ 5) (h46 : x0 = x2) (h47 : 1 ≤ x0) : 1 ≤ x0 := by omega
theorem o32_101 {x0 x1 x2 x3 x4 x5 x6 x7 x8 x9 x10 x11 x12 x13 x14 x15 x16 x17 x18 x19 x20 x21 x22 x23 : Int} (h0 : 0 ≤ x1) (h1 : x1 ≤ 24) (h2 : 0 ≤ x2) (h3 : x2 ≤ 5) (h4 : 1 ≤ x2) (h5 : x3 = x1 % x2) (h6 : 0 ≤ x3) (h7 : x3 < x2) (h8 : x4 = 0) (h9 : x5 = x3 + x4) (h10 : 0 ≤ x6) (h11 : x6 ≤ 5) (h12 : x6 = x2) (h13 : 1 ≤ x6) (h14 : x7 = x1 / x6) (h15 : 0 ≤ x7) (h16 : x7 ≤ x1) (h17 : x8 = 0) (h18 : x9 = x7 + x8) (h19 : x10 = x5) (h20 : x11 = 0) (h21 : 0 ≤ x12) (h22 : x12 ≤ 5) (h23 : x12 = x2) (h24 : 1 ≤ x12) (h25 : x13 = 1) (h26 : x14 = x12 - x13) (h27 : x15 = x14) (h28 : 0 ≤ x16) (h29 : x16 ≤ 1) (h30 : ((x16 = 0 ∧ (x10 < x11 ∨ x15 < x10)) ∨ (x16 = 1 ∧ x11 ≤ x10 ∧ x10 ≤ x15))) (h31 : ¬ x16 = 0) (h32 : x17 = x9) (h33 : x18 = 0) (h34 : 0 ≤ x19) (h35 : x19 ≤ 5) (h36 : 1 ≤ x19) (h37 : x20 = 1) (h38 : x21 = x19 - x20) (h39 : x22 = x21) (h40 : 0 ≤ x23) (h41 : x23 ≤ 1) (h42 : ((x23 = 0 ∧ (x17 < x18 ∨ x22 < x17)) ∨ (x23 = 1 ∧ x18 ≤ x17 ∧ x17 ≤ x22))) (h43 : ¬ x23 = 0) (h44 : 0 ≤ x0) (h45 : x0 ≤ 5) (h46 : x0 = x2) (h47 : 1 ≤ x0) : x0 ≤ 5 := by omega
theorem o32_102 {x0 x1 x2 x3 x4 x5 x6 x7 x8 x9 x10 x11 x12 x13 x14 x15 x16 x17 x18 x19 x20 x21 x22 x23 : Int} (h0 : 0 ≤ x1) (h1 : x1 ≤ 24) (h2 : 0 ≤ x2) (h3 : x2 ≤ 5) (h4 : 1 ≤ x2) (h5 : x3 = x1 % x2) (h6 : 0 ≤ x3) (h7 : x3 < x2) (h8 : x4 = 0) (h9 : x5 = x3 + x4) (h10 : 0 ≤ x6) (h11 : x6 ≤ 5) (h12 : x6 = x2) (h13 : 1 ≤ x6) (h14 : x7 = x1 / x6) (h15 : 0 ≤ x7) (h16 : x7 ≤ x1) (h17 : x8 = 0) (h18 : x0 = x7 + x8) (h19 : x9 = x5) (h20 : x10 = 0) (h21 : 0 ≤ x11) (h22 : x11 ≤ 5) (h23 : x11 = x2) (h24 : 1 ≤ x11) (h25 : x12 = 1) (h26 : x13 = x11 - x12) (h27 : x14 = x13) (h28 : 0 ≤ x15) (h29 : x15 ≤ 1) (h30 : ((x15 = 0 ∧ (x9 < x10 ∨ x14 < x9)) ∨ (x15 = 1 ∧ x10 ≤ x9 ∧ x9 ≤ x14))) (h31 : ¬ x15 = 0) (h32 : x16 = x0) (h33 : x17 = 0) (h34 : 0 ≤ x18) (h35 : x18 ≤ 5) (h36 : 1 ≤ x18) (h37 : x19 = 1) (h38 : x20 = x18 - x19) (h39 : x21 = x20) (h40 : 0 ≤ x22) (h41 : x22 ≤ 1) (h42 : ((x22 = 0 ∧ (x16 < x17 ∨ x21 < x16)) ∨ (x22 = 1 ∧ x17 ≤ x16 ∧ x16 ≤ x21))) (h43 : ¬ x22 = 0) (h44 : 0 ≤ x23) (h45 : x23 ≤ 5) (h46 : x23 = x2) (h47 : 1 ≤ x23) : 0 ≤ x0 := by omega
theorem o32_103 {x0 x1 x2 x3 x4 x5 x6 x7 x8 x9 x10 x11 x12 x13 x14 x15 x16 x17 x18 x19 x20 x21 x22 x23 : Int} (h0 : 0 ≤ x1) (h1 : x1 ≤ 24) (h2 : 0 ≤ x2) (h3 : x2 ≤ 5) (h4 : 1 ≤ x2) (h5 : x3 = x1 % x2) (h6 : 0 ≤ x3) (h7 : x3 < x2) (h8 : x4 = 0) (h9 : x5 = x3 + x4) (h10 : 0 ≤ x6) (h11 : x6 ≤ 5) (h12 : x6 = x2) (h13 : 1 ≤ x6) (h14 : x7 = x1 / x6) (h15 : 0 ≤ x7) (h16 : x7 ≤ x1) (h17 : x8 = 0) (h18 : x0 = x7 + x8) (h19 : x9 = x5) (h20 : x10 = 0) (h21 : 0 ≤ x11) (h22 : x11 ≤ 5) (h23 : x11 = x2) (h24 : 1 ≤ x11) (h25 : x12 = 1) (h26 : x13 = x11 - x12) (h27 : x14 = x13) (h28 : 0 ≤ x15) (h29 : x15 ≤ 1) (h30 : ((x15 = 0 ∧ (x9 < x10 ∨ x14 < x9)) ∨ (x15 = 1 ∧ x10 ≤ x9 ∧ x9 ≤ x14))) (h31 : ¬ x15 = 0) (h32 : x16 = x0) (h33 : x17 = 0) (h34 : 0 ≤ x18) (h35 : x18 ≤ 5) (h36 : 1 ≤ x18) (h37 : x19 = 1) (h38 : x20 = x18 - x19) (h39 : x21 = x20) (h40 : 0 ≤ x22) (h41 : x22 ≤ 1) (h42 : ((x22 = 0 ∧ (x16 < x17 ∨ x21 < x16)) ∨ (x22 = 1 ∧ x17 ≤ x16 ∧ x16 ≤ x21))) (h43 : ¬ x22 = 0) (h44 : 0 ≤ x23) (h45 : x23 ≤ 5) (h46 : x23 = x2) (h47 : 1 ≤ x23) : x0 ≤ 4 := by omega
theorem o32_104 {x0 x1 x2 x3 x4 x5 x6 x7 x8 x9 x10 x11 x12 x13 x14 x15 x16 x17 x18 x19 x20 x21 x22 x23 x24 : Int} (h0 : 0 ≤ x2) (h1 : x2 ≤ 24) (h2 : 0 ≤ x3) (h3 : x3 ≤ 5) (h4 : 1 ≤ x3) (h5 : x4 = x2 % x3) (h6 : 0 ≤ x4) (h7 : x4 < x3) (h8 : x5 = 0) (h9 : x1 = x4 + x5) (h10 : 0 ≤ x6) (h11 : x6 ≤ 5) (h12 : x6 = x3) (h13 : 1 ≤ x6) (h14 : x7 = x2 / x6) (h15 : 0 ≤ x7) (h16 : x7 ≤ x2) (h17 : x8 = 0) (h18 : x9 = x7 + x8) (h19 : x10 = x1) (h20 : x11 = 0) (h21 : 0 ≤ x12) (h22 : x12 ≤ 5) (h23 : x12 = x3) (h24 : 1 ≤ x12) (h25 : x13 = 1) (h26 : x14 = x12 - x13) (h27 : x15 = x14) (h28 : 0 ≤ x16) (h29 : x16 ≤ 1) (h30 : ((x16 = 0 ∧ (x10 < x11 ∨ x15 < x10)) ∨ (x16 = 1 ∧ x11 ≤ x10 ∧ x10 ≤ x15))) (h31 : ¬ x16 = 0) (h32 : x17 = x9) (h33 : x18 = 0) (h34 : 0 ≤ x19) (h35 : x19 ≤ 5) (h36 : 1 ≤ x19) (h37 : x20 = 1) (h38 : x21 = x19 - x20) (h39 : x22 = x21) (h40 : 0 ≤ x23) (h41 : x23 ≤ 1) (h42 : ((x23 = 0 ∧ (x17 < x18 ∨ x22 < x17)) ∨ (x23 = 1 ∧ x18 ≤ x17 ∧ x17 ≤ x22))) (h43 : ¬ x23 = 0) (h44 : 0 ≤ x24) (h45 : x24 ≤ 5) (h46 : x24 = x3) (h47 : 1 ≤ x24) (h48 : 1 * 0 ≤ x0) (h49 : x0 ≤ 5 * 4) (h50 : -2147483648 ≤ x0) (h51 : x0 ≤ 2147483647) (h52 : -2147483648 ≤ x1) (h53 : x1 ≤ 2147483647) (h54 : -2147483648 ≤ x2) (h55 : x2 ≤ 2147483647) (h56 : -2147483648 ≤ x3) (h57 : x3 ≤ 2147483647) (h58 : -2147483648 ≤ x4) (h59 : x4 ≤ 2147483647) (h60 : -2147483648 ≤ x5) (h61 : x5 ≤ 2147483647) (h62 : -2147483648 ≤ x6) (h63 : x6 ≤ 2147483647) (h64 : -2147483648 ≤ x7) (h65 : x7 ≤ 2147483647) (h66 : -2147483648 ≤ x8) (h67 : x8 ≤ 2147483647) (h68 : -2147483648 ≤ x9) (h69 : x9 ≤ 2147483647) (h70 : -2147483648 ≤ x12) (h71 : x12 ≤ 2147483647) (h72 : -2147483648 ≤ x13) (h73 : x13 ≤ 2147483647) (h74 : -2147483648 ≤ x14) (h75 : x14 ≤ 2147483647) (h76 : -2147483648 ≤ x16) (h77 : x16 ≤ 2147483647) (h78 : -2147483648 ≤ x19) (h79 : x19 ≤ 2147483647) (h80 : -2147483648 ≤ x20) (h81 : x20 ≤ 2147483647) (h82 : -2147483648 ≤ x21) (h83 : x21 ≤ 2147483647) (h84 : -2147483648 ≤ x23) (h85 : x23 ≤ 2147483647) (h86 : -2147483648 ≤ x24) (h87 : x24 ≤ 2147483647) : -2147483648 ≤ x0 + x1 := by omega
theorem o32_105 {x0 x1 x2 x3 x4 x5 x6 x7 x8 x9 x10 x11 x12 x13 x14 x15 x16 x17 x18 x19 x20 x21 x22 x23 x24 : Int} (h0 : 0 ≤ x2) (h1 : x2 ≤ 24) (h2 : 0 ≤ x3) (h3 : x3 ≤ 5) (h4 : 1 ≤ x3) (h5 : x4 = x2 % x3) (h6 : 0 ≤ x4) (h7 : x4 < x3) (h8 : x5 = 0) (h9 : x1 = x4 + x5) (h10 : 0 ≤ x6) (h11 : x6 ≤ 5) (h12 : x6 = x3) (h13 : 1 ≤ x6) (h14 : x7 = x2 / x6) (h15 : 0 ≤ x7) (h16 : x7 ≤ x2) (h17 : x8 = 0) (h18 : x9 = x7 + x8) (h19 : x10 = x1) (h20 : x11 = 0) (h21 : 0 ≤ x12) (h22 : x12 ≤ 5) (h23 : x12 = x3) (h24 : 1 ≤ x12) (h25 : x13 = 1) (h26 : x14 = x12 - x13) (h27 : x15 = x14) (h28 : 0 ≤ x16) (h29 : x16 ≤ 1) (h30 : ((x16 = 0 ∧ (x10 < x11 ∨ x15 < x10)) ∨ (x16 = 1 ∧ x11 ≤ x10 ∧ x10 ≤ x15))) (h31 : ¬ x16 = 0) (h32 : x17 = x9) (h33 : x18 = 0) (h34 : 0 ≤ x19) (h35 : x19 ≤ 5) (h36 : 1 ≤ x19) (h37 : x20 = 1) (h38 : x21 = x19 - x20) (h39 : x22 = x21) (h40 : 0 ≤ x23) (h41 : x23 ≤ 1) (h42 : ((x23 = 0 ∧ (x17 < x18 ∨ x22 < x17)) ∨ (x23 = 1 ∧ x18 ≤ x17 ∧ x17 ≤ x22))) (h43 : ¬ x23 = 0) (h44 : 0 ≤ x24) (h45 : x24 ≤ 5) (h46 : x24 = x3) (h47 : 1 ≤ x24) (h48 : 1 * 0 ≤ x0) (h49 : x0 ≤ 5 * 4) (h50 : -2147483648 ≤ x0) (h51 : x0 ≤ 2147483647) (h52 : -2147483648 ≤ x1) (h53 : x1 ≤ 2147483647) (h54 : -2147483648 ≤ x2) (h55 : x2 ≤ 2147483647) (h56 : -2147483648 ≤ x3) (h57 : x3 ≤ 2147483647) (h58 : -2147483648 ≤ x4) (h59 : x4 ≤ 2147483647) (h60 : -2147483648 ≤ x5) (h61 : x5 ≤ 2147483647) (h62 : -2147483648 ≤ x6) (h63 : x6 ≤ 2147483647) (h64 : -2147483648 ≤ x7) (h65 : x7 ≤ 2147483647) (h66 : -2147483648 ≤ x8) (h67 : x8 ≤ 2147483647) (h68 : -2147483648 ≤ x9) (h69 : x9 ≤ 2147483647) (h70 : -2147483648 ≤ x12) (h71 : x12 ≤ 2147483647) (h72 : -2147483648 ≤ x13) (h73 : x13 ≤ 2147483647) (h74 : -2147483648 ≤ x14) (h75 : x14 ≤ 2147483647) (h76 : -2147483648 ≤ x16) (h77 : x16 ≤ 2147483647) (h78 : -2147483648 ≤ x19) (h79 : x19 ≤ 2147483647) (h80 : -2147483648 ≤ x20) (h81 : x20 ≤ 2147483647) (h82 : -2147483648 ≤ x21) (h83 : x21 ≤ 2147483647) (h84 : -2147483648 ≤ x23) (h85 : x23 ≤ 2147483647) (h86 : -2147483648 ≤ x24) (h87 : x24 ≤ 2147483647) : x0 + x1 ≤ 2147483647 := by omega
theorem o32_106 {x0 x1 x2 x3 x4 x5 x6 x7 x8 x9 x10 x11 x12 x13 x14 x15 x16 x17 x18 x19 x20 x21 x22 x23 x24 x25 : Int} (h0 : 0 ≤ x1) (h1 : x1 ≤ 24) (h2 : 0 ≤ x2) (h3 : x2 ≤ 5) (h4 : 1 ≤ x2) (h5 : x3 = x1 % x2) (h6 : 0 ≤ x3) (h7 : x3 < x2) (h8 : x4 = 0) (h9 : x5 = x3 + x4) (h10 : 0 ≤ x6) (h11 : x6 ≤ 5) (h12 : x6 = x2) (h13 : 1 ≤ x6) (h14 : x7 = x1 / x6) (h15 : 0 ≤ x7) (h16 : x7 ≤ x1) (h17 : x8 = 0) (h18 : x9 = x7 + x8) (h19 : x10 = x5) (h20 : x11 = 0) (h21 : 0 ≤ x12) (h22 : x12 ≤ 5) (h23 : x12 = x2) (h24 : 1 ≤ x12) (h25 : x13 = 1) (h26 : x14 = x12 - x13) (h27 : x15 = x14) (h28 : 0 ≤ x16) (h29 : x16 ≤ 1) (h30 : ((x16 = 0 ∧ (x10 < x11 ∨ x15 < x10)) ∨ (x16 = 1 ∧ x11 ≤ x10 ∧ x10 ≤ x15))) (h31 : ¬ x16 = 0) (h32 : x17 = x9) (h33 : x18 = 0) (h34 : x19 = x20 - x21) (h35 : x22 = x19) (h36 : 0 ≤ x23) (h37 : x23 ≤ 1) (h38 : ((x23 = 0 ∧ (x17 < x18 ∨ x22 < x17)) ∨ (x23 = 1 ∧ x18 ≤ x17 ∧ x17 ≤ x22))) (h39 : ¬ x23 = 0) (h40 : 0 ≤ x24) (h41 : x24 ≤ 5) (h42 : x24 = x2) (h43 : 1 ≤ x24) (h44 : 1 * 0 ≤ x25) (h45 : x25 ≤ 5 * 4) (h46 : x0 = x25 + x5) : (-1) ≤ x0 := by omega
theorem o32_107 {x0 x1 x2 x3 x4 x5 x6 x7 x8 x9 x10 x11 x12 x13 x14 x15 x16 x17 x18 x19 x20 x21 x22 x23 x24 x25 : Int} (h0 : 0 ≤ x1) (h1 : x1 ≤ 24) (h2 : 0 ≤ x2) (h3 : x2 ≤ 5) (h4 : 1 ≤ x2) (h5 : x3 = x1 % x2) (h6 : 0 ≤ x3) (h7 : x3 < x2) (h8 : x4 = 0) (h9 : x5 = x3 + x4) (h10 : 0 ≤ x6) (h11 : x6 ≤ 5) (h12 : x6 = x2) (h13 : 1 ≤ x6) (h14 : x7 = x1 / x6) (h15 : 0 ≤ x7) (h16 : x7 ≤ x1) (h17 : x8 = 0) (h18 : x9 = x7 + x8) (h19 : x10 = x5) (h20 : x11 = 0) (h21 : 0 ≤ x12) (h22 : x12 ≤ 5) (h23 : x12 = x2) (h24 : 1 ≤ x12) (h25 : x13 = 1) (h26 : x14 = x12 - x13) (h27 : x15 = x14) (h28 : 0 ≤ x16) (h29 : x16 ≤ 1) (h30 : ((x16 = 0 ∧ (x10 < x11 ∨ x15 < x10)) ∨ (x16 = 1 ∧ x11 ≤ x10 ∧ x10 ≤ x15))) (h31 : ¬ x16 = 0) (h32 : x17 = x9) (h33 : x18 = 0) (h34 : x19 = x20 - x21) (h35 : x22 = x19) (h36 : 0 ≤ x23) (h37 : x23 ≤ 1) (h38 : ((x23 = 0 ∧ (x17 < x18 ∨ x22 < x17)) ∨ (x23 = 1 ∧ x18 ≤ x17 ∧ x17 ≤ x22))) (h39 : ¬ x23 = 0) (h40 : 0 ≤ x24) (h41 : x24 ≤ 5) (h42 : x24 = x2) (h43 : 1 ≤ x24) (h44 : 1 * 0 ≤ x25) (h45 : x25 ≤ 5 * 4) (h46 : x0 = x25 + x5) : x0 ≤ 24 := by omega
theorem o32_108 {x0 x1 x2 x3 x4 x5 x6 x7 x8 x9 x10 x11 x12 x13 x14 x15 x16 x17 x18 x19 x20 x21 x22 x23 x24 x25 : Int} (h0 : 0 ≤ x2) (h1 : x2 ≤ 24) (h2 : 0 ≤ x1) (h3 : x1 ≤ 5) (h4 : 1 ≤ x1) (h5 : x3 = x2 % x1) (h6 : 0 ≤ x3) (h7 : x3 < x1) (h8 : x4 = 0) (h9 : x5 = x3 + x4) (h10 : 0 ≤ x6) (h11 : x6 ≤ 5) (h12 : x6 = x1) (h13 : 1 ≤ x6) (h14 : x7 = x2 / x6) (h15 : 0 ≤ x7) (h16 : x7 ≤ x2) (h17 : x8 = 0) (h18 : x9 = x7 + x8) (h19 : x10 = x5) (h20 : x11 = 0) (h21 : 0 ≤ x12) (h22 : x12 ≤ 5) (h23 : x12 = x1) (h24 : 1 ≤ x12) (h25 : x13 = 1) (h26 : x14 = x12 - x13) (h27 : x15 = x14) (h28 : 0 ≤ x16) (h29 : x16 ≤ 1) (h30 : ((x16 = 0 ∧ (x10 < x11 ∨ x15 < x10)) ∨ (x16 = 1 ∧ x11 ≤ x10 ∧ x10 ≤ x15))) (h31 : ¬ x16 = 0) (h32 : x17 = x9) (h33 : x18 = 0) (h34 : 0 ≤ x19) (h35 : x19 ≤ 5) (h36 : 1 ≤ x19) (h37 : x20 = 1) (h38 : x21 = x19 - x20) (h39 : x22 = x21) (h40 : 0 ≤ x23) (h41 : x23 ≤ 1) (h42 : ((x23 = 0 ∧ (x17 < x18 ∨ x22 < x17)) ∨ (x23 = 1 ∧ x18 ≤ x17 ∧ x17 ≤ x22))) (h43 : ¬ x23 = 0) (h44 : 0 ≤ x0) (h45 : x0 ≤ 5) (h46 : x0 = x1) (h47 : 1 ≤ x0) (h48 : 1 * 0 ≤ x24) (h49 : x24 ≤ 5 * 4) (h50 : x25 = x24 + x5) : x0 = x1 := by omega
theorem o32_109 {x0 x1 x2 x3 x4 x5 x6 x7 x8 x9 x10 x11 x12 x13 x14 x15 x16 x17 x18 x19 x20 x21 x22 x23 x24 x25 : Int} (h0 : 0 ≤ x1) (h1 : x1 ≤ 24) (h2 : 0 ≤ x2) (h3 : x2 ≤ 5) (h4 : 1 ≤ x2) (h5 : x3 = x1 % x2) (h6 : 0 ≤ x3) (h7 : x3 < x2) (h8 : x4 = 0) (h9 : x5 = x3 + x4) (h10 : 0 ≤ x6) (h11 : x6 ≤ 5) (h12 : x6 = x2) (h13 : 1 ≤ x6) (h14 : x7 = x1 / x6) (h15 : 0 ≤ x7) (h16 : x7 ≤ x1) (h17 : x8 = 0) (h18 : x0 = x7 + x8) (h19 : x9 = x5) (h20 : x10 = 0) (h21 : 0 ≤ x11) (h22 : x11 ≤ 5) (h23 : x11 = x2) (h24 : 1 ≤ x11) (h25 : x12 = 1) (h26 : x13 = x11 - x12) (h27 : x14 = x13) (h28 : 0 ≤ x15) (h29 : x15 ≤ 1) (h30 : ((x15 = 0 ∧ (x9 < x10 ∨ x14 < x9)) ∨ (x15 = 1 ∧ x10 ≤ x9 ∧ x9 ≤ x14))) (h31 : ¬ x15 = 0) (h32 : x16 = x0) (h33 : x17 = 0) (h34 : 0 ≤ x18) (h35 : x18 ≤ 5) (h36 : 1 ≤ x18) (h37 : x19 = 1) (h38 : x20 = x18 - x19) (h39 : x21 = x20) (h40 : 0 ≤ x22) (h41 : x22 ≤ 1) (h42 : ((x22 = 0 ∧ (x16 < x17 ∨ x21 < x16)) ∨ (x22 = 1 ∧ x17 ≤ x16 ∧ x16 ≤ x21))) (h43 : ¬ x22 = 0) (h44 : 0 ≤ x23) (h45 : x23 ≤ 5) (h46 : x23 = x2) (h47 : 1 ≤ x23) (h48 : 1 * 0 ≤ x24) (h49 : x24 ≤ 5 * 4) (h50 : x25 = x24 + x5) : x0 = x0 := by omega
theorem o32_110 {x0 x1 x2 x3 x4 x5 x6 x7 x8 x9 x10 x11 x12 x13 x14 x15 x16 x17 x18 x19 x20 x21 x22 x23 x24 x25 : Int} (h0 : 0 ≤ x2) (h1 : x2 ≤ 24) (h2 : 0 ≤ x1) (h3 : x1 ≤ 5) (h4 : 1 ≤ x1) (h5 : x3 = x2 % x1) (h6 : 0 ≤ x3) (h7 : x3 < x1) (h8 : x4 = 0) (h9 : x5 = x3 + x4) (h10 : 0 ≤ x0) (h11 : x0 ≤ 5) (h12 : x0 = x1) (h13 : 1 ≤ x0) (h14 : x6 = x2 / x0) (h15 : 0 ≤ x6) (h16 : x6 ≤ x2) (h17 : x7 = 0) (h18 : x8 = x6 + x7) (h19 : x9 = x5) (h20 : x10 = 0) (h21 : 0 ≤ x11) (h22 : x11 ≤ 5) (h23 : x11 = x1) (h24 : 1 ≤ x11) (h25 : x12 = 1) (h26 : x13 = x11 - x12) (h27 : x14 = x13) (h28 : 0 ≤ x15) (h29 : x15 ≤ 1) (h30 : ((x15 = 0 ∧ (x9 < x10 ∨ x14 < x9)) ∨ (x15 = 1 ∧ x10 ≤ x9 ∧ x9 ≤ x14))) (h31 : ¬ x15 = 0) (h32 : x16 = x8) (h33 : x17 = 0) (h34 : 0 ≤ x18) (h35 : x18 ≤ 5) (h36 : 1 ≤ x18) (h37 : x19 = 1) (h38 : x20 = x18 - x19) (h39 : x21 = x20) (h40 : 0 ≤ x22) (h41 : x22 ≤ 1) (h42 : ((x22 = 0 ∧ (x16 < x17 ∨ x21 < x16)) ∨ (x22 = 1 ∧ x17 ≤ x16 ∧ x16 ≤ x21))) (h43 : ¬ x22 = 0) (h44 : 0 ≤ x23) (h45 : x23 ≤ 5) (h46 : x23 = x1) (h47 : 1 ≤ x23) (h48 : 1 * 0 ≤ x24) (h49 : x24 ≤ 5 * 4) (h50 : x25 = x24 + x5) : x0 = x1 := by omega
theorem o32_111 {x0 x1 x2 x3 x4 x5 x6 x7 : Int} (h0 : 0 ≤ x2) (h1 : x2 ≤ 24) (h2 : 0 ≤ x3) (h3 : x3 ≤ 5) (h4 : 1 ≤ x3) (h5 : x4 = x2 % x3) (h6 : 0 ≤ x4) (h7 : x4 < x3) (h8 : x5 = 0) (h9 : x6 = x4 + x5) (h10 : 0 ≤ x7) (h11 : x7 ≤ 5) (h12 : x7 = x3) (h13 : 1 ≤ x7) (h14 : x0 = x2 / x7) (h15 : 0 ≤ x0) (h16 : x0 ≤ x2) (h17 : x1 = (-1)) (h18 : -2147483648 ≤ x0) (h19 : x0 ≤ 2147483647) (h20 : -2147483648 ≤ x1) (h21 : x1 ≤ 2147483647) (h22 : -2147483648 ≤ x2) (h23 : x2 ≤ 2147483647) (h24 : -2147483648 ≤ x3) (h25 : x3 ≤ 2147483647) (h26 : -2147483648 ≤ x4) (h27 : x4 ≤ 2147483647) (h28 : -2147483648 ≤ x5) (h29 : x5 ≤ 2147483647) (h30 : -2147483648 ≤ x6) (h31 : x6 ≤ 2147483647) (h32 : -2147483648 ≤ x7) (h33 : x7 ≤ 2147483647) : -2147483648 ≤ x0 + x1 := by omega
theorem o32_112 {x0 x1 x2 x3 x4 x5 x6 x7 : Int} (h0 : 0 ≤ x2) (h1 : x2 ≤ 24) (h2 : 0 ≤ x3) (h3 : x3 ≤ 5) (h4 : 1 ≤ x3) (h5 : x4 = x2 % x3) (h6 : 0 ≤ x4) (h7 : x4 < x3) (h8 : x5 = 0) (h9 : x6 = x4 + x5) (h10 : 0 ≤ x7) (h11 : x7 ≤ 5) (h12 : x7 = x3) (h13 : 1 ≤ x7) (h14 : x0 = x2 / x7) (h15 : 0 ≤ x0) (h16 : x0 ≤ x2) (h17 : x1 = (-1)) (h18 : -2147483648 ≤ x0) (h19 : x0 ≤ 2147483647) (h20 : -2147483648 ≤ x1) (h21 : x1 ≤ 2147483647) (h22 : -2147483648 ≤ x2) (h23 : x2 ≤ 2147483647) (h24 : -2147483648 ≤ x3) (h25 : x3 ≤ 2147483647) (h26 : -2147483648 ≤ x4) (h27 : x4 ≤ 2147483647) (h28 : -2147483648 ≤ x5) (h29 : x5 ≤ 2147483647) (h30 : -2147483648 ≤ x6) (h31 : x6 ≤ 2147483647) (h32 : -2147483648 ≤ x7) (h33 : x7 ≤ 2147483647) : x0 + x1 ≤ 2147483647 := by omega
theorem o32_113 {x0 x1 x2 x3 x4 x5 x6 x7 x8 x9 x10 x11 : Int} (h0 : 0 ≤ x2) (h1 : x2 ≤ 24) (h2 : 0 ≤ x3) (h3 : x3 ≤ 5) (h4 : 1 ≤ x3) (h5 : x4 = x2 % x3) (h6 : 0 ≤ x4) (h7 : x4 < x3) (h8 : x5 = 0) (h9 : x6 = x4 + x5) (h10 : 0 ≤ x7) (h11 : x7 ≤ 5) (h12 : x7 = x3) (h13 : 1 ≤ x7) (h14 : x8 = x2 / x7) (h15 : 0 ≤ x8) (h16 : x8 ≤ x2) (h17 : x9 = (-1)) (h18 : x10 = x8 + x9) (h19 : x11 = x6) (h20 : 0 ≤ x0) (h21 : x0 ≤ 5) (h22 : x0 = x3) (h23 : 1 ≤ x0) (h24 : x1 = 1) (h25 : -2147483648 ≤ x0) (h26 : x0 ≤ 2147483647) (h27 : -2147483648 ≤ x1) (h28 : x1 ≤ 2147483647) (h29 : -2147483648 ≤ x2) (h30 : x2 ≤ 2147483647) (h31 : -2147483648 ≤ x3) (h32 : x3 ≤ 2147483647) (h33 : -2147483648 ≤ x4) (h34 : x4 ≤ 2147483647) (h35 : -2147483648 ≤ x5) (h36 : x5 ≤ 2147483647) (h37 : -2147483648 ≤ x6) (h38 : x6 ≤ 2147483647) (h39 : -2147483648 ≤ x7) (h40 : x7 ≤ 2147483647) (h41 : -2147483648 ≤ x8) (h42 : x8 ≤ 2147483647) (h43 : -2147483648 ≤ x9) (h44 : x9 ≤ 2147483647) (h45 : -2147483648 ≤ x10) (h46 : x10 ≤ 2147483647) : -2147483648 ≤ x0 - x1 := by omega
theorem o32_114 {x0 x1 x2 x3 x4 x5 x6 x7 x8 x9 x10 x11 : Int} (h0 : 0 ≤ x2) (h1 : x2 ≤ 24) (h2 : 0 ≤ x3) (h3 : x3 ≤ 5) (h4 : 1 ≤ x3) (h5 : x4 = x2 % x3) (h6 : 0 ≤ x4) (h7 : x4 < x3) (h8 : x5 = 0) (h9 : x6 = x4 + x5) (h10 : 0 ≤ x7) (h11 : x7 ≤ 5) (h12 : x7 = x3) (h13 : 1 ≤ x7) (h14 : x8 = x2 / x7) (h15 : 0 ≤ x8) (h16 : x8 ≤ x2) (h17 : x9 = (-1)) (h18 : x10 = x8 + x9) (h19 : x11 = x6) (h20 : 0 ≤ x0) (h21 : x0 ≤ 5) (h22 : x0 = x3) (h23 : 1 ≤ x0) (h24 : x1 = 1) (h25 : -2147483648 ≤ x0) (h26 : x0 ≤ 2147483647) (h27 : -2147483648 ≤ x1) (h28 : x1 ≤ 2147483647) (h29 : -2147483648 ≤ x2) (h30 : x2 ≤ 2147483647) (h31 : -2147483648 ≤ x3) (h32 : x3 ≤ 2147483647) (h33 : -2147483648 ≤ x4) (h34 : x4 ≤ 2147483647) (h35 : -2147483648 ≤ x5) (h36 : x5 ≤ 2147483647) (h37 : -2147483648 ≤ x6) (h38 : x6 ≤ 2147483647) (h39 : -2147483648 ≤ x7) (h40 : x7 ≤ 2147483647) (h41 : -2147483648 ≤ x8) (h42 : x8 ≤ 2147483647) (h43 : -2147483648 ≤ x9) (h44 : x9 ≤ 2147483647) (h45 : -2147483648 ≤ x10) (h46 : x10 ≤ 2147483647) : x0 - x1 ≤ 2147483647 := by omega
theorem o32_115 {x0 x1 x2 x3 x4 x5 x6 x7 x8 x9 x10 x11 x12 x13 x14 x15 : Int} (h0 : 0 ≤ x2) (h1 : x2 ≤ 24) (h2 : 0 ≤ x1) (h3 : x1 ≤ 5) (h4 : 1 ≤ x1) (h5 : x3 = x2 % x1) (h6 : 0 ≤ x3) (h7 : x3 < x1) (h8 : x4 = 0) (h9 : x5 = x3 + x4) (h10 : 0 ≤ x0) (h11 : x0 ≤ 5) (h12 : x0 = x1) (h13 : 1 ≤ x0) (h14 : x6 = x2 / x0) (h15 : 0 ≤ x6) (h16 : x6 ≤ x2) (h17 : x7 = (-1)) (h18 : x8 = x6 + x7) (h19 : x9 = x5) (h20 : x10 = 0) (h21 : 0 ≤ x11) (h22 : x11 ≤ 5) (h23 : x11 = x1) (h24 : 1 ≤ x11) (h25 : x12 = 1) (h26 : x13 = x11 - x12) (h27 : x14 = x13) (h28 : 0 ≤ x15) (h29 : x15 ≤ 1) (h30 : ((x15 = 0 ∧ (x9 < x10 ∨ x14 < x9)) ∨ (x15 = 1 ∧ x10 ≤ x9 ∧ x9 ≤ x14))) (h31 : x15 = 0) : x0 = x1 := by omega
theorem o32_116 {x0 x1 x2 x3 x4 x5 x6 x7 x8 x9 x10 x11 x12 x13 x14 x15 x16 x17 x18 x19 x20 x21 x22 : Int} (h0 : 0 ≤ x2) (h1 : x2 ≤ 24) (h2 : 0 ≤ x1) (h3 : x1 ≤ 5) (h4 : 1 ≤ x1) (h5 : x3 = x2 % x1) (h6 : 0 ≤ x3) (h7 : x3 < x1) (h8 : x4 = 0) (h9 : x5 = x3 + x4) (h10 : 0 ≤ x0) (h11 : x0 ≤ 5) (h12 : x0 = x1) (h13 : 1 ≤ x0) (h14 : x6 = x2 / x0) (h15 : 0 ≤ x6) (h16 : x6 ≤ x2) (h17 : x7 = (-1)) (h18 : x8 = x6 + x7) (h19 : x9 = x5) (h20 : x10 = 0) (h21 : 0 ≤ x11) (h22 : x11 ≤ 5) (h23 : x11 = x1) (h24 : 1 ≤ x11) (h25 : x12 = 1) (h26 : x13 = x11 - x12) (h27 : x14 = x13) (h28 : 0 ≤ x15) (h29 : x15 ≤ 1) (h30 : ((x15 = 0 ∧ (x9 < x10 ∨ x14 < x9)) ∨ (x15 = 1 ∧ x10 ≤ x9 ∧ x9 ≤ x14))) (h31 : ¬ x15 = 0) (h32 : x16 = x8) (h33 : x17 = 0) (h34 : 0 ≤ x18) (h35 : x18 ≤ 5) (h36 : 1 ≤ x18) (h37 : x19 = 1) (h38 : x20 = x18 - x19) (h39 : x21 = x20) (h40 : 0 ≤ x22) (h41 : x22 ≤ 1) (h42 : ((x22 = 0 ∧ (x16 < x17 ∨ x21 < x16)) ∨ (x22 = 1 ∧ x17 ≤ x16 ∧ x16 ≤ x21))) (h43 : x22 = 0) : x0 = x1 := by omega
theorem o32_117 {x0 x1 x2 x3 x4 x5 x6 x7 x8 x9 x10 x11 x12 x13 x14 x15 x16 x17 x18 x19 x20 x21 x22 x23 : Int} (h0 : 0 ≤ x1) (h1 : x1 ≤ 24) (h2 : 0 ≤ x2) (h3 : x2 ≤ 5) (h4 : 1 ≤ x2) (h5 : x3 = x1 % x2) (h6 : 0 ≤ x3) (h7 : x3 < x2) (h8 : x4 = 0) (h9 : x5 = x3 + x4) (h10 : 0 ≤ x6) (h11 : x6 ≤ 5) (h12 : x6 = x2) (h13 : 1 ≤ x6) (h14 : x7 = x1 / x6) (h15 : 0 ≤ x7) (h16 : x7 ≤ x1) (h17 : x8 = (-1)) (h18 : x9 = x7 + x8) (h19 : x10 = x5) (h20 : x11 = 0) (h21 : 0 ≤ x12) (h22 : x12 ≤ 5) (h23 : x12 = x2) (h24 : 1 ≤ x12) (h25 : x13 = 1) (h26 : x14 = x12 - x13) (h27 : x15 = x14) (h28 : 0 ≤ x16) (h29 : x16 ≤ 1) (h30 : ((x16 = 0 ∧ (x10 < x11 ∨ x15 < x10)) ∨ (x16 = 1 ∧ x11 ≤ x10 ∧ x10 ≤ x15))) (h31 : ¬ x16 = 0) (h32 : x17 = x9) (h33 : x18 = 0) (h34 : 0 ≤ x19) (h35 : x19 ≤ 5) (h36 : 1 ≤ x19) (h37 : x20 = 1) (h38 : x21 = x19 - x20) (h39 : x22 = x21) (h40 : 0 ≤ x23) (h41 : x23 ≤ 1) (h42 : ((x23 = 0 ∧ (x17 < x18 ∨ x22 < x17)) ∨ (x23 = 1 ∧ x18 ≤ x17 ∧ x17 ≤ x22))) (h43 : ¬ x23 = 0) (h44 : 0 ≤ x0) (h45 : x0 ≤ 5) (h46 : x0 = x2) (h47 : 1 ≤ x0) : 1 ≤ x0 := by omega
theorem o32_118 {x0 x1 x2 x3 x4 x5 x6 x7 x8 x9 x10 x11 x12 x13 x14 x15 x16 x17 x18 x19 x20 x21 x22 x23 : Int} (h0 : 0 ≤ x1) (h1 : x1 ≤ 24) (h2 : 0 ≤ x2) (h3 : x2 ≤ 5) (h4 : 1 ≤ x2) (h5 : x3 = x1 % x2) (h6 : 0 ≤ x3) (h7 : x3 < x2) (h8 : x4 = 0) (h9 : x5 = x3 + x4) (h10 : 0 ≤ x6) (h11 : x6 ≤ 5) (h12 : x6 = x2) (h13 : 1 ≤ x6) (h14 : x7 = x1 / x6) (h15 : 0 ≤ x7) (h16 : x7 ≤ x1) (h17 : x8 = (-1)) (h18 : x9 = x7 + x8) (h19 : x10 = x5) (h20 : x11 = 0) (h21 : 0 ≤ x12) (h22 : x12 ≤ 5) (h23 : x12 = x2) (h24 : 1 ≤ x12) (h25 : x13 = 1) (h26 : x14 = x12 - x13) (h27 : x15 = x14) (h28 : 0 ≤ x16) (h29 : x16 ≤ 1) (h30 : ((x16 = 0 ∧ (x10 < x11 ∨ x15 < x10)) ∨ (x16 = 1 ∧ x11 ≤ x10 ∧ x10 ≤ x15))) (h31 : ¬ x16 = 0) (h32 : x17 = x9) (h33 : x18 = 0) (h34 : 0 ≤ x19) (h35 : x19 ≤ 5) (h36 : 1 ≤ x19) (h37 : x20 = 1) (h38 : x21 = x19 - x20) (h39 : x22 = x21) (h40 : 0 ≤ x23) (h41 : x23 ≤ 1) (h42 : ((x23 = 0 ∧ (x17 < x18 ∨ x22 < x17)) ∨ (x23 = 1 ∧ x18 ≤ x17 ∧ x17 ≤ x22))) (h43 : ¬ x23 = 0) (h44 : 0 ≤ x0) (h45 : x0 ≤ 5) (h46 : x0 = x2) (h47 : 1 ≤ x0) : x0 ≤ 5 := by omega
theorem o32_119 {x0 x1 x2 x3 x4 x5 x6 x7 x8 x9 x10 x11 x12 x13 x14 x15 x16 x17 x18 x19 x20 x21 x22 x23 : Int} (h0 : 0 ≤ x1) (h1 : x1 ≤ 24) (h2 : 0 ≤ x2) (h3 : x2 ≤ 5) (h4 : 1 ≤ x2) (h5 : x3 = x1 % x2) (h6 : 0 ≤ x3) (h7 : x3 < x2) (h8 : x4 = 0) (h9 : x5 = x3 + x4) (h10 : 0 ≤ x6) (h11 : x6 ≤ 5) (h12 : x6 = x2) (h13 : 1 ≤ x6) (h14 : x7 = x1 / x6) (h15 : 0 ≤ x7) (h16 : x7 ≤ x1) (h17 : x8 = (-1)) (h18 : x0 = x7 + x8) (h19 : x9 = x5) (h20 : x10 = 0) (h21 : 0 ≤ x11) (h22 : x11 ≤ 5) (h23 : x11 = x2) (h24 : 1 ≤ x11) (h25 : x12 = 1) (h26 : x13 = x11 - x12) (h27 : x14 = x13) (h28 : 0 ≤ x15) (h29 : x15 ≤ 1) (h30 : ((x15 = 0 ∧ (x9 < x10 ∨ x14 < x9)) ∨ (x15 = 1 ∧ x10 ≤ x9 ∧ x9 ≤ x14))) (h31 : ¬ x15 = 0) (h32 : x16 = x0) (h33 : x17 = 0) (h34 : 0 ≤ x18) (h35 : x18 ≤ 5) (h36 : 1 ≤ x18) (h37 : x19 = 1) (h38 : x20 = x18 - x19) (h39 : x21 = x20) (h40 : 0 ≤ x22) (h41 : x22 ≤ 1) (h42 : ((x22 = 0 ∧ (x16 < x17 ∨ x21 < x16)) ∨ (x22 = 1 ∧ x17 ≤ x16 ∧ x16 ≤ x21))) (h43 : ¬ x22 = 0) (h44 : 0 ≤ x23) (h45 : x23 ≤ 5) (h46 : x23 = x2) (h47 : 1 ≤ x23) : 0 ≤ x0 := by omega
theorem o32_120 {x0 x1 x2 x3 x4 x5 x6 x7 x8 x9 x10 x11 x12 x13 x14 x15 x16 x17 x18 x19 x20 x21 x22 x23 : Int} (h0 : 0 ≤ x1) (h1 : x1 ≤ 24) (h2 : 0 ≤ x2) (h3 : x2 ≤ 5) (h4 : 1 ≤ x2) (h5 : x3 = x1 % x2) (h6 : 0 ≤ x3) (h7 : x3 < x2) (h8 : x4 = 0) (h9 : x5 = x3 + x4) (h10 : 0 ≤ x6) (h11 : x6 ≤ 5) (h12 : x6 = x2) (h13 : 1 ≤ x6) (h14 : x7 = x1 / x6) (h15 : 0 ≤ x7) (h16 : x7 ≤ x1) (h17 : x8 = (-1)) (h18 : x0 = x7 + x8) (h19 : x9 = x5) (h20 : x10 = 0) (h21 : 0 ≤ x11) (h22 : x11 ≤ 5) (h23 : x11 = x2) (h24 : 1 ≤ x11) (h25 : x12 = 1) (h26 : x13 = x11 - x12) (h27 : x14 = x13) (h28 : 0 ≤ x15) (h29 : x15 ≤ 1) (h30 : ((x15 = 0 ∧ (x9 < x10 ∨ x14 < x9)) ∨ (x15 = 1 ∧ x10 ≤ x9 ∧ x9 ≤ x14))) (h31 : ¬ x15 = 0) (h32 : x16 = x0) (h33 : x17 = 0) (h34 : 0 ≤ x18) (h35 : x18 ≤ 5) (h36 : 1 ≤ x18) (h37 : x19 = 1) (h38 : x20 = x18 - x19) (h39 : x21 = x20) (h40 : 0 ≤ x22) (h41 : x22 ≤ 1) (h42 : ((x22 = 0 ∧ (x16 < x17 ∨ x21 < x16)) ∨ (x22 = 1 ∧ x17 ≤ x16 ∧ x16 ≤ x21))) (h43 : ¬ x22 = 0) (h44 : 0 ≤ x23) (h45 : x23 ≤ 5) (h46 : x23 = x2) (h47 : 1 ≤ x23) : x0 ≤ 4 := by omega
theorem o32_121 {x0 x1 x2 x3 x4 x5 x6 x7 x8 x9 x10 x11 x12 x13 x14 x15 x16 x17 x18 x19 x20 x21 x22 x23 x24 : Int} (h0 : 0 ≤ x2) (h1 : x2 ≤ 24) (h2 : 0 ≤ x3) (h3 : x3 ≤ 5) (h4 : 1 ≤ x3) (h5 : x4 = x2 % x3) (h6 : 0 ≤ x4) (h7 : x4 < x3) (h8 : x5 = 0) (h9 : x1 = x4 + x5) (h10 : 0 ≤ x6) (h11 : x6 ≤ 5) (h12 : x6 = x3) (h13 : 1 ≤ x6) (h14 : x7 = x2 / x6) (h15 : 0 ≤ x7) (h16 : x7 ≤ x2) (h17 : x8 = (-1)) (h18 : x9 = x7 + x8) (h19 : x10 = x1) (h20 : x11 = 0) (h21 : 0 ≤ x12) (h22 : x12 ≤ 5) (h23 : x12 = x3) (h24 : 1 ≤ x12) (h25 : x13 = 1) (h26 : x14 = x12 - x13) (h27 : x15 = x14) (h28 : 0 ≤ x16) (h29 : x16 ≤ 1) (h30 : ((x16 = 0 ∧ (x10 < x11 ∨ x15 < x10)) ∨ (x16 = 1 ∧ x11 ≤ x10 ∧ x10 ≤ x15))) (h31 : ¬ x16 = 0) (h32 : x17 = x9) (h33 : x18 = 0) (h34 : 0 ≤ x19) (h35 : x19 ≤ 5) (h36 : 1 ≤ x19) (h37 : x20 = 1) (h38 : x21 = x19 - x20) (h39 : x22 = x21) (h40 : 0 ≤ x23) (h41 : x23 ≤ 1) (h42 : ((x23 = 0 ∧ (x17 < x18 ∨ x22 < x17)) ∨ (x23 = 1 ∧ x18 ≤ x17 ∧ x17 ≤ x22))) (h43 : ¬ x23 = 0) (h44 : 0 ≤ x24) (h45 : x24 ≤ 5) (h46 : x24 = x3) (h47 : 1 ≤ x24) (h48 : 1 * 0 ≤ x0) (h49 : x0 ≤ 5 * 4) (h50 : -2147483648 ≤ x0) (h51 : x0 ≤ 2147483647) (h52 : -2147483648 ≤ x1) (h53 : x1 ≤ 2147483647) (h54 : -2147483648 ≤ x2) (h55 : x2 ≤ 2147483647) (h56 : -2147483648 ≤ x3) (h57 : x3 ≤ 2147483647) (h58 : -2147483648 ≤ x4) (h59 : x4 ≤ 2147483647) (h60 : -2147483648 ≤ x5) (h61 : x5 ≤ 2147483647) (h62 : -2147483648 ≤ x6) (h63 : x6 ≤ 2147483647) (h64 : -2147483648 ≤ x7) (h65 : x7 ≤ 2147483647) (h66 : -2147483648 ≤ x8) (h67 : x8 ≤ 2147483647) (h68 : -2147483648 ≤ x9) (h69 : x9 ≤ 2147483647) (h70 : -2147483648 ≤ x12) (h71 : x12 ≤ 2147483647) (h72 : -2147483648 ≤ x13) (h73 : x13 ≤ 2147483647) (h74 : -2147483648 ≤ x14) (h75 : x14 ≤ 2147483647) (h76 : -2147483648 ≤ x16) (h77 : x16 ≤ 2147483647) (h78 : -2147483648 ≤ x19) (h79 : x19 ≤ 2147483647) (h80 : -2147483648 ≤ x20) (h81 : x20 ≤ 2147483647) (h82 : -2147483648 ≤ x21) (h83 : x21 ≤ 2147483647) (h84 : -2147483648 ≤ x23) (h85 : x23 ≤ 2147483647) (h86 : -2147483648 ≤ x24) (h87 : x24 ≤ 2147483647) : -2147483648 ≤ x0 + x1 := by omega
theorem o32_122 {x0 x1 x2 x3 x4 x5 x6 x7 x8 x9 x10 x11 x12 x13 x14 x15 x16 x17 x18 x19 x20 x21 x22 x23 x24 : Int} (h0 : 0 ≤ x2) (h1 : x2 ≤ 24) (h2 : 0 ≤ x3) (h3 : x3 ≤ 5) (h4 : 1 ≤ x3) (h5 : x4 = x2 % x3) (h6 : 0 ≤ x4) (h7 : x4 < x3) (h8 : x5 = 0) (h9 : x1 = x4 + x5) (h10 : 0 ≤ x6) (h11 : x6 ≤ 5) (h12 : x6 = x3) (h13 : 1 ≤ x6) (h14 : x7 = x2 / x6) (h15 : 0 ≤ x7) (h16 : x7 ≤ x2) (h17 : x8 = (-1)) (h18 : x9 = x7 + x8) (h19 : x10 = x1) (h20 : x11 = 0) (h21 : 0 ≤ x12) (h22 : x12 ≤ 5) (h23 : x12 = x3) (h24 : 1 ≤ x12) (h25 : x13 = 1) (h26 : x14 = x12 - x13) (h27 : x15 = x14) (h28 : 0 ≤ x16) (h29 : x16 ≤ 1) (h30 : ((x16 = 0 ∧ (x10 < x11 ∨ x15 < x10)) ∨ (x16 = 1 ∧ x11 ≤ x10 ∧ x10 ≤ x15))) (h31 : ¬ x16 = 0) (h32 : x17 = x9) (h33 : x18 = 0) (h34 : 0 ≤ x19) (h35 : x19 ≤ 5) (h36 : 1 ≤ x19) (h37 : x20 = 1) (h38 : x21 = x19 - x20) (h39 : x22 = x21) (h40 : 0 ≤ x23) (h41 : x23 ≤ 1) (h42 : ((x23 = 0 ∧ (x17 < x18 ∨ x22 < x17)) ∨ (x23 = 1 ∧ x18 ≤ x17 ∧ x17 ≤ x22))) (h43 : ¬ x23 = 0) (h44 : 0 ≤ x24) (h45 : x24 ≤ 5) (h46 : x24 = x3) (h47 : 1 ≤ x24) (h48 : 1 * 0 ≤ x0) (h49 : x0 ≤ 5 * 4) (h50 : -2147483648 ≤ x0) (h51 : x0 ≤ 2147483647) (h52 : -2147483648 ≤ x1) (h53 : x1 ≤ 2147483647) (h54 : -2147483648 ≤ x2) (h55 : x2 ≤ 2147483647) (h56 : -2147483648 ≤ x3) (h57 : x3 ≤ 2147483647) (h58 : -2147483648 ≤ x4) (h59 : x4 ≤ 2147483647) (h60 : -2147483648 ≤ x5) (h61 : x5 ≤ 2147483647) (h62 : -2147483648 ≤ x6) (h63 : x6 ≤ 2147483647) (h64 : -2147483648 ≤ x7) (h65 : x7 ≤ 2147483647) (h66 : -2147483648 ≤ x8) (h67 : x8 ≤ 2147483647) (h68 : -2147483648 ≤ x9) (h69 : x9 ≤ 2147483647) (h70 : -2147483648 ≤ x12) (h71 : x12 ≤ 2147483647) (h72 : -2147483648 ≤ x13) (h73 : x13 ≤ 2147483647) (h74 : -2147483648 ≤ x14) (h75 : x14 ≤ 2147483647) (h76 : -2147483648 ≤ x16) (h77 : x16 ≤ 2147483647) (h78 : -2147483648 ≤ x19) (h79 : x19 ≤ 2147483647) (h80 : -2147483648 ≤ x20) (h81 : x20 ≤ 2147483647) (h82 : -2147483648 ≤ x21) (h83 : x21 ≤ 2147483647) (h84 : -2147483648 ≤ x23) (h85 : x23 ≤ 2147483647) (h86 : -2147483648 ≤ x24) (h87 : x24 ≤ 2147483647) : x0 + x1 ≤ 2147483647 := by omega
theorem o32_123 {x0 x1 x2 x3 x4 x5 x6 x7 x8 x9 x10 x11 x12 x13 x14 x15 x16 x17 x18 x19 x20 x21 x22 x23 x24 x25 : Int} (h0 : 0 ≤ x1) (h1 : x1 ≤ 24) (h2 : 0 ≤ x2) (h3 : x2 ≤ 5) (h4 : 1 ≤ x2) (h5 : x3 = x1 % x2) (h6 : 0 ≤ x3) (h7 : x3 < x2) (h8 : x4 = 0) (h9 : x5 = x3 + x4) (h10 : 0 ≤ x6) (h11 : x6 ≤ 5) (h12 : x6 = x2) (h13 : 1 ≤ x6) (h14 : x7 = x1 / x6) (h15 : 0 ≤ x7) (h16 : x7 ≤ x1) (h17 : x8 = (-1)) (h18 : x9 = x7 + x8) (h19 : x10 = x5) (h20 : x11 = 0) (h21 : 0 ≤ x12) (h22 : x12 ≤ 5) (h23 : x12 = x2) (h24 : 1 ≤ x12) (h25 : x13 = 1) (h26 : x14 = x12 - x13) (h27 : x15 = x14) (h28 : 0 ≤ x16) (h29 : x16 ≤ 1) (h30 : ((x16 = 0 ∧ (x10 < x11 ∨ x15 < x10)) ∨ (x16 = 1 ∧ x11 ≤ x10 ∧ x10 ≤ x15))) (h31 : ¬ x16 = 0) (h32 : x17 = x9) (h33 : x18 = 0) (h34 : x19 = x20 - x21) (h35 : x22 = x19) (h36 : 0 ≤ x23) (h37 : x23 ≤ 1) (h38 : ((x23 = 0 ∧ (x17 < x18 ∨ x22 < x17)) ∨ (x23 = 1 ∧ x18 ≤ x17 ∧ x17 ≤ x22))) (h39 : ¬ x23 = 0) (h40 : 0 ≤ x24) (h41 : x24 ≤ 5) (h42 : x24 = x2) (h43 : 1 ≤ x24) (h44 : 1 * 0 ≤ x25) (h45 : x25 ≤ 5 * 4) (h46 : x0 = x25 + x5) : (-1) ≤ x0 := by omega
theorem o32_124 {x0 x1 x2 x3 x4 x5 x6 x7 x8 x9 x10 x11 x12 x13 x14 x15 x16 x17 x18 x19 x20 x21 x22 x23 x24 x25 : Int} (h0 : 0 ≤ x1) (h1 : x1 ≤ 24) (h2 : 0 ≤ x2) (h3 : x2 ≤ 5) (h4 : 1 ≤ x2) (h5 : x3 = x1 % x2) (h6 : 0 ≤ x3) (h7 : x3 < x2) (h8 : x4 = 0) (h9 : x5 = x3 + x4) (h10 : 0 ≤ x6) (h11 : x6 ≤ 5) (h12 : x6 = x2) (h13 : 1 ≤ x6) (h14 : x7 = x1 / x6) (h15 : 0 ≤ x7) (h16 : x7 ≤ x1) (h17 : x8 = (-1)) (h18 : x9 = x7 + x8) (h19 : x10 = x5) (h20 : x11 = 0) (h21 : 0 ≤ x12) (h22 : x12 ≤ 5) (h23 : x12 = x2) (h24 : 1 ≤ x12) (h25 : x13 = 1) (h26 : x14 = x12 - x13) (h27 : x15 = x14) (h28 : 0 ≤ x16) (h29 : x16 ≤ 1) (h30 : ((x16 = 0 ∧ (x10 < x11 ∨ x15 < x10)) ∨ (x16 = 1 ∧ x11 ≤ x10 ∧ x10 ≤ x15))) (h31 : ¬ x16 = 0) (h32 : x17 = x9) (h33 : x18 = 0) (h34 : x19 = x20 - x21) (h35 : x22 = x19) (h36 : 0 ≤ x23) (h37 : x23 ≤ 1) (h38 : ((x23 = 0 ∧ (x17 < x18 ∨ x22 < x17)) ∨ (x23 = 1 ∧ x18 ≤ x17 ∧ x17 ≤ x22))) (h39 : ¬ x23 = 0) (h40 : 0 ≤ x24) (h41 : x24 ≤ 5) (h42 : x24 = x2) (h43 : 1 ≤ x24) (h44 : 1 * 0 ≤ x25) (h45 : x25 ≤ 5 * 4) (h46 : x0 = x25 + x5) : x0 ≤ 24 := by omega
theorem o32_125 {x0 x1 x2 x3 x4 x5 x6 x7 x8 x9 x10 x11 x12 x13 x14 x15 x16 x17 x18 x19 x20 x21 x22 x23 x24 x25 : Int} (h0 : 0 ≤ x2) (h1 : x2 ≤ 24) (h2 : 0 ≤ x1) (h3 : x1 ≤ 5) (h4 : 1 ≤ x1) (h5 : x3 = x2 % x1) (h6 : 0 ≤ x3) (h7 : x3 < x1) (h8 : x4 = 0) (h9 : x5 = x3 + x4) (h10 : 0 ≤ x6) (h11 : x6 ≤ 5) (h12 : x6 = x1) (h13 : 1 ≤ x6) (h14 : x7 = x2 / x6) (h15 : 0 ≤ x7) (h16 : x7 ≤ x2) (h17 : x8 = (-1)) (h18 : x9 = x7 + x8) (h19 : x10 = x5) (h20 : x11 = 0) (h21 : 0 ≤ x12) (h22 : x12 ≤ 5) (h23 : x12 = x1) (h24 : 1 ≤ x12) (h25 : x13 = 1) (h26 : x14 = x12 - x13) (h27 : x15 = x14) (h28 : 0 ≤ x16) (h29 : x16 ≤ 1) (h30 : ((x16 = 0 ∧ (x10 < x11 ∨ x15 < x10)) ∨ (x16 = 1 ∧ x11 ≤ x10 ∧ x10 ≤ x15))) (h31 : ¬ x16 = 0) (h32 : x17 = x9) (h33 : x18 = 0) (h34 : 0 ≤ x19) (h35 : x19 ≤ 5) (h36 : 1 ≤ x19) (h37 : x20 = 1) (h38 : x21 = x19 - x20) (h39 : x22 = x21) (h40 : 0 ≤ x23) (h41 : x23 ≤ 1) (h42 : ((x23 = 0 ∧ (x17 < x18 ∨ x22 < x17)) ∨ (x23 = 1 ∧ x18 ≤ x17 ∧ x17 ≤ x22))) (h43 : ¬ x23 = 0) (h44 : 0 ≤ x0) (h45 : x0 ≤ 5) (h46 : x0 = x1) (h47 : 1 ≤ x0) (h48 : 1 * 0 ≤ x24) (h49 : x24 ≤ 5 * 4) (h50 : x25 = x24 + x5) : x0 = x1 := by omega
theorem o32_126 {x0 x1 x2 x3 x4 x5 x6 x7 x8 x9 x10 x11 x12 x13 x14 x15 x16 x17 x18 x19 x20 x21 x22 x23 x24 x25 : Int} (h0 : 0 ≤ x1) (h1 : x1 ≤ 24) (h2 : 0 ≤ x2) (h3 : x2 ≤ 5) (h4 : 1 ≤ x2) (h5 : x3 = x1 % x2) (h6 : 0 ≤ x3) (h7 : x3 < x2) (h8 : x4 = 0) (h9 : x5 = x3 + x4) (h10 : 0 ≤ x6) (h11 : x6 ≤ 5) (h12 : x6 = x2) (h13 : 1 ≤ x6) (h14 : x7 = x1 / x6) (h15 : 0 ≤ x7) (h16 : x7 ≤ x1) (h17 : x8 = (-1)) (h18 : x0 = x7 + x8) (h19 : x9 = x5) (h20 : x10 = 0) (h21 : 0 ≤ x11) (h22 : x11 ≤ 5) (h23 : x11 = x2) (h24 : 1 ≤ x11) (h25 : x12 = 1) (h26 : x13 = x11 - x12) (h27 : x14 = x13) (h28 : 0 ≤ x15) (h29 : x15 ≤ 1) (h30 : ((x15 = 0 ∧ (x9 < x10 ∨ x14 < x9)) ∨ (x15 = 1 ∧ x10 ≤ x9 ∧ x9 ≤ x14))) (h31 : ¬ x15 = 0) (h32 : x16 = x0) (h33 : x17 = 0) (h34 : 0 ≤ x18) (h35 : x18 ≤ 5) (h36 : 1 ≤ x18) (h37 : x19 = 1) (h38 : x20 = x18 - x19) (h39 : x21 = x20) (h40 : 0 ≤ x22) (h41 : x22 ≤ 1) (h42 : ((x22 = 0 ∧ (x16 < x17 ∨ x21 < x16)) ∨ (x22 = 1 ∧ x17 ≤ x16 ∧ x16 ≤ x21))) (h43 : ¬ x22 = 0) (h44 : 0 ≤ x23) (h45 : x23 ≤ 5) (h46 : x23 = x2) (h47 : 1 ≤ x23) (h48 : 1 * 0 ≤ x24) (h49 : x24 ≤ 5 * 4) (h50 : x25 = x24 + x5) : x0 = x0 := by omega
theorem o32_127 {x0 x1 x2 x3 x4 x5 x6 x7 x8 x9 x10 x11 x12 x13 x14 x15 x16 x17 x18 x19 x20 x21 x22 x23 x24 x25 : Int} (h0 : 0 ≤ x2) (h1 : x2 ≤ 24) (h2 : 0 ≤ x1) (h3 : x1 ≤ 5) (h4 : 1 ≤ x1) (h5 : x3 = x2 % x1) (h6 : 0 ≤ x3) (h7 : x3 < x1) (h8 : x4 = 0) (h9 : x5 = x3 + x4) (h10 : 0 ≤ x0) (h11 : x0 ≤ 5) (h12 : x0 = x1) (h13 : 1 ≤ x0) (h14 : x6 = x2 / x0) (h15 : 0 ≤ x6) (h16 : x6 ≤ x2) (h17 : x7 = (-1)) (h18 : x8 = x6 + x7) (h19 : x9 = x5) (h20 : x10 = 0) (h21 : 0 ≤ x11) (h22 : x11 ≤ 5) (h23 : x11 = x1) (h24 : 1 ≤ x11) (h25 : x12 = 1) (h26 : x13 = x11 - x12) (h27 : x14 = x13) (h28 : 0 ≤ x15) (h29 : x15 ≤ 1) (h30 : ((x15 = 0 ∧ (x9 < x10 ∨ x14 < x9)) ∨ (x15 = 1 ∧ x10 ≤ x9 ∧ x9 ≤ x14))) (h31 : ¬ x15 = 0) (h32 : x16 = x8) (h33 : x17 = 0) (h34 : 0 ≤ x18) (h35 : x18 ≤ 5) (h36 : 1 ≤ x18) (h37 : x19 = 1) (h38 : x20 = x18 - x19) (h39 : x21 = x20) (h40 : 0 ≤ x22) (h41 : x22 ≤ 1) (h42 : ((x22 = 0 ∧ (x16 < x17 ∨ x21 < x16)) ∨ (x22 = 1 ∧ x17 ≤ x16 ∧ x16 ≤ x21))) (h43 : ¬ x22 = 0) (h44 : 0 ≤ x23) (h45 : x23 ≤ 5) (h46 : x23 = x1) (h47 : 1 ≤ x23) (h48 : 1 * 0 ≤ x24) (h49 : x24 ≤ 5 * 4) (h50 : x25 = x24 + x5) : x0 = x1 := by omega
theorem o32_128 {x0 x1 x2 x3 x4 x5 x6 x7 : Int} (h0 : 0 ≤ x2) (h1 : x2 ≤ 24) (h2 : 0 ≤ x3) (h3 : x3 ≤ 5) (h4 : 1 ≤ x3) (h5 : x4 = x2 % x3) (h6 : 0 ≤ x4) (h7 : x4 < x3) (h8 : x5 = 0) (h9 : x6 = x4 + x5) (h10 : 0 ≤ x7) (h11 : x7 ≤ 5) (h12 : x7 = x3) (h13 : 1 ≤ x7) (h14 : x0 = x2 / x7) (h15 : 0 ≤ x0) (h16 : x0 ≤ x2) (h17 : x1 = 1) (h18 : -2147483648 ≤ x0) (h19 : x0 ≤ 2147483647) (h20 : -2147483648 ≤ x1) (h21 : x1 ≤ 2147483647) (h22 : -2147483648 ≤ x2) (h23 : x2 ≤ 2147483647) (h24 : -2147483648 ≤ x3) (h25 : x3 ≤ 2147483647) (h26 : -2147483648 ≤ x4) (h27 : x4 ≤ 2147483647) (h28 : -2147483648 ≤ x5) (h29 : x5 ≤ 2147483647) (h30 : -2147483648 ≤ x6) (h31 : x6 ≤ 2147483647) (h32 : -2147483648 ≤ x7) (h33 : x7 ≤ 2147483647) : -2147483648 ≤ x0 + x1 := by omega
theorem o32_129 {x0 x1 x2 x3 x4 x5 x6 x7 : Int} (h0 : 0 ≤ x2) (h1 : x2 ≤ 24) (h2 : 0 ≤ x3) (h3 : x3 ≤ 5) (h4 : 1 ≤ x3) (h5 : x4 = x2 % x3) (h6 : 0 ≤ x4) (h7 : x4 < x3) (h8 : x5 = 0) (h9 : x6 = x4 + x5) (h10 : 0 ≤ x7) (h11 : x7 ≤ 5) (h12 : x7 = x3) (h13 : 1 ≤ x7) (h14 : x0 = x2 / x7) (h15 : 0 ≤ x0) (h16 : x0 ≤ x2) (h17 : x1 = 1) (h18 : -2147483648 ≤ x0) (h19 : x0 ≤ 2147483647) (h20 : -2147483648 ≤ x1) (h21 : x1 ≤ 2147483647) (h22 : -2147483648 ≤ x2) (h23 : x2 ≤ 2147483647) (h24 : -2147483648 ≤ x3) (h25 : x3 ≤ 2147483647) (h26 : -2147483648 ≤ x4) (h27 : x4 ≤ 2147483647) (h28 : -2147483648 ≤ x5) (h29 : x5 ≤ 2147483647) (h30 : -2147483648 ≤ x6) (h31 : x6 ≤ 2147483647) (h32 : -2147483648 ≤ x7) (h33 : x7 ≤ 2147483647) : x0 + x1 ≤ 2147483647 := by omega
theorem o32_130 {x0 x1 x2 x3 x4 x5 x6 x7 x8 x9 x10 x11 : Int} (h0 : 0 ≤ x2) (h1 : x2 ≤ 24) (h2 : 0 ≤ x3) (h3 : x3 ≤ 5) (h4 : 1 ≤ x3) (h5 : x4 = x2 % x3) (h6 : 0 ≤ x4) (h7 : x4 < x3) (h8 : x5 = 0) (h9 : x6 = x4 + x5) (h10 : 0 ≤ x7) (h11 : x7 ≤ 5) (h12 : x7 = x3) (h13 : 1 ≤ x7) (h14 : x8 = x2 / x7) (h15 : 0 ≤ x8) (h16 : x8 ≤ x2) (h17 : x9 = 1) (h18 : x10 = x8 + x9) (h19 : x11 = x6) (h20 : 0 ≤ x0) (h21 : x0 ≤ 5) (h22 : x0 = x3) (h23 : 1 ≤ x0) (h24 : x1 = 1) (h25 : -2147483648 ≤ x0) (h26 : x0 ≤ 2147483647) (h27 : -2147483648 ≤ x1) (h28 : x1 ≤ 2147483647) (h29 : -2147483648 ≤ x2) (h30 : x2 ≤ 2147483647) (h31 : -2147483648 ≤ x3) (h32 : x3 ≤ 2147483647) (h33 : -2147483648 ≤ x4) (h34 : x4 ≤ 2147483647) (h35 : -2147483648 ≤ x5) (h36 : x5 ≤ 2147483647) (h37 : -2147483648 ≤ x6) (h38 : x6 ≤ 2147483647) (h39 : -2147483648 ≤ x7) (h40 : x7 ≤ 2147483647) (h41 : -2147483648 ≤ x8) (h42 : x8 ≤ 2147483647) (h43 : -2147483648 ≤ x9) (h44 : x9 ≤ 2147483647) (h45 : -2147483648 ≤ x10) (h46 : x10 ≤ 2147483647) : -2147483648 ≤ x0 - x1 := by omega
theorem o32_131 {x0 x1 x2 x3 x4 x5 x6 x7 x8 x9 x10 x11 : Int} (h0 : 0 ≤ x2) (h1 : x2 ≤ 24) (h2 : 0 ≤ x3) (h3 : x3 ≤ 5) (h4 : 1 ≤ x3) (h5 : x4 = x2 % x3) (h6 : 0 ≤ x4) (h7 : x4 < x3) (h8 : x5 = 0) (h9 : x6 = x4 + x5) (h10 : 0 ≤ x7) (h11 : x7 ≤ 5) (h12 : x7 = x3) (h13 : 1 ≤ x7) (h14 : x8 = x2 / x7) (h15 : 0 ≤ x8) (h16 : x8 ≤ x2) (h17 : x9 = 1) (h18 : x10 = x8 + x9) (h19 : x11 = x6) (h20 : 0 ≤ x0) (h21 : x0 ≤ 5) (h22 : x0 = x3) (h23 : 1 ≤ x0) (h24 : x1 = 1) (h25 : -2147483648 ≤ x0) (h26 : x0 ≤ 2147483647) (h27 : -2147483648 ≤ x1) (h28 : x1 ≤ 2147483647) (h29 : -2147483648 ≤ x2) (h30 : x2 ≤ 2147483647) (h31 : -2147483648 ≤ x3) (h32 : x3 ≤ 2147483647) (h33 : -2147483648 ≤ x4) (h34 : x4 ≤ 2147483647) (h35 : -2147483648 ≤ x5) (h36 : x5 ≤ 2147483647) (h37 : -2147483648 ≤ x6) (h38 : x6 ≤ 2147483647) (h39 : -2147483648 ≤ x7) (h40 : x7 ≤ 2147483647) (h41 : -2147483648 ≤ x8) (h42 : x8 ≤ 2147483647) (h43 : -2147483648 ≤ x9) (h44 : x9 ≤ 2147483647) (h45 : -2147483648 ≤ x10) (h46 : x10 ≤ 2147483647) : x0 - x1 ≤ 2147483647 := by omega
theorem o32_132 {x0 x1 x2 x3 x4 x5 x6 x7 x8 x9 x10 x11 x12 x13 x14 x15 : Int} (h0 : 0 ≤ x2) (h1 : x2 ≤ 24) (h2 : 0 ≤ x1) (h3 : x1 ≤ 5) (h4 : 1 ≤ x1) (h5 : x3 = x2 % x1) (h6 : 0 ≤ x3) (h7 : x3 < x1) (h8 : x4 = 0) (h9 : x5 = x3 + x4) (h10 : 0 ≤ x0) (h11 : x0 ≤ 5) (h12 : x0 = x1) (h13 : 1 ≤ x0) (h14 : x6 = x2 / x0) (h15 : 0 ≤ x6) (h16 : x6 ≤ x2) (h17 : x7 = 1) (h18 : x8 = x6 + x7) (h19 : x9 = x5) (h20 : x10 = 0) (h21 : 0 ≤ x11) (h22 : x11 ≤ 5) (h23 : x11 = x1) (h24 : 1 ≤ x11) (h25 : x12 = 1) (h26 : x13 = x11 - x12) (h27 : x14 = x13) (h28 : 0 ≤ x15) (h29 : x15 ≤ 1) (h30 : ((x15 = 0 ∧ (x9 < x10 ∨ x14 < x9)) ∨ (x15 = 1 ∧ x10 ≤ x9 ∧ x9 ≤ x14))) (h31 : x15 = 0) : x0 = x1 := by omega
theorem o32_133 {x0 x1 x2 x3 x4 x5 x6 x7 x8 x9 x10 x11 x12 x13 x14 x15 x16 x17 x18 x19 x20 x21 x22 : Int} (h0 : 0 ≤ x2) (h1 : x2 ≤ 24) (h2 : 0 ≤ x1) (h3 : x1 ≤ 5) (h4 : 1 ≤ x1) (h5 : x3 = x2 % x1) (h6 : 0 ≤ x3) (h7 : x3 < x1) (h8 : x4 = 0) (h9 : x5 = x3 + x4) (h10 : 0 ≤ x0) (h11 : x0 ≤ 5) (h12 : x0 = x1) (h13 : 1 ≤ x0) (h14 : x6 = x2 / x0) (h15 : 0 ≤ x6) (h16 : x6 ≤ x2) (h17 : x7 = 1) (h18 : x8 = x6 + x7) (h19 : x9 = x5) (h20 : x10 = 0) (h21 : 0 ≤ x11) (h22 : x11 ≤ 5) (h23 : x11 = x1) (h24 : 1 ≤ x11) (h25 : x12 = 1) (h26 : x13 = x11 - x12) (h27 : x14 = x13) (h28 : 0 ≤ x15) (h29 : x15 ≤ 1) (h30 : ((x15 = 0 ∧ (x9 < x10 ∨ x14 < x9)) ∨ (x15 = 1 ∧ x10 ≤ x9 ∧ x9 ≤ x14))) (h31 : ¬ x15 = 0) (h32 : x16 = x8) (h33 : x17 = 0) (h34 : 0 ≤ x18) (h35 : x18 ≤ 5) (h36 : 1 ≤ x18) (h37 : x19 = 1) (h38 : x20 = x18 - x19) (h39 : x21 = x20) (h40 : 0 ≤ x22) (h41 : x22 ≤ 1) (h42 : ((x22 = 0 ∧ (x16 < x17 ∨ x21 < x16)) ∨ (x22 = 1 ∧ x17 ≤ x16 ∧ x16 ≤ x21))) (h43 : x22 = 0) : x0 = x1 := by omega
theorem o32_134 {x0 x1 x2 x3 x4 x5 x6 x7 x8 x9 x10 x11 x12 x13 x14 x15 x16 x17 x18 x19 x20 x21 x22 x23 : Int} (h0 : 0 ≤ x1) (h1 : x1 ≤ 24) (h2 : 0 ≤ x2) (h3 : x2 ≤ 5) (h4 : 1 ≤ x2) (h5 : x3 = x1 % x2) (h6 : 0 ≤ x3) (h7 : x3 < x2) (h8 : x4 = 0) (h9 : x5 = x3 + x4) (h10 : 0 ≤ x6) (h11 : x6 ≤ 5) (h12 : x6 = x2) (h13 : 1 ≤ x6) (h14 : x7 = x1 / x6) (h15 : 0 ≤ x7) (h16 : x7 ≤ x1) (h17 : x8 = 1) (h18 : x9 = x7 + x8) (h19 : x10 = x5) (h20 : x11 = 0) (h21 : 0 ≤ x12) (h22 : x12 ≤ 5) (h23 : x12 = x2) (h24 : 1 ≤ x12) (h25 : x13 = 1) (h26 : x14 = x12 - x13) (h27 : x15 = x14) (h28 : 0 ≤ x16) (h29 : x16 ≤ 1) (h30 : ((x16 = 0 ∧ (x10 < x11 ∨ x15 < x10)) ∨ (x16 = 1 ∧ x11 ≤ x10 ∧ x10 ≤ x15))) (h31 : ¬ x16 = 0) (h32 : x17 = x9) (h33 : x18 = 0) (h34 : 0 ≤ x19) (h35 : x19 ≤ 5) (h36 : 1 ≤ x19) (h37 : x20 = 1) (h38 : x21 = x19 - x20) (h39 : x22 = x21) (h40 : 0 ≤ x23) (h41 : x23 ≤ 1) (h42 : ((x23 = 0 ∧ (x17 < x18 ∨ x22 < x17)) ∨ (x23 = 1 ∧ x18 ≤ x17 ∧ x17 ≤ x22))) (h43 : ¬ x23 = 0) (h44 : 0 ≤ x0) (h45 : x0 ≤ 5) (h46 : x0 = x2) (h47 : 1 ≤ x0) : 1 ≤ x0 := by omega
theorem o32_135 {x0 x1 x2 x3 x4 x5 x6 x7 x8 x9 x10 x11 x12 x13 x14 x15 x16 x17 x18 x19 x20 x21 x22 x23 : Int} (h0 : 0 ≤ x1) (h1 : x1 ≤ 24) (h2 : 0 ≤ x2) (h3 : x2 ≤ 5) (h4 : 1 ≤ x2) (h5 : x3 = x1 % x2) (h6 : 0 ≤ x3) (h7 : x3 < x2) (h8 : x4 = 0) (h9 : x5 = x3 + x4) (h10 : 0 ≤ x6) (h11 : x6 ≤ 5) (h12 : x6 = x2) (h13 : 1 ≤ x6) (h14 : x7 = x1 / x6) (h15 : 0 ≤ x7) (h16 : x7 ≤ x1) (h17 : x8 = 1) (h18 : x9 = x7 + x8) (h19 : x10 = x5) (h20 : x11 = 0) (h21 : 0 ≤ x12) (h22 : x12 ≤ 5) (h23 : x12 = x2) (h24 : 1 ≤ x12) (h25 : x13 = 1) (h26 : x14 = x12 - x13) (h27 : x15 = x14) (h28 : 0 ≤ x16) (h29 : x16 ≤ 1) (h30 : ((x16 = 0 ∧ (x10 < x11 ∨ x15 < x10)) ∨ (x16 = 1 ∧ x11 ≤ x10 ∧ x10 ≤ x15))) (h31 : ¬ x16 = 0) (h32 : x17 = x9) (h33 : x18 = 0) (h34 : 0 ≤ x19) (h35 : x19 ≤ 5) (h36 : 1 ≤ x19) (h37 : x20 = 1) (h38 : x21 = x19 - x20) (h39 : x22 = x21) (h40 : 0 ≤ x23) (h41 : x23 ≤ 1) (h42 : ((x23 = 0 ∧ (x17 < x18 ∨ x22 < x17)) ∨ (x23 = 1 ∧ x18 ≤ x17 ∧ x17 ≤ x22))) (h43 : ¬ x23 = 0) (h44 : 0 ≤ x0) (h45 : x0 ≤ 5) (h46 : x0 = x2) (h47 : 1 ≤ x0) : x0 ≤ 5 := by omega
theorem o32_136 {x0 x1 x2 x3 x4 x5 x6 x7 x8 x9 x10 x11 x12 x13 x14 x15 x16 x17 x18 x19 x20 x21 x22 x23 : Int} (h0 : 0 ≤ x1) (h1 : x1 ≤ 24) (h2 : 0 ≤ x2) (h3 : x2 ≤ 5) (h4 : 1 ≤ x2) (h5 : x3 = x1 % x2) (h6 : 0 ≤ x3) (h7 : x3 < x2) (h8 : x4 = 0) (h9 : x5 = x3 + x4) (h10 : 0 ≤ x6) (h11 : x6 ≤ 5) (h12 : x6 = x2) (h13 : 1 ≤ x6) (h14 : x7 = x1 / x6) (h15 : 0 ≤ x7) (h16 : x7 ≤ x1) (h17 : x8 = 1) (h18 : x0 = x7 + x8) (h19 : x9 = x5) (h20 : x10 = 0) (h21 : 0 ≤ x11) (h22 : x11 ≤ 5) (h23 : x11 = x2) (h24 : 1 ≤ x11) (h25 : x12 = 1) (h26 : x13 = x11 - x12) (h27 : x14 = x13) (h28 : 0 ≤ x15) (h29 : x15 ≤ 1) (h30 : ((x15 = 0 ∧ (x9 < x10 ∨ x14 < x9)) ∨ (x15 = 1 ∧ x10 ≤ x9 ∧ x9 ≤ x14))) (h31 : ¬ x15 = 0) (h32 : x16 = x0) (h33 : x17 = 0) (h34 : 0 ≤ x18) (h35 : x18 ≤ 5) (h36 : 1 ≤ x18) (h37 : x19 = 1) (h38 : x20 = x18 - x19) (h39 : x21 = x20) (h40 : 0 ≤ x22) (h41 : x22 ≤ 1) (h42 : ((x22 = 0 ∧ (x16 < x17 ∨ x21 < x16)) ∨ (x22 = 1 ∧ x17 ≤ x16 ∧ x16 ≤ x21))) (h43 : ¬ x22 = 0) (h44 : 0 ≤ x23) (h45 : x23 ≤ 5) (h46 : x23 = x2) (h47 : 1 ≤ x23) : 1 ≤ x0 := by omega
theorem o32_137 {x0 x1 x2 x3 x4 x5 x6 x7 x8 x9 x10 x11 x12 x13 x14 x15 x16 x17 x18 x19 x20 x21 x22 x23 : Int} (h0 : 0 ≤ x1) (h1 : x1 ≤ 24) (h2 : 0 ≤ x2) (h3 : x2 ≤ 5) (h4 : 1 ≤ x2) (h5 : x3 = x1 % x2) (h6 : 0 ≤ x3) (h7 : x3 < x2) (h8 : x4 = 0) (h9 : x5 = x3 + x4) (h10 : 0 ≤ x6) (h11 : x6 ≤ 5) (h12 : x6 = x2) (h13 : 1 ≤ x6) (h14 : x7 = x1 / x6) (h15 : 0 ≤ x7) (h16 : x7 ≤ x1) (h17 : x8 = 1) (h18 : x0 = x7 + x8) (h19 : x9 = x5) (h20 : x10 = 0) (h21 : 0 ≤ x11) (h22 : x11 ≤ 5) (h23 : x11 = x2) (h24 : 1 ≤ x11) (h25 : x12 = 1) (h26 : x13 = x11 - x12) (h27 : x14 = x13) (h28 : 0 ≤ x15) (h29 : x15 ≤ 1) (h30 : ((x15 = 0 ∧ (x9 < x10 ∨ x14 < x9)) ∨ (x15 = 1 ∧ x10 ≤ x9 ∧ x9 ≤ x14))) (h31 : ¬ x15 = 0) (h32 : x16 = x0) (h33 : x17 = 0) (h34 : 0 ≤ x18) (h35 : x18 ≤ 5) (h36 : 1 ≤ x18) (h37 : x19 = 1) (h38 : x20 = x18 - x19) (h39 : x21 = x20) (h40 : 0 ≤ x22) (h41 : x22 ≤ 1) (h42 : ((x22 = 0 ∧ (x16 < x17 ∨ x21 < x16)) ∨ (x22 = 1 ∧ x17 ≤ x16 ∧ x16 ≤ x21))) (h43 : ¬ x22 = 0) (h44 : 0 ≤ x23) (h45 : x23 ≤ 5) (h46 : x23 = x2) (h47 : 1 ≤ x23) : x0 ≤ 4 := by omega
theorem o32_138 {x0 x1 x2 x3 x4 x5 x6 x7 x8 x9 x10 x11 x12 x13 x14 x15 x16 x17 x18 x19 x20 x21 x22 x23 x24 : Int} (h0 : 0 ≤ x2) (h1 : x2 ≤ 24) (h2 : 0 ≤ x3) (h3 : x3 ≤ 5) (h4 : 1 ≤ x3) (h5 : x4 = x2 % x3) (h6 : 0 ≤ x4) (h7 : x4 < x3) (h8 : x5 = 0) (h9 : x1 = x4 + x5) (h10 : 0 ≤ x6) (h11 : x6 ≤ 5) (h12 : x6 = x3) (h13 : 1 ≤ x6) (h14 : x7 = x2 / x6) (h15 : 0 ≤ x7) (h16 : x7 ≤ x2) (h17 : x8 = 1) (h18 : x9 = x7 + x8) (h19 : x10 = x1) (h20 : x11 = 0) (h21 : 0 ≤ x12) (h22 : x12 ≤ 5) (h23 : x12 = x3) (h24 : 1 ≤ x12) (h25 : x13 = 1) (h26 : x14 = x12 - x13) (h27 : x15 = x14) (h28 : 0 ≤ x16) (h29 : x16 ≤ 1) (h30 : ((x16 = 0 ∧ (x10 < x11 ∨ x15 < x10)) ∨ (x16 = 1 ∧ x11 ≤ x10 ∧ x10 ≤ x15))) (h31 : ¬ x16 = 0) (h32 : x17 = x9) (h33 : x18 = 0) (h34 : 0 ≤ x19) (h35 : x19 ≤ 5) (h36 : 1 ≤ x19) (h37 : x20 = 1) (h38 : x21 = x19 - x20) (h39 : x22 = x21) (h40 : 0 ≤ x23) (h41 : x23 ≤ 1) (h42 : ((x23 = 0 ∧ (x17 < x18 ∨ x22 < x17)) ∨ (x23 = 1 ∧ x18 ≤ x17 ∧ x17 ≤ x22))) (h43 : ¬ x23 = 0) (h44 : 0 ≤ x24) (h45 : x24 ≤ 5) (h46 : x24 = x3) (h47 : 1 ≤ x24) (h48 : 1 * 1 ≤ x0) (h49 : x0 ≤ 5 * 4) (h50 : -2147483648 ≤ x0) (h51 : x0 ≤ 2147483647) (h52 : -2147483648 ≤ x1) (h53 : x1 ≤ 2147483647) (h54 : -2147483648 ≤ x2) (h55 : x2 ≤ 2147483647) (h56 : -2147483648 ≤ x3) (h57 : x3 ≤ 2147483647) (h58 : -2147483648 ≤ x4) (h59 : x4 ≤ 2147483647) (h60 : -2147483648 ≤ x5) (h61 : x5 ≤ 2147483647) (h62 : -2147483648 ≤ x6) (h63 : x6 ≤ 2147483647) (h64 : -2147483648 ≤ x7) (h65 : x7 ≤ 2147483647) (h66 : -2147483648 ≤ x8) (h67 : x8 ≤ 2147483647) (h68 : -2147483648 ≤ x9) (h69 : x9 ≤ 2147483647) (h70 : -2147483648 ≤ x12) (h71 : x12 ≤ 2147483647) (h72 : -2147483648 ≤ x13) (h73 : x13 ≤ 2147483647) (h74 : -2147483648 ≤ x14) (h75 : x14 ≤ 2147483647) (h76 : -2147483648 ≤ x16) (h77 : x16 ≤ 2147483647) (h78 : -2147483648 ≤ x19) (h79 : x19 ≤ 2147483647) (h80 : -2147483648 ≤ x20) (h81 : x20 ≤ 2147483647) (h82 : -2147483648 ≤ x21) (h83 : x21 ≤ 2147483647) (h84 : -2147483648 ≤ x23) (h85 : x23 ≤ 2147483647) (h86 : -2147483648 ≤ x24) (h87 : x24 ≤ 2147483647) : -2147483648 ≤ x0 + x1 := by omega
theorem o32_139 {x0 x1 x2 x3 x4 x5 x6 x7 x8 x9 x10 x11 x12 x13 x14 x15 x16 x17 x18 x19 x20 x21 x22 x23 x24 : Int} (h0 : 0 ≤ x2) (h1 : x2 ≤ 24) (h2 : 0 ≤ x3) (h3 : x3 ≤ 5) (h4 : 1 ≤ x3) (h5 : x4 = x2 % x3) (h6 : 0 ≤ x4) (h7 : x4 < x3) (h8 : x5 = 0) (h9 : x1 = x4 + x5) (h10 : 0 ≤ x6) (h11 : x6 ≤ 5) (h12 : x6 = x3) (h13 : 1 ≤ x6) (h14 : x7 = x2 / x6) (h15 : 0 ≤ x7) (h16 : x7 ≤ x2) (h17 : x8 = 1) (h18 : x9 = x7 + x8) (h19 : x10 = x1) (h20 : x11 = 0) (h21 : 0 ≤ x12) (h22 : x12 ≤ 5) (h23 : x12 = x3) (h24 : 1 ≤ x12) (h25 : x13 = 1) (h26 : x14 = x12 - x13) (h27 : x15 = x14) (h28 : 0 ≤ x16) (h29 : x16 ≤ 1) (h30 : ((x16 = 0 ∧ (x10 < x11 ∨ x15 < x10)) ∨ (x16 = 1 ∧ x11 ≤ x10 ∧ x10 ≤ x15))) (h31 : ¬ x16 = 0) (h32 : x17 = x9) (h33 : x18 = 0) (h34 : 0 ≤ x19) (h35 : x19 ≤ 5) (h36 : 1 ≤ x19) (h37 : x20 = 1) (h38 : x21 = x19 - x20) (h39 : x22 = x21) (h40 : 0 ≤ x23) (h41 : x23 ≤ 1) (h42 : ((x23 = 0 ∧ (x17 < x18 ∨ x22 < x17)) ∨ (x23 = 1 ∧ x18 ≤ x17 ∧ x17 ≤ x22))) (h43 : ¬ x23 = 0) (h44 : 0 ≤ x24) (h45 : x24 ≤ 5) (h46 : x24 = x3) (h47 : 1 ≤ x24) (h48 : 1 * 1 ≤ x0) (h49 : x0 ≤ 5 * 4) (h50 : -2147483648 ≤ x0) (h51 : x0 ≤ 2147483647) (h52 : -2147483648 ≤ x1) (h53 : x1 ≤ 2147483647) (h54 : -2147483648 ≤ x2) (h55 : x2 ≤ 2147483647) (h56 : -2147483648 ≤ x3) (h57 : x3 ≤ 2147483647) (h58 : -2147483648 ≤ x4) (h59 : x4 ≤ 2147483647) (h60 : -2147483648 ≤ x5) (h61 : x5 ≤ 2147483647) (h62 : -2147483648 ≤ x6) (h63 : x6 ≤ 2147483647) (h64 : -2147483648 ≤ x7) (h65 : x7 ≤ 2147483647) (h66 : -2147483648 ≤ x8) (h67 : x8 ≤ 2147483647) (h68 : -2147483648 ≤ x9) (h69 : x9 ≤ 2147483647) (h70 : -2147483648 ≤ x12) (h71 : x12 ≤ 2147483647) (h72 : -2147483648 ≤ x13) (h73 : x13 ≤ 2147483647) (h74 : -2147483648 ≤ x14) (h75 : x14 ≤ 2147483647) (h76 : -2147483648 ≤ x16) (h77 : x16 ≤ 2147483647) (h78 : -2147483648 ≤ x19) (h79 : x19 ≤ 2147483647) (h80 : -2147483648 ≤ x20) (h81 : x20 ≤ 2147483647) (h82 : -2147483648 ≤ x21) (h83 : x21 ≤ 2147483647) (h84 : -2147483648 ≤ x23) (h85 : x23 ≤ 2147483647) (h86 : -2147483648 ≤ x24) (h87 : x24 ≤ 2147483647) : x0 + x1 ≤ 2147483647 := by omega
theorem o32_140 {x0 x1 x2 x3 x4 x5 x6 x7 x8 x9 x10 x11 x12 x13 x14 x15 x16 x17 x18 x19 x20 x21 x22 x23 x24 x25 : Int} (h0 : 0 ≤ x1) (h1 : x1 ≤ 24) (h2 : 0 ≤ x2) (h3 : x2 ≤ 5) (h4 : 1 ≤ x2) (h5 : x3 = x1 % x2) (h6 : 0 ≤ x3) (h7 : x3 < x2) (h8 : x4 = 0) (h9 : x5 = x3 + x4) (h10 : 0 ≤ x6) (h11 : x6 ≤ 5) (h12 : x6 = x2) (h13 : 1 ≤ x6) (h14 : x7 = x1 / x6) (h15 : 0 ≤ x7) (h16 : x7 ≤ x1) (h17 : x8 = 1) (h18 : x9 = x7 + x8) (h19 : x10 = x5) (h20 : x11 = 0) (h21 : 0 ≤ x12) (h22 : x12 ≤ 5) (h23 : x12 = x2) (h24 : 1 ≤ x12) (h25 : x13 = 1) (h26 : x14 = x12 - x13) (h27 : x15 = x14) (h28 : 0 ≤ x16) (h29 : x16 ≤ 1) (h30 : ((x16 = 0 ∧ (x10 < x11 ∨ x15 < x10)) ∨ (x16 = 1 ∧ x11 ≤ x10 ∧ x10 ≤ x15))) (h31 : ¬ x16 = 0) (h32 : x17 = x9) (h33 : x18 = 0) (h34 : x19 = x20 - x21) (h35 : x22 = x19) (h36 : 0 ≤ x23) (h37 : x23 ≤ 1) (h38 : ((x23 = 0 ∧ (x17 < x18 ∨ x22 < x17)) ∨ (x23 = 1 ∧ x18 ≤ x17 ∧ x17 ≤ x22))) (h39 : ¬ x23 = 0) (h40 : 0 ≤ x24) (h41 : x24 ≤ 5) (h42 : x24 = x2) (h43 : 1 ≤ x24) (h44 : 1 * 1 ≤ x25) (h45 : x25 ≤ 5 * 4) (h46 : x0 = x25 + x5) : (-1) ≤ x0 := by omega
theorem o32_141 {x0 x1 x2 x3 x4 x5 x6 x7 x8 x9 x10 x11 x12 x13 x14 x15 x16 x17 x18 x19 x20 x21 x22 x23 x24 x25 : Int} (h0 : 0 ≤ x1) (h1 : x1 ≤ 24) (h2 : 0 ≤ x2) (h3 : x2 ≤ 5) (h4 : 1 ≤ x2) (h5 : x3 = x1 % x2) (h6 : 0 ≤ x3) (h7 : x3 < x2) (h8 : x4 = 0) (h9 : x5 = x3 + x4) (h10 : 0 ≤ x6) (h11 : x6 ≤ 5) (h12 : x6 = x2) (h13 : 1 ≤ x6) (h14 : x7 = x1 / x6) (h15 : 0 ≤ x7) (h16 : x7 ≤ x1) (h17 : x8 = 1) (h18 : x9 = x7 + x8) (h19 : x10 = x5) (h20 : x11 = 0) (h21 : 0 ≤ x12) (h22 : x12 ≤ 5) (h23 : x12 = x2) (h24 : 1 ≤ x12) (h25 : x13 = 1) (h26 : x14 = x12 - x13) (h27 : x15 = x14) (h28 : 0 ≤ x16) (h29 : x16 ≤ 1) (h30 : ((x16 = 0 ∧ (x10 < x11 ∨ x15 < x10)) ∨ (x16 = 1 ∧ x11 ≤ x10 ∧ x10 ≤ x15))) (h31 : ¬ x16 = 0) (h32 : x17 = x9) (h33 : x18 = 0) (h34 : x19 = x20 - x21) (h35 : x22 = x19) (h36 : 0 ≤ x23) (h37 : x23 ≤ 1) (h38 : ((x23 = 0 ∧ (x17 < x18 ∨ x22 < x17)) ∨ (x23 = 1 ∧ x18 ≤ x17 ∧ x17 ≤ x22))) (h39 : ¬ x23 = 0) (h40 : 0 ≤ x24) (h41 : x24 ≤ 5) (h42 : x24 = x2) (h43 : 1 ≤ x24) (h44 : 1 * 1 ≤ x25) (h45 : x25 ≤ 5 * 4) (h46 : x0 = x25 + x5) : x0 ≤ 24 := by omega
theorem o32_142 {x0 x1 x2 x3 x4 x5 x6 x7 x8 x9 x10 x11 x12 x13 x14 x15 x16 x17 x18 x19 x20 x21 x22 x23 x24 x25 : Int} (h0 : 0 ≤ x2) (h1 : x2 ≤ 24) (h2 : 0 ≤ x1) (h3 : x1 ≤ 5) (h4 : 1 ≤ x1) (h5 : x3 = x2 % x1) (h6 : 0 ≤ x3) (h7 : x3 < x1) (h8 : x4 = 0) (h9 : x5 = x3 + x4) (h10 : 0 ≤ x6) (h11 : x6 ≤ 5) (h12 : x6 = x1) (h13 : 1 ≤ x6) (h14 : x7 = x2 / x6) (h15 : 0 ≤ x7) (h16 : x7 ≤ x2) (h17 : x8 = 1) (h18 : x9 = x7 + x8) (h19 : x10 = x5) (h20 : x11 = 0) (h21 : 0 ≤ x12) (h22 : x12 ≤ 5) (h23 : x12 = x1) (h24 : 1 ≤ x12) (h25 : x13 = 1) (h26 : x14 = x12 - x13) (h27 : x15 = x14) (h28 : 0 ≤ x16) (h29 : x16 ≤ 1) (h30 : ((x16 = 0 ∧ (x10 < x11 ∨ x15 < x10)) ∨ (x16 = 1 ∧ x11 ≤ x10 ∧ x10 ≤ x15))) (h31 : ¬ x16 = 0) (h32 : x17 = x9) (h33 : x18 = 0) (h34 : 0 ≤ x19) (h35 : x19 ≤ 5) (h36 : 1 ≤ x19) (h37 : x20 = 1) (h38 : x21 = x19 - x20) (h39 : x22 = x21) (h40 : 0 ≤ x23) (h41 : x23 ≤ 1) (h42 : ((x23 = 0 ∧ (x17 < x18 ∨ x22 < x17)) ∨ (x23 = 1 ∧ x18 ≤ x17 ∧ x17 ≤ x22))) (h43 : ¬ x23 = 0) (h44 : 0 ≤ x0) (h45 : x0 ≤ 5) (h46 : x0 = x1) (h47 : 1 ≤ x0) (h48 : 1 * 1 ≤ x24) (h49 : x24 ≤ 5 * 4) (h50 : x25 = x24 + x5) : x0 = x1 := by omega
theorem o32_143 {x0 x1 x2 x3 x4 x5 x6 x7 x8 x9 x10 x11 x12 x13 x14 x15 x16 x17 x18 x19 x20 x21 x22 x23 x24 x25 : Int} (h0 : 0 ≤ x1) (h1 : x1 ≤ 24) (h2 : 0 ≤ x2) (h3 : x2 ≤ 5) (h4 : 1 ≤ x2) (h5 : x3 = x1 % x2) (h6 : 0 ≤ x3) (h7 : x3 < x2) (h8 : x4 = 0) (h9 : x5 = x3 + x4) (h10 : 0 ≤ x6) (h11 : x6 ≤ 5) (h12 : x6 = x2) (h13 : 1 ≤ x6) (h14 : x7 = x1 / x6) (h15 : 0 ≤ x7) (h16 : x7 ≤ x1) (h17 : x8 = 1) (h18 : x0 = x7 + x8) (h19 : x9 = x5) (h20 : x10 = 0) (h21 : 0 ≤ x11) (h22 : x11 ≤ 5) (h23 : x11 = x2) (h24 : 1 ≤ x11) (h25 : x12 = 1) (h26 : x13 = x11 - x12) (h27 : x14 = x13) (h28 : 0 ≤ x15) (h29 : x15 ≤ 1) (h30 : ((x15 = 0 ∧ (x9 < x10 ∨ x14 < x9)) ∨ (x15 = 1 ∧ x10 ≤ x9 ∧ x9 ≤ x14))) (h31 : ¬ x15 = 0) (h32 : x16 = x0) (h33 : x17 = 0) (h34 : 0 ≤ x18) (h35 : x18 ≤ 5) (h36 : 1 ≤ x18) (h37 : x19 = 1) (h38 : x20 = x18 - x19) (h39 : x21 = x20) (h40 : 0 ≤ x22) (h41 : x22 ≤ 1) (h42 : ((x22 = 0 ∧ (x16 < x17 ∨ x21 < x16)) ∨ (x22 = 1 ∧ x17 ≤ x16 ∧ x16 ≤ x21))) (h43 : ¬ x22 = 0) (h44 : 0 ≤ x23) (h45 : x23 ≤ 5) (h46 : x23 = x2) (h47 : 1 ≤ x23) (h48 : 1 * 1 ≤ x24) (h49 : x24 ≤ 5 * 4) (h50 : x25 = x24 + x5) : x0 = x0 := by omega
theorem o32_144 {x0 x1 x2 x3 x4 x5 x6 x7 x8 x9 x10 x11 x12 x13 x14 x15 x16 x17 x18 x19 x20 x21 x22 x23 x24 x25 : Int} (h0 : 0 ≤ x2) (h1 : x2 ≤ 24) (h2 : 0 ≤ x1) (h3 : x1 ≤ 5) (h4 : 1 ≤ x1) (h5 : x3 = x2 % x1) (h6 : 0 ≤ x3) (h7 : x3 < x1) (h8 : x4 = 0) (h9 : x5 = x3 + x4) (h10 : 0 ≤ x0) (h11 : x0 ≤ 5) (h12 : x0 = x1) (h13 : 1 ≤ x0) (h14 : x6 = x2 / x0) (h15 : 0 ≤ x6) (h16 : x6 ≤ x2) (h17 : x7 = 1) (h18 : x8 = x6 + x7) (h19 : x9 = x5) (h20 : x10 = 0) (h21 : 0 ≤ x11) (h22 : x11 ≤ 5) (h23 : x11 = x1) (h24 : 1 ≤ x11) (h25 : x12 = 1) (h26 : x13 = x11 - x12) (h27 : x14 = x13) (h28 : 0 ≤ x15) (h29 : x15 ≤ 1) (h30 : ((x15 = 0 ∧ (x9 < x10 ∨ x14 < x9)) ∨ (x15 = 1 ∧ x10 ≤ x9 ∧ x9 ≤ x14))) (h31 : ¬ x15 = 0) (h32 : x16 = x8) (h33 : x17 = 0) (h34 : 0 ≤ x18) (h35 : x18 ≤ 5) (h36 : 1 ≤ x18) (h37 : x19 = 1) (h38 : x20 = x18 - x19) (h39 : x21 = x20) (h40 : 0 ≤ x22) (h41 : x22 ≤ 1) (h42 : ((x22 = 0 ∧ (x16 < x17 ∨ x21 < x16)) ∨ (x22 = 1 ∧ x17 ≤ x16 ∧ x16 ≤ x21))) (h43 : ¬ x22 = 0) (h44 : 0 ≤ x23) (h45 : x23 ≤ 5) (h46 : x23 = x1) (h47 : 1 ≤ x23) (h48 : 1 * 1 ≤ x24) (h49 : x24 ≤ 5 * 4) (h50 : x25 = x24 + x5) : x0 = x1 := by omega
theorem o32_145 {x0 x1 x2 x3 : Int} (h0 : 0 ≤ x2) (h1 : x2 ≤ 24) (h2 : 0 ≤ x3) (h3 : x3 ≤ 5) (h4 : 1 ≤ x3) (h5 : x0 = x2 % x3) (h6 : 0 ≤ x0) (h7 : x0 < x3) (h8 : x1 = (-1)) (h9 : -2147483648 ≤ x0) (h10 : x0 ≤ 2147483647) (h11 : -2147483648 ≤ x1) (h12 : x1 ≤ 2147483647) (h13 : -2147483648 ≤ x2) (h14 : x2 ≤ 2147483647) (h15 : -2147483648 ≤ x3) (h16 : x3 ≤ 2147483647) : -2147483648 ≤ x0 + x1 := by omega
theorem o32_146 {x0 x1 x2 x3 : Int} (h0 : 0 ≤ x2) (h1 : x2 ≤ 24) (h2 : 0 ≤ x3) (h3 : x3 ≤ 5) (h4 : 1 ≤ x3) (h5 : x0 = x2 % x3) (h6 : 0 ≤ x0) (h7 : x0 < x3) (h8 : x1 = (-1)) (h9 : -2147483648 ≤ x0) (h10 : x0 ≤ 2147483647) (h11 : -2147483648 ≤ x1) (h12 : x1 ≤ 2147483647) (h13 : -2147483648 ≤ x2) (h14 : x2 ≤ 2147483647) (h15 : -2147483648 ≤ x3) (h16 : x3 ≤ 2147483647) : x0 + x1 ≤ 2147483647 := by omega
theorem o32_147 {x0 x1 x2 x3 x4 x5 : Int} (h0 : 0 ≤ x1) (h1 : x1 ≤ 24) (h2 : 0 ≤ x2) (h3 : x2 ≤ 5) (h4 : 1 ≤ x2) (h5 : x3 = x1 % x2) (h6 : 0 ≤ x3) (h7 : x3 < x2) (h8 : x4 = (-1)) (h9 : x5 = x3 + x4) (h10 : 0 ≤ x0) (h11 : x0 ≤ 5) (h12 : x0 = x2) (h13 : 1 ≤ x0) : 0 < x0 := by omega
theorem o32_148 {x0 x1 x2 x3 x4 x5 : Int} (h0 : 0 ≤ x0) (h1 : x0 ≤ 24) (h2 : 0 ≤ x1) (h3 : x1 ≤ 5) (h4 : 1 ≤ x1) (h5 : x2 = x0 % x1) (h6 : 0 ≤ x2) (h7 : x2 < x1) (h8 : x3 = (-1)) (h9 : x4 = x2 + x3) (h10 : 0 ≤ x5) (h11 : x5 ≤ 5) (h12 : x5 = x1) (h13 : 1 ≤ x5) : 0 ≤ x0 := by omega
theorem o32_149 {x0 x1 x2 x3 : Int} (h0 : 0 ≤ x0) (h1 : x0 ≤ 3) (h2 : x2 = 1) (h3 : ¬ x0 = x2) (h4 : x3 = 3) (h5 : x0 = x3) (h6 : x1 = 2) (h7 : x0 = x1) : False := by omega
theorem o32_150 {x0 x1 x2 x3 : Int} (h0 : 0 ≤ x0) (h1 : x0 ≤ 3) (h2 : x1 = 1) (h3 : ¬ x0 = x1) (h4 : x2 = 3) (h5 : x0 = x2) (h6 : x3 = 2) (h7 : ¬ x0 = x3) (h8 : x0 = 0) : False := by omega
theorem o32_151 {x0 x1 x2 x3 x4 x5 x6 x7 : Int} (h0 : 0 ≤ x2) (h1 : x2 ≤ 24) (h2 : 0 ≤ x3) (h3 : x3 ≤ 5) (h4 : 1 ≤ x3) (h5 : x4 = x2 % x3) (h6 : 0 ≤ x4) (h7 : x4 < x3) (h8 : x5 = (-1)) (h9 : x6 = x4 + x5) (h10 : 0 ≤ x7) (h11 : x7 ≤ 5) (h12 : x7 = x3) (h13 : 1 ≤ x7) (h14 : x0 = x2 / x7) (h15 : 0 ≤ x0) (h16 : x0 ≤ x2) (h17 : x1 = 0) (h18 : -2147483648 ≤ x0) (h19 : x0 ≤ 2147483647) (h20 : -2147483648 ≤ x1) (h21 : x1 ≤ 2147483647) (h22 : -2147483648 ≤ x2) (h23 : x2 ≤ 2147483647) (h24 : -2147483648 ≤ x3) (h25 : x3 ≤ 2147483647) (h26 : -2147483648 ≤ x4) (h27 : x4 ≤ 2147483647) (h28 : -2147483648 ≤ x5) (h29 : x5 ≤ 2147483647) (h30 : -2147483648 ≤ x6) (h31 : x6 ≤ 2147483647) (h32 : -2147483648 ≤ x7) (h33 : x7 ≤ 2147483647) : -2147483648 ≤ x0 + x1 := by omega
theorem o32_152 {x0 x1 x2 x3 x4 x5 x6 x7 : Int} (h0 : 0 ≤ x2) (h1 : x2 ≤ 24) (h2 : 0 ≤ x3) (h3 : x3 ≤ 5) (h4 : 1 ≤ x3) (h5 : x4 = x2 % x3) (h6 : 0 ≤ x4) (h7 : x4 < x3) (h8 : x5 = (-1)) (h9 : x6 = x4 + x5) (h10 : 0 ≤ x7) (h11 : x7 ≤ 5) (h12 : x7 = x3) (h13 : 1 ≤ x7) (h14 : x0 = x2 / x7) (h15 : 0 ≤ x0) (h16 : x0 ≤ x2) (h17 : x1 = 0) (h18 : -2147483648 ≤ x0) (h19 : x0 ≤ 2147483647) (h20 : -2147483648 ≤ x1) (h21 : x1 ≤ 2147483647) (h22 : -2147483648 ≤ x2) (h23 : x2 ≤ 2147483647) (h24 : -2147483648 ≤ x3) (h25 : x3 ≤ 2147483647) (h26 : -2147483648 ≤ x4) (h27 : x4 ≤ 2147483647) (h28 : -2147483648 ≤ x5) (h29 : x5 ≤ 2147483647) (h30 : -2147483648 ≤ x6) (h31 : x6 ≤ 2147483647) (h32 : -2147483648 ≤ x7) (h33 : x7 ≤ 2147483647) : x0 + x1 ≤ 2147483647 := by omega
theorem o32_153 {x0 x1 x2 x3 x4 x5 x6 x7 x8 x9 x10 x11 : Int} (h0 : 0 ≤ x2) (h1 : x2 ≤ 24) (h2 : 0 ≤ x3) (h3 : x3 ≤ 5) (h4 : 1 ≤ x3) (h5 : x4 = x2 % x3) (h6 : 0 ≤ x4) (h7 : x4 < x3) (h8 : x5 = (-1)) (h9 : x6 = x4 + x5) (h10 : 0 ≤ x7) (h11 : x7 ≤ 5) (h12 : x7 = x3) (h13 : 1 ≤ x7) (h14 : x8 = x2 / x7) (h15 : 0 ≤ x8) (h16 : x8 ≤ x2) (h17 : x9 = 0) (h18 : x10 = x8 + x9) (h19 : x11 = x6) (h20 : 0 ≤ x0) (h21 : x0 ≤ 5) (h22 : x0 = x3) (h23 : 1 ≤ x0) (h24 : x1 = 1) (h25 : -2147483648 ≤ x0) (h26 : x0 ≤ 2147483647) (h27 : -2147483648 ≤ x1) (h28 : x1 ≤ 2147483647) (h29 : -2147483648 ≤ x2) (h30 : x2 ≤ 2147483647) (h31 : -2147483648 ≤ x3) (h32 : x3 ≤ 2147483647) (h33 : -2147483648 ≤ x4) (h34 : x4 ≤ 2147483647) (h35 : -2147483648 ≤ x5) (h36 : x5 ≤ 2147483647) (h37 : -2147483648 ≤ x6) (h38 : x6 ≤ 2147483647) (h39 : -2147483648 ≤ x7) (h40 : x7 ≤ 2147483647) (h41 : -2147483648 ≤ x8) (h42 : x8 ≤ 2147483647) (h43 : -2147483648 ≤ x9) (h44 : x9 ≤ 2147483647) (h45 : -2147483648 ≤ x10) (h46 : x10 ≤ 2147483647) : -2147483648 ≤ x0 - x1 := by omega
theorem o32_154 {x0 x1 x2 x3 x4 x5 x6 x7 x8 x9 x10 x11 : Int} (h0 : 0 ≤ x2) (h1 : x2 ≤ 24) (h2 : 0 ≤ x3) (h3 : x3 ≤ 5) (h4 : 1 ≤ x3) (h5 : x4 = x2 % x3) (h6 : 0 ≤ x4) (h7 : x4 < x3) (h8 : x5 = (-1)) (h9 : x6 = x4 + x5) (h10 : 0 ≤ x7) (h11 : x7 ≤ 5) (h12 : x7 = x3) (h13 : 1 ≤ x7) (h14 : x8 = x2 / x7) (h15 : 0 ≤ x8) (h16 : x8 ≤ x2) (h17 : x9 = 0) (h18 : x10 = x8 + x9) (h19 : x11 = x6) (h20 : 0 ≤ x0) (h21 : x0 ≤ 5) (h22 : x0 = x3) (h23 : 1 ≤ x0) (h24 : x1 = 1) (h25 : -2147483648 ≤ x0) (h26 : x0 ≤ 2147483647) (h27 : -2147483648 ≤ x1) (h28 : x1 ≤ 2147483647) (h29 : -2147483648 ≤ x2) (h30 : x2 ≤ 2147483647) (h31 : -2147483648 ≤ x3) (h32 : x3 ≤ 2147483647) (h33 : -2147483648 ≤ x4) (h34 : x4 ≤ 2147483647) (h35 : -2147483648 ≤ x5) (h36 : x5 ≤ 2147483647) (h37 : -2147483648 ≤ x6) (h38 : x6 ≤ 2147483647) (h39 : -2147483648 ≤ x7) (h40 : x7 ≤ 2147483647) (h41 : -2147483648 ≤ x8) (h42 : x8 ≤ 2147483647) (h43 : -2147483648 ≤ x9) (h44 : x9 ≤ 2147483647) (h45 : -2147483648 ≤ x10) (h46 : x10 ≤ 2147483647) : x0 - x1 ≤ 2147483647 := by omega
theorem o32_155 {x0 x1 x2 x3 x4 x5 x6 x7 x8 x9 x10 x11 x12 x13 x14 x15 : Int} (h0 : 0 ≤ x2) (h1 : x2 ≤ 24) (h2 : 0 ≤ x1) (h3 : x1 ≤ 5) (h4 : 1 ≤ x1) (h5 : x3 = x2 % x1) (h6 : 0 ≤ x3) (h7 : x3 < x1) (h8 : x4 = (-1)) (h9 : x5 = x3 + x4) (h10 : 0 ≤ x0) (h11 : x0 ≤ 5) (h12 : x0 = x1) (h13 : 1 ≤ x0) (h14 : x6 = x2 / x0) (h15 : 0 ≤ x6) (h16 : x6 ≤ x2) (h17 : x7 = 0) (h18 : x8 = x6 + x7) (h19 : x9 = x5) (h20 : x10 = 0) (h21 : 0 ≤ x11) (h22 : x11 ≤ 5) (h23 : x11 = x1) (h24 : 1 ≤ x11) (h25 : x12 = 1) (h26 : x13 = x11 - x12) (h27 : x14 = x13) (h28 : 0 ≤ x15) (h29 : x15 ≤ 1) (h30 : ((x15 = 0 ∧ (x9 < x10 ∨ x14 < x9)) ∨ (x15 = 1 ∧ x10 ≤ x9 ∧ x9 ≤ x14))) (h31 : x15 = 0) : x0 = x1 := by omega
theorem o32_156 {x0 x1 x2 x3 x4 x5 x6 x7 x8 x9 x10 x11 x12 x13 x14 x15 x16 x17 x18 x19 x20 x21 x22 : Int} (h0 : 0 ≤ x2) (h1 : x2 ≤ 24) (h2 : 0 ≤ x1) (h3 : x1 ≤ 5) (h4 : 1 ≤ x1) (h5 : x3 = x2 % x1) (h6 : 0 ≤ x3) (h7 : x3 < x1) (h8 : x4 = (-1)) (h9 : x5 = x3 + x4) (h10 : 0 ≤ x0) (h11 : x0 ≤ 5) (h12 : x0 = x1) (h13 : 1 ≤ x0) (h14 : x6 = x2 / x0) (h15 : 0 ≤ x6) (h16 : x6 ≤ x2) (h17 : x7 = 0) (h18 : x8 = x6 + x7) (h19 : x9 = x5) (h20 : x10 = 0) (h21 : 0 ≤ x11) (h22 : x11 ≤ 5) (h23 : x11 = x1) (h24 : 1 ≤ x11) (h25 : x12 = 1) (h26 : x13 = x11 - x12) (h27 : x14 = x13) (h28 : 0 ≤ x15) (h29 : x15 ≤ 1) (h30 : ((x15 = 0 ∧ (x9 < x10 ∨ x14 < x9)) ∨ (x15 = 1 ∧ x10 ≤ x9 ∧ x9 ≤ x14))) (h31 : ¬ x15 = 0) (h32 : x16 = x8) (h33 : x17 = 0) (h34 : 0 ≤ x18) (h35 : x18 ≤ 5) (h36 : 1 ≤ x18) (h37 : x19 = 1) (h38 : x20 = x18 - x19) (h39 : x21 = x20) (h40 : 0 ≤ x22) (h41 : x22 ≤ 1) (h42 : ((x22 = 0 ∧ (x16 < x17 ∨ x21 < x16)) ∨ (x22 = 1 ∧ x17 ≤ x16 ∧ x16 ≤ x21))) (h43 : x22 = 0) : x0 = x1 := by omega
theorem o32_157 {x0 x1 x2 x3 x4 x5 x6 x7 x8 x9 x10 x11 x12 x13 x14 x15 x16 x17 x18 x19 x20 x21 x22 x23 : Int} (h0 : 0 ≤ x1) (h1 : x1 ≤ 24) (h2 : 0 ≤ x2) (h3 : x2 ≤ 5) (h4 : 1 ≤ x2) (h5 : x3 = x1 % x2) (h6 : 0 ≤ x3) (h7 : x3 < x2) (h8 : x4 = (-1)) (h9 : x5 = x3 + x4) (h10 : 0 ≤ x6) (h11 : x6 ≤ 5) (h12 : x6 = x2) (h13 : 1 ≤ x6) (h14 : x7 = x1 / x6) (h15 : 0 ≤ x7) (h16 : x7 ≤ x1) (h17 : x8 = 0) (h18 : x9 = x7 + x8) (h19 : x10 = x5) (h20 : x11 = 0) (h21 : 0 ≤ x12) (h22 : x12 ≤ 5) (h23 : x12 = x2) (h24 : 1 ≤ x12) (h25 : x13 = 1) (h26 : x14 = x12 - x13) (h27 : x15 = x14) (h28 : 0 ≤ x16) (h29 : x16 ≤ 1) (h30 : ((x16 = 0 ∧ (x10 < x11 ∨ x15 < x10)) ∨ (x16 = 1 ∧ x11 ≤ x10 ∧ x10 ≤ x15))) (h31 : ¬ x16 = 0) (h32 : x17 = x9) (h33 : x18 = 0) (h34 : 0 ≤ x19) (h35 : x19 ≤ 5) (h36 : 1 ≤ x19) (h37 : x20 = 1) (h38 : x21 = x19 - x20) (h39 : x22 = x21) (h40 : 0 ≤ x23) (h41 : x23 ≤ 1) (h42 : ((x23 = 0 ∧ (x17 < x18 ∨ x22 < x17)) ∨ (x23 = 1 ∧ x18 ≤ x17 ∧ x17 ≤ x22))) (h43 : ¬ x23 = 0) (h44 : 0 ≤ x0) (h45 : x0 ≤ 5) (h46 : x0 = x2) (h47 : 1 ≤ x0) : 1 ≤ x0 := by omega
theorem o32_158 {x0 x1 x2 x3 x4 x5 x6 x7 x8 x9 x10 x11 x12 x13 x14 x15 x16 x17 x18 x19 x20 x21 x22 x23 : Int} (h0 : 0 ≤ x1) (h1 : x1 ≤ 24) (h2 : 0 ≤ x2) (h3 : x2 ≤ 5) (h4 : 1 ≤ x2) (h5 : x3 = x1 % x2) (h6 : 0 ≤ x3) (h7 : x3 < x2) (h8 : x4 = (-1)) (h9 : x5 = x3 + x4) (h10 : 0 ≤ x6) (h11 : x6 ≤ 5) (h12 : x6 = x2) (h13 : 1 ≤ x6) (h14 : x7 = x1 / x6) (h15 : 0 ≤ x7) (h16 : x7 ≤ x1) (h17 : x8 = 0) (h18 : x9 = x7 + x8) (h19 : x10 = x5) (h20 : x11 = 0) (h21 : 0 ≤ x12) (h22 : x12 ≤ 5) (h23 : x12 = x2) (h24 : 1 ≤ x12) (h25 : x13 = 1) (h26 : x14 = x12 - x13) (h27 : x15 = x14) (h28 : 0 ≤ x16) (h29 : x16 ≤ 1) (h30 : ((x16 = 0 ∧ (x10 < x11 ∨ x15 < x10)) ∨ (x16 = 1 ∧ x11 ≤ x10 ∧ x10 ≤ x15))) (h31 : ¬ x16 = 0) (h32 : x17 = x9) (h33 : x18 = 0) (h34 : 0 ≤ x19) (h35 : x19 ≤ 5) (h36 : 1 ≤ x19) (h37 : x20 = 1) (h38 : x21 = x19 - x20) (h39 : x22 = x21) (h40 : 0 ≤ x23) (h41 : x23 ≤ 1) (h42 : ((x23 = 0 ∧ (x17 < x18 ∨ x22 < x17)) ∨ (x23 = 1 ∧ x18 ≤ x17 ∧ x17 ≤ x22))) (h43 : ¬ x23 = 0) (h44 : 0 ≤ x0) (h45 : x0 ≤ 5) (h46 : x0 = x2) (h47 : 1 ≤ x0) : x0 ≤ 5 := by omega
theorem o32_159 {x0 x1 x2 x3 x4 x5 x6 x7 x8 x9 x10 x11 x12 x13 x14 x15 x16 x17 x18 x19 x20 x21 x22 x23 : Int} (h0 : 0 ≤ x1) (h1 : x1 ≤ 24) (h2 : 0 ≤ x2) (h3 : x2 ≤ 5) (h4 : 1 ≤ x2) (h5 : x3 = x1 % x2) (h6 : 0 ≤ x3) (h7 : x3 < x2) (h8 : x4 = (-1)) (h9 : x5 = x3 + x4) (h10 : 0 ≤ x6) (h11 : x6 ≤ 5) (h12 : x6 = x2) (h13 : 1 ≤ x6) (h14 : x7 = x1 / x6) (h15 : 0 ≤ x7) (h16 : x7 ≤ x1) (h17 : x8 = 0) (h18 : x0 = x7 + x8) (h19 : x9 = x5) (h20 : x10 = 0) (h21 : 0 ≤ x11) (h22 : x11 ≤ 5) (h23 : x11 = x2) (h24 : 1 ≤ x11) (h25 : x12 = 1) (h26 : x13 = x11 - x12) (h27 : x14 = x13) (h28 : 0 ≤ x15) (h29 : x15 ≤ 1) (h30 : ((x15 = 0 ∧ (x9 < x10 ∨ x14 < x9)) ∨ (x15 = 1 ∧ x10 ≤ x9 ∧ x9 ≤ x14))) (h31 : ¬ x15 = 0) (h32 : x16 = x0) (h33 : x17 = 0) (h34 : 0 ≤ x18) (h35 : x18 ≤ 5) (h36 : 1 ≤ x18) (h37 : x19 = 1) (h38 : x20 = x18 - x19) (h39 : x21 = x20) (h40 : 0 ≤ x22) (h41 : x22 ≤ 1) (h42 : ((x22 = 0 ∧ (x16 < x17 ∨ x21 < x16)) ∨ (x22 = 1 ∧ x17 ≤ x16 ∧ x16 ≤ x21))) (h43 : ¬ x22 = 0) (h44 : 0 ≤ x23) (h45 : x23 ≤ 5) (h46 : x23 = x2) (h47 : 1 ≤ x23) : 0 ≤ x0 := by omega
theorem o32_160 {x0 x1 x2 x3 x4 x5 x6 x7 x8 x9 x10 x11 x12 x13 x14 x15 x16 x17 x18 x19 x20 x21 x22 x23 : Int} (h0 : 0 ≤ x1) (h1 : x1 ≤ 24) (h2 : 0 ≤ x2) (h3 : x2 ≤ 5) (h4 : 1 ≤ x2) (h5 : x3 = x1 % x2) (h6 : 0 ≤ x3) (h7 : x3 < x2) (h8 : x4 = (-1)) (h9 : x5 = x3 + x4) (h10 : 0 ≤ x6) (h11 : x6 ≤ 5) (h12 : x6 = x2) (h13 : 1 ≤ x6) (h14 : x7 = x1 / x6) (h15 : 0 ≤ x7) (h16 : x7 ≤ x1) (h17 : x8 = 0) (h18 : x0 = x7 + x8) (h19 : x9 = x5) (h20 : x10 = 0) (h21 : 0 ≤ x11) (h22 : x11 ≤ 5) (h23 : x11 = x2) (h24 : 1 ≤ x11) (h25 : x12 = 1) (h26 : x13 = x11 - x12) (h27 : x14 = x13) (h28 : 0 ≤ x15) (h29 : x15 ≤ 1) (h30 : ((x15 = 0 ∧ (x9 < x10 ∨ x14 < x9)) ∨ (x15 = 1 ∧ x10 ≤ x9 ∧ x9 ≤ x14))) (h31 : ¬ x15 = 0) (h32 : x16 = x0) (h33 : x17 = 0) (h34 : 0 ≤ x18) (h35 : x18 ≤ 5) (h36 : 1 ≤ x18) (h37 : x19 = 1) (h38 : x20 = x18 - x19) (h39 : x21 = x20) (h40 : 0 ≤ x22) (h41 : x22 ≤ 1) (h42 : ((x22 = 0 ∧ (x16 < x17 ∨ x21 < x16)) ∨ (x22 = 1 ∧ x17 ≤ x16 ∧ x16 ≤ x21))) (h43 : ¬ x22 = 0) (h44 : 0 ≤ x23) (h45 : x23 ≤ 5) (h46 : x23 = x2) (h47 : 1 ≤ x23) : x0 ≤ 4 := by omega
theorem o32_161 {x0 x1 x2 x3 x4 x5 x6 x7 x8 x9 x10 x11 x12 x13 x14 x15 x16 x17 x18 x19 x20 x21 x22 x23 x24 : Int} (h0 : 0 ≤ x2) (h1 : x2 ≤ 24) (h2 : 0 ≤ x3) (h3 : x3 ≤ 5) (h4 : 1 ≤ x3) (h5 : x4 = x2 % x3) (h6 : 0 ≤ x4) (h7 : x4 < x3) (h8 : x5 = (-1)) (h9 : x1 = x4 + x5) (h10 : 0 ≤ x6) (h11 : x6 ≤ 5) (h12 : x6 = x3) (h13 : 1 ≤ x6) (h14 : x7 = x2 / x6) (h15 : 0 ≤ x7) (h16 : x7 ≤ x2) (h17 : x8 = 0) (h18 : x9 = x7 + x8) (h19 : x10 = x1) (h20 : x11 = 0) (h21 : 0 ≤ x12) (h22 : x12 ≤ 5) (h23 : x12 = x3) (h24 : 1 ≤ x12) (h25 : x13 = 1) (h26 : x14 = x12 - x13) (h27 : x15 = x14) (h28 : 0 ≤ x16) (h29 : x16 ≤ 1) (h30 : ((x16 = 0 ∧ (x10 < x11 ∨ x15 < x10)) ∨ (x16 = 1 ∧ x11 ≤ x10 ∧ x10 ≤ x15))) (h31 : ¬ x16 = 0) (h32 : x17 = x9) (h33 : x18 = 0) (h34 : 0 ≤ x19) (h35 : x19 ≤ 5) (h36 : 1 ≤ x19) (h37 : x20 = 1) (h38 : x21 = x19 - x20) (h39 : x22 = x21) (h40 : 0 ≤ x23) (h41 : x23 ≤ 1) (h42 : ((x23 = 0 ∧ (x17 < x18 ∨ x22 < x17)) ∨ (x23 = 1 ∧ x18 ≤ x17 ∧ x17 ≤ x22))) (h43 : ¬ x23 = 0) (h44 : 0 ≤ x24) (h45 : x24 ≤ 5) (h46 : x24 = x3) (h47 : 1 ≤ x24) (h48 : 1 * 0 ≤ x0) (h49 : x0 ≤ 5 * 4) (h50 : -2147483648 ≤ x0) (h51 : x0 ≤ 2147483647) (h52 : -2147483648 ≤ x1) (h53 : x1 ≤ 2147483647) (h54 : -2147483648 ≤ x2) (h55 : x2 ≤ 2147483647) (h56 : -2147483648 ≤ x3) (h57 : x3 ≤ 2147483647) (h58 : -2147483648 ≤ x4) (h59 : x4 ≤ 2147483647) (h60 : -2147483648 ≤ x5) (h61 : x5 ≤ 2147483647) (h62 : -2147483648 ≤ x6) (h63 : x6 ≤ 2147483647) (h64 : -2147483648 ≤ x7) (h65 : x7 ≤ 2147483647) (h66 : -2147483648 ≤ x8) (h67 : x8 ≤ 2147483647) (h68 : -2147483648 ≤ x9) (h69 : x9 ≤ 2147483647) (h70 : -2147483648 ≤ x12) (h71 : x12 ≤ 2147483647) (h72 : -2147483648 ≤ x13) (h73 : x13 ≤ 2147483647) (h74 : -2147483648 ≤ x14) (h75 : x14 ≤ 2147483647) (h76 : -2147483648 ≤ x16) (h77 : x16 ≤ 2147483647) (h78 : -2147483648 ≤ x19) (h79 : x19 ≤ 2147483647) (h80 : -2147483648 ≤ x20) (h81 : x20 ≤ 2147483647) (h82 : -2147483648 ≤ x21) (h83 : x21 ≤ 2147483647) (h84 : -2147483648 ≤ x23) (h85 : x23 ≤ 2147483647) (h86 : -2147483648 ≤ x24) (h87 : x24 ≤ 2147483647) : -2147483648 ≤ x0 + x1 := by omega
theorem o32_162 {x0 x1 x2 x3 x4 x5 x6 x7 x8 x9 x10 x11 x12 x13 x14 x15 x16 x17 x18 x19 x20 x21 x22 x23 x24 : Int} (h0 : 0 ≤ x2) (h1 : x2 ≤ 24) (h2 : 0 ≤ x3) (h3 : x3 ≤ 5) (h4 : 1 ≤ x3) (h5 : x4 = x2 % x3) (h6 : 0 ≤ x4) (h7 : x4 < x3) (h8 : x5 = (-1)) (h9 : x1 = x4 + x5) (h10 : 0 ≤ x6) (h11 : x6 ≤ 5) (h12 : x6 = x3) (h13 : 1 ≤ x6) (h14 : x7 = x2 / x6) (h15 : 0 ≤ x7) (h16 : x7 ≤ x2) (h17 : x8 = 0) (h18 : x9 = x7 + x8) (h19 : x10 = x1) (h20 : x11 = 0) (h21 : 0 ≤ x12) (h22 : x12 ≤ 5) (h23 : x12 = x3) (h24 : 1 ≤ x12) (h25 : x13 = 1) (h26 : x14 = x12 - x13) (h27 : x15 = x14) (h28 : 0 ≤ x16) (h29 : x16 ≤ 1) (h30 : ((x16 = 0 ∧ (x10 < x11 ∨ x15 < x10)) ∨ (x16 = 1 ∧ x11 ≤ x10 ∧ x10 ≤ x15))) (h31 : ¬ x16 = 0) (h32 : x17 = x9) (h33 : x18 = 0) (h34 : 0 ≤ x19) (h35 : x19 ≤ 5) (h36 : 1 ≤ x19) (h37 : x20 = 1) (h38 : x21 = x19 - x20) (h39 : x22 = x21) (h40 : 0 ≤ x23) (h41 : x23 ≤ 1) (h42 : ((x23 = 0 ∧ (x17 < x18 ∨ x22 < x17)) ∨ (x23 = 1 ∧ x18 ≤ x17 ∧ x17 ≤ x22))) (h43 : ¬ x23 = 0) (h44 : 0 ≤ x24) (h45 : x24 ≤ 5) (h46 : x24 = x3) (h47 : 1 ≤ x24) (h48 : 1 * 0 ≤ x0) (h49 : x0 ≤ 5 * 4) (h50 : -2147483648 ≤ x0) (h51 : x0 ≤ 2147483647) (h52 : -2147483648 ≤ x1) (h53 : x1 ≤ 2147483647) (h54 : -2147483648 ≤ x2) (h55 : x2 ≤ 2147483647) (h56 : -2147483648 ≤ x3) (h57 : x3 ≤ 2147483647) (h58 : -2147483648 ≤ x4) (h59 : x4 ≤ 2147483647) (h60 : -2147483648 ≤ x5) (h61 : x5 ≤ 2147483647) (h62 : -2147483648 ≤ x6) (h63 : x6 ≤ 2147483647) (h64 : -2147483648 ≤ x7) (h65 : x7 ≤ 2147483647) (h66 : -2147483648 ≤ x8) (h67 : x8 ≤ 2147483647) (h68 : -2147483648 ≤ x9) (h69 : x9 ≤ 2147483647) (h70 : -2147483648 ≤ x12) (h71 : x12 ≤ 2147483647) (h72 : -2147483648 ≤ x13) (h73 : x13 ≤ 2147483647) (h74 : -2147483648 ≤ x14) (h75 : x14 ≤ 2147483647) (h76 : -2147483648 ≤ x16) (h77 : x16 ≤ 2147483647) (h78 : -2147483648 ≤ x19) (h79 : x19 ≤ 2147483647) (h80 : -2147483648 ≤ x20) (h81 : x20 ≤ 2147483647) (h82 : -2147483648 ≤ x21) (h83 : x21 ≤ 2147483647) (h84 : -2147483648 ≤ x23) (h85 : x23 ≤ 2147483647) (h86 : -2147483648 ≤ x24) (h87 : x24 ≤ 2147483647) : x0 + x1 ≤ 2147483647 := by omega
theorem o32_163 {x0 x1 x2 x3 x4 x5 x6 x7 x8 x9 x10 x11 x12 x13 x14 x15 x16 x17 x18 x19 x20 x21 x22 x23 x24 x25 : Int} (h0 : 0 ≤ x1) (h1 : x1 ≤ 24) (h2 : 0 ≤ x2) (h3 : x2 ≤ 5) (h4 : 1 ≤ x2) (h5 : x3 = x1 % x2) (h6 : 0 ≤ x3) (h7 : x3 < x2) (h8 : x4 = (-1)) (h9 : x5 = x3 + x4) (h10 : 0 ≤ x6) (h11 : x6 ≤ 5) (h12 : x6 = x2) (h13 : 1 ≤ x6) (h14 : x7 = x1 / x6) (h15 : 0 ≤ x7) (h16 : x7 ≤ x1) (h17 : x8 = 0) (h18 : x9 = x7 + x8) (h19 : x10 = x5) (h20 : x11 = 0) (h21 : 0 ≤ x12) (h22 : x12 ≤ 5) (h23 : x12 = x2) (h24 : 1 ≤ x12) (h25 : x13 = 1) (h26 : x14 = x12 - x13) (h27 : x15 = x14) (h28 : 0 ≤ x16) (h29 : x16 ≤ 1) (h30 : ((x16 = 0 ∧ (x10 < x11 ∨ x15 < x10)) ∨ (x16 = 1 ∧ x11 ≤ x10 ∧ x10 ≤ x15))) (h31 : ¬ x16 = 0) (h32 : x17 = x9) (h33 : x18 = 0) (h34 : x19 = x20 - x21) (h35 : x22 = x19) (h36 : 0 ≤ x23) (h37 : x23 ≤ 1) (h38 : ((x23 = 0 ∧ (x17 < x18 ∨ x22 < x17)) ∨ (x23 = 1 ∧ x18 ≤ x17 ∧ x17 ≤ x22))) (h39 : ¬ x23 = 0) (h40 : 0 ≤ x24) (h41 : x24 ≤ 5) (h42 : x24 = x2) (h43 : 1 ≤ x24) (h44 : 1 * 0 ≤ x25) (h45 : x25 ≤ 5 * 4) (h46 : x0 = x25 + x5) : (-1) ≤ x0 := by omega
theorem o32_164 {x0 x1 x2 x3 x4 x5 x6 x7 x8 x9 x10 x11 x12 x13 x14 x15 x16 x17 x18 x19 x20 x21 x22 x23 x24 x25 : Int} (h0 : 0 ≤ x1) (h1 : x1 ≤ 24) (h2 : 0 ≤ x2) (h3 : x2 ≤ 5) (h4 : 1 ≤ x2) (h5 : x3 = x1 % x2) (h6 : 0 ≤ x3) (h7 : x3 < x2) (h8 : x4 = (-1)) (h9 : x5 = x3 + x4) (h10 : 0 ≤ x6) (h11 : x6 ≤ 5) (h12 : x6 = x2) (h13 : 1 ≤ x6) (h14 : x7 = x1 / x6) (h15 : 0 ≤ x7) (h16 : x7 ≤ x1) (h17 : x8 = 0) (h18 : x9 = x7 + x8) (h19 : x10 = x5) (h20 : x11 = 0) (h21 : 0 ≤ x12) (h22 : x12 ≤ 5) (h23 : x12 = x2) (h24 : 1 ≤ x12) (h25 : x13 = 1) (h26 : x14 = x12 - x13) (h27 : x15 = x14) (h28 : 0 ≤ x16) (h29 : x16 ≤ 1) (h30 : ((x16 = 0 ∧ (x10 < x11 ∨ x15 < x10)) ∨ (x16 = 1 ∧ x11 ≤ x10 ∧ x10 ≤ x15))) (h31 : ¬ x16 = 0) (h32 : x17 = x9) (h33 : x18 = 0) (h34 : x19 = x20 - x21) (h35 : x22 = x19) (h36 : 0 ≤ x23) (h37 : x23 ≤ 1) (h38 : ((x23 = 0 ∧ (x17 < x18 ∨ x22 < x17)) ∨ (x23 = 1 ∧ x18 ≤ x17 ∧ x17 ≤ x22))) (h39 : ¬ x23 = 0) (h40 : 0 ≤ x24) (h41 : x24 ≤ 5) (h42 : x24 = x2) (h43 : 1 ≤ x24) (h44 : 1 * 0 ≤ x25) (h45 : x25 ≤ 5 * 4) (h46 : x0 = x25 + x5) : x0 ≤ 24 := by omega
theorem o32_165 {x0 x1 x2 x3 x4 x5 x6 x7 x8 x9 x10 x11 x12 x13 x14 x15 x16 x17 x18 x19 x20 x21 x22 x23 x24 x25 : Int} (h0 : 0 ≤ x2) (h1 : x2 ≤ 24) (h2 : 0 ≤ x1) (h3 : x1 ≤ 5) (h4 : 1 ≤ x1) (h5 : x3 = x2 % x1) (h6 : 0 ≤ x3) (h7 : x3 < x1) (h8 : x4 = (-1)) (h9 : x5 = x3 + x4) (h10 : 0 ≤ x6) (h11 : x6 ≤ 5) (h12 : x6 = x1) (h13 : 1 ≤ x6) (h14 : x7 = x2 / x6) (h15 : 0 ≤ x7) (h16 : x7 ≤ x2) (h17 : x8 = 0) (h18 : x9 = x7 + x8) (h19 : x10 = x5) (h20 : x11 = 0) (h21 : 0 ≤ x12) (h22 : x12 ≤ 5) (h23 : x12 = x1) (h24 : 1 ≤ x12) (h25 : x13 = 1) (h26 : x14 = x12 - x13) (h27 : x15 = x14) (h28 : 0 ≤ x16) (h29 : x16 ≤ 1) (h30 : ((x16 = 0 ∧ (x10 < x11 ∨ x15 < x10)) ∨ (x16 = 1 ∧ x11 ≤ x10 ∧ x10 ≤ x15))) (h31 : ¬ x16 = 0) (h32 : x17 = x9) (h33 : x18 = 0) (h34 : 0 ≤ x19) (h35 : x19 ≤ 5) (h36 : 1 ≤ x19) (h37 : x20 = 1) (h38 : x21 = x19 - x20) (h39 : x22 = x21) (h40 : 0 ≤ x23) (h41 : x23 ≤ 1) (h42 : ((x23 = 0 ∧ (x17 < x18 ∨ x22 < x17)) ∨ (x23 = 1 ∧ x18 ≤ x17 ∧ x17 ≤ x22))) (h43 : ¬ x23 = 0) (h44 : 0 ≤ x0) (h45 : x0 ≤ 5) (h46 : x0 = x1) (h47 : 1 ≤ x0) (h48 : 1 * 0 ≤ x24) (h49 : x24 ≤ 5 * 4) (h50 : x25 = x24 + x5) : x0 = x1 := by omega
theorem o32_166 {x0 x1 x2 x3 x4 x5 x6 x7 x8 x9 x10 x11 x12 x13 x14 x15 x16 x17 x18 x19 x20 x21 x22 x23 x24 x25 : Int} (h0 : 0 ≤ x1) (h1 : x1 ≤ 24) (h2 : 0 ≤ x2) (h3 : x2 ≤ 5) (h4 : 1 ≤ x2) (h5 : x3 = x1 % x2) (h6 : 0 ≤ x3) (h7 : x3 < x2) (h8 : x4 = (-1)) (h9 : x5 = x3 + x4) (h10 : 0 ≤ x6) (h11 : x6 ≤ 5) (h12 : x6 = x2) (h13 : 1 ≤ x6) (h14 : x7 = x1 / x6) (h15 : 0 ≤ x7) (h16 : x7 ≤ x1) (h17 : x8 = 0) (h18 : x0 = x7 + x8) (h19 : x9 = x5) (h20 : x10 = 0) (h21 : 0 ≤ x11) (h22 : x11 ≤ 5) (h23 : x11 = x2) (h24 : 1 ≤ x11) (h25 : x12 = 1) (h26 : x13 = x11 - x12) (h27 : x14 = x13) (h28 : 0 ≤ x15) (h29 : x15 ≤ 1) (h30 : ((x15 = 0 ∧ (x9 < x10 ∨ x14 < x9)) ∨ (x15 = 1 ∧ x10 ≤ x9 ∧ x9 ≤ x14))) (h31 : ¬ x15 = 0) (h32 : x16 = x0) (h33 : x17 = 0) (h34 : 0 ≤ x18) (h35 : x18 ≤ 5) (h36 : 1 ≤ x18) (h37 : x19 = 1) (h38 : x20 = x18 - x19) (h39 : x21 = x20) (h40 : 0 ≤ x22) (h41 : x22 ≤ 1) (h42 : ((x22 = 0 ∧ (x16 < x17 ∨ x21 < x16)) ∨ (x22 = 1 ∧ x17 ≤ x16 ∧ x16 ≤ x21))) (h43 : ¬ x22 = 0) (h44 : 0 ≤ x23) (h45 : x23 ≤ 5) (h46 : x23 = x2) (h47 : 1 ≤ x23) (h48 : 1 * 0 ≤ x24) (h49 : x24 ≤ 5 * 4) (h50 : x25 = x24 + x5) : x0 = x0 := by omega
theorem o32_167 {x0 x1 x2 x3 x4 x5 x6 x7 x8 x9 x10 x11 x12 x13 x14 x15 x16 x17 x18 x19 x20 x21 x22 x23 x24 x25 : Int} (h0 : 0 ≤ x2) (h1 : x2 ≤ 24) (h2 : 0 ≤ x1) (h3 : x1 ≤ 5) (h4 : 1 ≤ x1) (h5 : x3 = x2 % x1) (h6 : 0 ≤ x3) (h7 : x3 < x1) (h8 : x4 = (-1)) (h9 : x5 = x3 + x4) (h10 : 0 ≤ x0) (h11 : x0 ≤ 5) (h12 : x0 = x1) (h13 : 1 ≤ x0) (h14 : x6 = x2 / x0) (h15 : 0 ≤ x6) (h16 : x6 ≤ x2) (h17 : x7 = 0) (h18 : x8 = x6 + x7) (h19 : x9 = x5) (h20 : x10 = 0) (h21 : 0 ≤ x11) (h22 : x11 ≤ 5) (h23 : x11 = x1) (h24 : 1 ≤ x11) (h25 : x12 = 1) (h26 : x13 = x11 - x12) (h27 : x14 = x13) (h28 : 0 ≤ x15) (h29 : x15 ≤ 1) (h30 : ((x15 = 0 ∧ (x9 < x10 ∨ x14 < x9)) ∨ (x15 = 1 ∧ x10 ≤ x9 ∧ x9 ≤ x14))) (h31 : ¬ x15 = 0) (h32 : x16 = x8) (h33 : x17 = 0) (h34 : 0 ≤ x18) (h35 : x18 ≤ 5) (h36 : 1 ≤ x18) (h37 : x19 = 1) (h38 : x20 = x18 - x19) (h39 : x21 = x20) (h40 : 0 ≤ x22) (h41 : x22 ≤ 1) (h42 : ((x22 = 0 ∧ (x16 < x17 ∨ x21 < x16)) ∨ (x22 = 1 ∧ x17 ≤ x16 ∧ x16 ≤ x21))) (h43 : ¬ x22 = 0) (h44 : 0 ≤ x23) (h45 : x23 ≤ 5) (h46 : x23 = x1) (h47 : 1 ≤ x23) (h48 : 1 * 0 ≤ x24) (h49 : x24 ≤ 5 * 4) (h50 : x25 = x24 + x5) : x0 = x1 := by omega
theorem o32_168 {x0 x1 x2 x3 : Int} (h0 : 0 ≤ x2) (h1 : x2 ≤ 24) (h2 : 0 ≤ x3) (h3 : x3 ≤ 5) (h4 : 1 ≤ x3) (h5 : x0 = x2 % x3) (h6 : 0 ≤ x0) (h7 : x0 < x3) (h8 : x1 = 1) (h9 : -2147483648 ≤ x0) (h10 : x0 ≤ 2147483647) (h11 : -2147483648 ≤ x1) (h12 : x1 ≤ 2147483647) (h13 : -2147483648 ≤ x2) (h14 : x2 ≤ 2147483647) (h15 : -2147483648 ≤ x3) (h16 : x3 ≤ 2147483647) : -2147483648 ≤ x0 + x1 := by omega
theorem o32_169 {x0 x1 x2 x3 : Int} (h0 : 0 ≤ x2) (h1 : x2 ≤ 24) (h2 : 0 ≤ x3) (h3 : x3 ≤ 5) (h4 : 1 ≤ x3) (h5 : x0 = x2 % x3) (h6 : 0 ≤ x0) (h7 : x0 < x3) (h8 : x1 = 1) (h9 : -2147483648 ≤ x0) (h10 : x0 ≤ 2147483647) (h11 : -2147483648 ≤ x1) (h12 : x1 ≤ 2147483647) (h13 : -2147483648 ≤ x2) (h14 : x2 ≤ 2147483647) (h15 : -2147483648 ≤ x3) (h16 : x3 ≤ 2147483647) : x0 + x1 ≤ 2147483647 := by omega
theorem o32_170 {x0 x1 x2 x3 x4 x5 : Int} (h0 : 0 ≤ x1) (h1 : x1 ≤ 24) (h2 : 0 ≤ x2) (h3 : x2 ≤ 5) (h4 : 1 ≤ x2) (h5 : x3 = x1 % x2) (h6 : 0 ≤ x3) (h7 : x3 < x2) (h8 : x4 = 1) (h9 : x5 = x3 + x4) (h10 : 0 ≤ x0) (h11 : x0 ≤ 5) (h12 : x0 = x2) (h13 : 1 ≤ x0) : 0 < x0 := by omega
theorem o32_171 {x0 x1 x2 x3 x4 x5 : Int} (h0 : 0 ≤ x0) (h1 : x0 ≤ 24) (h2 : 0 ≤ x1) (h3 : x1 ≤ 5) (h4 : 1 ≤ x1) (h5 : x2 = x0 % x1) (h6 : 0 ≤ x2) (h7 : x2 < x1) (h8 : x3 = 1) (h9 : x4 = x2 + x3) (h10 : 0 ≤ x5) (h11 : x5 ≤ 5) (h12 : x5 = x1) (h13 : 1 ≤ x5) : 0 ≤ x0 := by omega
theorem o32_172 {x0 x1 x2 : Int} (h0 : 0 ≤ x0) (h1 : x0 ≤ 3) (h2 : x2 = 1) (h3 : x0 = x2) (h4 : x1 = 2) (h5 : x0 = x1) : False := by omega
theorem o32_173 {x0 x1 x2 : Int} (h0 : 0 ≤ x0) (h1 : x0 ≤ 3) (h2 : x1 = 1) (h3 : x0 = x1) (h4 : x2 = 2) (h5 : ¬ x0 = x2) (h6 : x0 = 0) : False := by omega
theorem o32_174 {x0 x1 x2 x3 x4 x5 x6 x7 : Int} (h0 : 0 ≤ x2) (h1 : x2 ≤ 24) (h2 : 0 ≤ x3) (h3 : x3 ≤ 5) (h4 : 1 ≤ x3) (h5 : x4 = x2 % x3) (h6 : 0 ≤ x4) (h7 : x4 < x3) (h8 : x5 = 1) (h9 : x6 = x4 + x5) (h10 : 0 ≤ x7) (h11 : x7 ≤ 5) (h12 : x7 = x3) (h13 : 1 ≤ x7) (h14 : x0 = x2 / x7) (h15 : 0 ≤ x0) (h16 : x0 ≤ x2) (h17 : x1 = 0) (h18 : -2147483648 ≤ x0) (h19 : x0 ≤ 2147483647) (h20 : -2147483648 ≤ x1) (h21 : x1 ≤ 2147483647) (h22 : -2147483648 ≤ x2) (h23 : x2 ≤ 2147483647) (h24 : -2147483648 ≤ x3) (h25 : x3 ≤ 2147483647) (h26 : -2147483648 ≤ x4) (h27 : x4 ≤ 2147483647) (h28 : -2147483648 ≤ x5) (h29 : x5 ≤ 2147483647) (h30 : -2147483648 ≤ x6) (h31 : x6 ≤ 2147483647) (h32 : -2147483648 ≤ x7) (h33 : x7 ≤ 2147483647) : -2147483648 ≤ x0 + x1 := by omega
theorem o32_175 {x0 x1 x2 x3 x4 x5 x6 x7 : Int} (h0 : 0 ≤ x2) (h1 : x2 ≤ 24) (h2 : 0 ≤ x3) (h3 : x3 ≤ 5) (h4 : 1 ≤ x3) (h5 : x4 = x2 % x3) (h6 : 0 ≤ x4) (h7 : x4 < x3) (h8 : x5 = 1) (h9 : x6 = x4 + x5) (h10 : 0 ≤ x7) (h11 : x7 ≤ 5) (h12 : x7 = x3) (h13 : 1 ≤ x7) (h14 : x0 = x2 / x7) (h15 : 0 ≤ x0) (h16 : x0 ≤ x2) (h17 : x1 = 0) (h18 : -2147483648 ≤ x0) (h19 : x0 ≤ 2147483647) (h20 : -2147483648 ≤ x1) (h21 : x1 ≤ 2147483647) (h22 : -2147483648 ≤ x2) (h23 : x2 ≤ 2147483647) (h24 : -2147483648 ≤ x3) (h25 : x3 ≤ 2147483647) (h26 : -2147483648 ≤ x4) (h27 : x4 ≤ 2147483647) (h28 : -2147483648 ≤ x5) (h29 : x5 ≤ 2147483647) (h30 : -2147483648 ≤ x6) (h31 : x6 ≤ 2147483647) (h32 : -2147483648 ≤ x7) (h33 : x7 ≤ 2147483647) : x0 + x1 ≤ 2147483647 := by omega
theorem o32_176 {x0 x1 x2 x3 x4 x5 x6 x7 x8 x9 x10 x11 : Int} (h0 : 0 ≤ x2) (h1 : x2 ≤ 24) (h2 : 0 ≤ x3) (h3 : x3 ≤ 5) (h4 : 1 ≤ x3) (h5 : x4 = x2 % x3) (h6 : 0 ≤ x4) (h7 : x4 < x3) (h8 : x5 = 1) (h9 : x6 = x4 + x5) (h10 : 0 ≤ x7) (h11 : x7 ≤ 5) (h12 : x7 = x3) (h13 : 1 ≤ x7) (h14 : x8 = x2 / x7) (h15 : 0 ≤ x8) (h16 : x8 ≤ x2) (h17 : x9 = 0) (h18 : x10 = x8 + x9) (h19 : x11 = x6) (h20 : 0 ≤ x0) (h21 : x0 ≤ 5) (h22 : x0 = x3) (h23 : 1 ≤ x0) (h24 : x1 = 1) (h25 : -2147483648 ≤ x0) (h26 : x0 ≤ 2147483647) (h27 : -2147483648 ≤ x1) (h28 : x1 ≤ 2147483647) (h29 : -2147483648 ≤ x2) (h30 : x2 ≤ 2147483647) (h31 : -2147483648 ≤ x3) (h32 : x3 ≤ 2147483647) (h33 : -2147483648 ≤ x4) (h34 : x4 ≤ 2147483647) (h35 : -2147483648 ≤ x5) (h36 : x5 ≤ 2147483647) (h37 : -2147483648 ≤ x6) (h38 : x6 ≤ 2147483647) (h39 : -2147483648 ≤ x7) (h40 : x7 ≤ 2147483647) (h41 : -2147483648 ≤ x8) (h42 : x8 ≤ 2147483647) (h43 : -2147483648 ≤ x9) (h44 : x9 ≤ 2147483647) (h45 : -2147483648 ≤ x10) (h46 : x10 ≤ 2147483647) : -2147483648 ≤ x0 - x1 := by omega
theorem o32_177 {x0 x1 x2 x3 x4 x5 x6 x7 x8 x9 x10 x11 : Int} (h0 : 0 ≤ x2) (h1 : x2 ≤ 24) (h2 : 0 ≤ x3) (h3 : x3 ≤ 5) (h4 : 1 ≤ x3) (h5 : x4 = x2 % x3) (h6 : 0 ≤ x4) (h7 : x4 < x3) (h8 : x5 = 1) (h9 : x6 = x4 + x5) (h10 : 0 ≤ x7) (h11 : x7 ≤ 5) (h12 : x7 = x3) (h13 : 1 ≤ x7) (h14 : x8 = x2 / x7) (h15 : 0 ≤ x8) (h16 : x8 ≤ x2) (h17 : x9 = 0) (h18 : x10 = x8 + x9) (h19 : x11 = x6) (h20 : 0 ≤ x0) (h21 : x0 ≤ 5) (h22 : x0 = x3) (h23 : 1 ≤ x0) (h24 : x1 = 1) (h25 : -2147483648 ≤ x0) (h26 : x0 ≤ 2147483647) (h27 : -2147483648 ≤ x1) (h28 : x1 ≤ 2147483647) (h29 : -2147483648 ≤ x2) (h30 : x2 ≤ 2147483647) (h31 : -2147483648 ≤ x3) (h32 : x3 ≤ 2147483647) (h33 : -2147483648 ≤ x4) (h34 : x4 ≤ 2147483647) (h35 : -2147483648 ≤ x5) (h36 : x5 ≤ 2147483647) (h37 : -2147483648 ≤ x6) (h38 : x6 ≤ 2147483647) (h39 : -2147483648 ≤ x7) (h40 : x7 ≤ 2147483647) (h41 : -2147483648 ≤ x8) (h42 : x8 ≤ 2147483647) (h43 : -2147483648 ≤ x9) (h44 : x9 ≤ 2147483647) (h45 : -2147483648 ≤ x10) (h46 : x10 ≤ 2147483647) : x0 - x1 ≤ 2147483647 := by omega
theorem o32_178 {x0 x1 x2 x3 x4 x5 x6 x7 x8 x9 x10 x11 x12 x13 x14 x15 : Int} (h0 : 0 ≤ x2) (h1 : x2 ≤ 24) (h2 : 0 ≤ x1) (h3 : x1 ≤ 5) (h4 : 1 ≤ x1) (h5 : x3 = x2 % x1) (h6 : 0 ≤ x3) (h7 : x3 < x1) (h8 : x4 = 1) (h9 : x5 = x3 + x4) (h10 : 0 ≤ x0) (h11 : x0 ≤ 5) (h12 : x0 = x1) (h13 : 1 ≤ x0) (h14 : x6 = x2 / x0) (h15 : 0 ≤ x6) (h16 : x6 ≤ x2) (h17 : x7 = 0) (h18 : x8 = x6 + x7) (h19 : x9 = x5) (h20 : x10 = 0) (h21 : 0 ≤ x11) (h22 : x11 ≤ 5) (h23 : x11 = x1) (h24 : 1 ≤ x11) (h25 : x12 = 1) (h26 : x13 = x11 - x12) (h27 : x14 = x13) (h28 : 0 ≤ x15) (h29 : x15 ≤ 1) (h30 : ((x15 = 0 ∧ (x9 < x10 ∨ x14 < x9)) ∨ (x15 = 1 ∧ x10 ≤ x9 ∧ x9 ≤ x14))) (h31 : x15 = 0) : x0 = x1 := by omega
theorem o32_179 {x0 x1 x2 x3 x4 x5 x6 x7 x8 x9 x10 x11 x12 x13 x14 x15 x16 x17 x18 x19 x20 x21 x22 : Int} (h0 : 0 ≤ x2) (h1 : x2 ≤ 24) (h2 : 0 ≤ x1) (h3 : x1 ≤ 5) (h4 : 1 ≤ x1) (h5 : x3 = x2 % x1) (h6 : 0 ≤ x3) (h7 : x3 < x1) (h8 : x4 = 1) (h9 : x5 = x3 + x4) (h10 : 0 ≤ x0) (h11 : x0 ≤ 5) (h12 : x0 = x1) (h13 : 1 ≤ x0) (h14 : x6 = x2 / x0) (h15 : 0 ≤ x6) (h16 : x6 ≤ x2) (h17 : x7 = 0) (h18 : x8 = x6 + x7) (h19 : x9 = x5) (h20 : x10 = 0) (h21 : 0 ≤ x11) (h22 : x11 ≤ 5) (h23 : x11 = x1) (h24 : 1 ≤ x11) (h25 : x12 = 1) (h26 : x13 = x11 - x12) (h27 : x14 = x13) (h28 : 0 ≤ x15) (h29 : x15 ≤ 1) (h30 : ((x15 = 0 ∧ (x9 < x10 ∨ x14 < x9)) ∨ (x15 = 1 ∧ x10 ≤ x9 ∧ x9 ≤ x14))) (h31 : ¬ x15 = 0) (h32 : x16 = x8) (h33 : x17 = 0) (h34 : 0 ≤ x18) (h35 : x18 ≤ 5) (h36 : 1 ≤ x18) (h37 : x19 = 1) (h38 : x20 = x18 - x19) (h39 : x21 = x20) (h40 : 0 ≤ x22) (h41 : x22 ≤ 1) (h42 : ((x22 = 0 ∧ (x16 < x17 ∨ x21 < x16)) ∨ (x22 = 1 ∧ x17 ≤ x16 ∧ x16 ≤ x21))) (h43 : x22 = 0) : x0 = x1 := by omega
theorem o32_180 {x0 x1 x2 x3 x4 x5 x6 x7 x8 x9 x10 x11 x12 x13 x14 x15 x16 x17 x18 x19 x20 x21 x22 x23 : Int} (h0 : 0 ≤ x1) (h1 : x1 ≤ 24) (h2 : 0 ≤ x2) (h3 : x2 ≤ 5) (h4 : 1 ≤ x2) (h5 : x3 = x1 % x2) (h6 : 0 ≤ x3) (h7 : x3 < x2) (h8 : x4 = 1) (h9 : x5 = x3 + x4) (h10 : 0 ≤ x6) (h11 : x6 ≤ 5) (h12 : x6 = x2) (h13 : 1 ≤ x6) (h14 : x7 = x1 / x6) (h15 : 0 ≤ x7) (h16 : x7 ≤ x1) (h17 : x8 = 0) (h18 : x9 = x7 + x8) (h19 : x10 = x5) (h20 : x11 = 0) (h21 : 0 ≤ x12) (h22 : x12 ≤ 5) (h23 : x12 = x2) (h24 : 1 ≤ x12) (h25 : x13 = 1) (h26 : x14 = x12 - x13) (h27 : x15 = x14) (h28 : 0 ≤ x16) (h29 : x16 ≤ 1) (h30 : ((x16 = 0 ∧ (x10 < x11 ∨ x15 < x10)) ∨ (x16 = 1 ∧ x11 ≤ x10 ∧ x10 ≤ x15))) (h31 : ¬ x16 = 0) (h32 : x17 = x9) (h33 : x18 = 0) (h34 : 0 ≤ x19) (h35 : x19 ≤ 5) (h36 : 1 ≤ x19) (h37 : x20 = 1) (h38 : x21 = x19 - x20) (h39 : x22 = x21) (h40 : 0 ≤ x23) (h41 : x23 ≤ 1) (h42 : ((x23 = 0 ∧ (x17 < x18 ∨ x22 < x17)) ∨ (x23 = 1 ∧ x18 ≤ x17 ∧ x17 ≤ x22))) (h43 : ¬ x23 = 0) (h44 : 0 ≤ x0) (h45 : x0 ≤ 5) (h46 : x0 = x2) (h47 : 1 ≤ x0) : 1 ≤ x0 := by omega
theorem o32_181 {x0 x1 x2 x3 x4 x5 x6 x7 x8 x9 x10 x11 x12 x13 x14 x15 x16 x17 x18 x19 x20 x21 x22 x23 : Int} (h0 : 0 ≤ x1) (h1 : x1 ≤ 24) (h2 : 0 ≤ x2) (h3 : x2 ≤ 5) (h4 : 1 ≤ x2) (h5 : x3 = x1 % x2) (h6 : 0 ≤ x3) (h7 : x3 < x2) (h8 : x4 = 1) (h9 : x5 = x3 + x4) (h10 : 0 ≤ x6) (h11 : x6 ≤ 5) (h12 : x6 = x2) (h13 : 1 ≤ x6) (h14 : x7 = x1 / x6) (h15 : 0 ≤ x7) (h16 : x7 ≤ x1) (h17 : x8 = 0) (h18 : x9 = x7 + x8) (h19 : x10 = x5) (h20 : x11 = 0) (h21 : 0 ≤ x12) (h22 : x12 ≤ 5) (h23 : x12 = x2) (h24 : 1 ≤ x12) (h25 : x13 = 1) (h26 : x14 = x12 - x13) (h27 : x15 = x14) (h28 : 0 ≤ x16) (h29 : x16 ≤ 1) (h30 : ((x16 = 0 ∧ (x10 < x11 ∨ x15 < x10)) ∨ (x16 = 1 ∧ x11 ≤ x10 ∧ x10 ≤ x15))) (h31 : ¬ x16 = 0) (h32 : x17 = x9) (h33 : x18 = 0) (h34 : 0 ≤ x19) (h35 : x19 ≤ 5) (h36 : 1 ≤ x19) (h37 : x20 = 1) (h38 : x21 = x19 - x20) (h39 : x22 = x21) (h40 : 0 ≤ x23) (h41 : x23 ≤ 1) (h42 : ((x23 = 0 ∧ (x17 < x18 ∨ x22 < x17)) ∨ (x23 = 1 ∧ x18 ≤ x17 ∧ x17 ≤ x22))) (h43 : ¬ x23 = 0) (h44 : 0 ≤ x0) (h45 : x0 ≤ 5) (h46 : x0 = x2) (h47 : 1 ≤ x0) : x0 ≤ 5 := by omega
theorem o32_182 {x0 x1 x2 x3 x4 x5 x6 x7 x8 x9 x10 x11 x12 x13 x14 x15 x16 x17 x18 x19 x20 x21 x22 x23 : Int} (h0 : 0 ≤ x1) (h1 : x1 ≤ 24) (h2 : 0 ≤ x2) (h3 : x2 ≤ 5) (h4 : 1 ≤ x2) (h5 : x3 = x1 % x2) (h6 : 0 ≤ x3) (h7 : x3 < x2) (h8 : x4 = 1) (h9 : x5 = x3 + x4) (h10 : 0 ≤ x6) (h11 : x6 ≤ 5) (h12 : x6 = x2) (h13 : 1 ≤ x6) (h14 : x7 = x1 / x6) (h15 : 0 ≤ x7) (h16 : x7 ≤ x1) (h17 : x8 = 0) (h18 : x0 = x7 + x8) (h19 : x9 = x5) (h20 : x10 = 0) (h21 : 0 ≤ x11) (h22 : x11 ≤ 5) (h23 : x11 = x2) (h24 : 1 ≤ x11) (h25 : x12 = 1) (h26 : x13 = x11 - x12) (h27 : x14 = x13) (h28 : 0 ≤ x15) (h29 : x15 ≤ 1) (h30 : ((x15 = 0 ∧ (x9 < x10 ∨ x14 < x9)) ∨ (x15 = 1 ∧ x10 ≤ x9 ∧ x9 ≤ x14))) (h31 : ¬ x15 = 0) (h32 : x16 = x0) (h33 : x17 = 0) (h34 : 0 ≤ x18) (h35 : x18 ≤ 5) (h36 : 1 ≤ x18) (h37 : x19 = 1) (h38 : x20 = x18 - x19) (h39 : x21 = x20) (h40 : 0 ≤ x22) (h41 : x22 ≤ 1) (h42 : ((x22 = 0 ∧ (x16 < x17 ∨ x21 < x16)) ∨ (x22 = 1 ∧ x17 ≤ x16 ∧ x16 ≤ x21))) (h43 : ¬ x22 = 0) (h44 : 0 ≤ x23) (h45 : x23 ≤ 5) (h46 : x23 = x2) (h47 : 1 ≤ x23) : 0 ≤ x0 := by omega
theorem o32_183 {x0 x1 x2 x3 x4 x5 x6 x7 x8 x9 x10 x11 x12 x13 x14 x15 x16 x17 x18 x19 x20 x21 x22 x23 : Int} (h0 : 0 ≤ x1) (h1 : x1 ≤ 24) (h2 : 0 ≤ x2) (h3 : x2 ≤ 5) (h4 : 1 ≤ x2) (h5 : x3 = x1 % x2) (h6 : 0 ≤ x3) (h7 : x3 < x2) (h8 : x4 = 1) (h9 : x5 = x3 + x4) (h10 : 0 ≤ x6) (h11 : x6 ≤ 5) (h12 : x6 = x2) (h13 : 1 ≤ x6) (h14 : x7 = x1 / x6) (h15 : 0 ≤ x7) (h16 : x7 ≤ x1) (h17 : x8 = 0) (h18 : x0 = x7 + x8) (h19 : x9 = x5) (h20 : x10 = 0) (h21 : 0 ≤ x11) (h22 : x11 ≤ 5) (h23 : x11 = x2) (h24 : 1 ≤ x11) (h25 : x12 = 1) (h26 : x13 = x11 - x12) (h27 : x14 = x13) (h28 : 0 ≤ x15) (h29 : x15 ≤ 1) (h30 : ((x15 = 0 ∧ (x9 < x10 ∨ x14 < x9)) ∨ (x15 = 1 ∧ x10 ≤ x9 ∧ x9 ≤ x14))) (h31 : ¬ x15 = 0) (h32 : x16 = x0) (h33 : x17 = 0) (h34 : 0 ≤ x18) (h35 : x18 ≤ 5) (h36 : 1 ≤ x18) (h37 : x19 = 1) (h38 : x20 = x18 - x19) (h39 : x21 = x20) (h40 : 0 ≤ x22) (h41 : x22 ≤ 1) (h42 : ((x22 = 0 ∧ (x16 < x17 ∨ x21 < x16)) ∨ (x22 = 1 ∧ x17 ≤ x16 ∧ x16 ≤ x21))) (h43 : ¬ x22 = 0) (h44 : 0 ≤ x23) (h45 : x23 ≤ 5) (h46 : x23 = x2) (h47 : 1 ≤ x23) : x0 ≤ 4 := by omega
theorem o32_184 {x0 x1 x2 x3 x4 x5 x6 x7 x8 x9 x10 x11 x12 x13 x14 x15 x16 x17 x18 x19 x20 x21 x22 x23 x24 : Int} (h0 : 0 ≤ x2) (h1 : x2 ≤ 24) (h2 : 0 ≤ x3) (h3 : x3 ≤ 5) (h4 : 1 ≤ x3) (h5 : x4 = x2 % x3) (h6 : 0 ≤ x4) (h7 : x4 < x3) (h8 : x5 = 1) (h9 : x1 = x4 + x5) (h10 : 0 ≤ x6) (h11 : x6 ≤ 5) (h12 : x6 = x3) (h13 : 1 ≤ x6) (h14 : x7 = x2 / x6) (h15 : 0 ≤ x7) (h16 : x7 ≤ x2) (h17 : x8 = 0) (h18 : x9 = x7 + x8) (h19 : x10 = x1) (h20 : x11 = 0) (h21 : 0 ≤ x12) (h22 : x12 ≤ 5) (h23 : x12 = x3) (h24 : 1 ≤ x12) (h25 : x13 = 1) (h26 : x14 = x12 - x13) (h27 : x15 = x14) (h28 : 0 ≤ x16) (h29 : x16 ≤ 1) (h30 : ((x16 = 0 ∧ (x10 < x11 ∨ x15 < x10)) ∨ (x16 = 1 ∧ x11 ≤ x10 ∧ x10 ≤ x15))) (h31 : ¬ x16 = 0) (h32 : x17 = x9) (h33 : x18 = 0) (h34 : 0 ≤ x19) (h35 : x19 ≤ 5) (h36 : 1 ≤ x19) (h37 : x20 = 1) (h38 : x21 = x19 - x20) (h39 : x22 = x21) (h40 : 0 ≤ x23) (h41 : x23 ≤ 1) (h42 : ((x23 = 0 ∧ (x17 < x18 ∨ x22 < x17)) ∨ (x23 = 1 ∧ x18 ≤ x17 ∧ x17 ≤ x22))) (h43 : ¬ x23 = 0) (h44 : 0 ≤ x24) (h45 : x24 ≤ 5) (h46 : x24 = x3) (h47 : 1 ≤ x24) (h48 : 1 * 0 ≤ x0) (h49 : x0 ≤ 5 * 4) (h50 : -2147483648 ≤ x0) (h51 : x0 ≤ 2147483647) (h52 : -2147483648 ≤ x1) (h53 : x1 ≤ 2147483647) (h54 : -2147483648 ≤ x2) (h55 : x2 ≤ 2147483647) (h56 : -2147483648 ≤ x3) (h57 : x3 ≤ 2147483647) (h58 : -2147483648 ≤ x4) (h59 : x4 ≤ 2147483647) (h60 : -2147483648 ≤ x5) (h61 : x5 ≤ 2147483647) (h62 : -2147483648 ≤ x6) (h63 : x6 ≤ 2147483647) (h64 : -2147483648 ≤ x7) (h65 : x7 ≤ 2147483647) (h66 : -2147483648 ≤ x8) (h67 : x8 ≤ 2147483647) (h68 : -2147483648 ≤ x9) (h69 : x9 ≤ 2147483647) (h70 : -2147483648 ≤ x12) (h71 : x12 ≤ 2147483647) (h72 : -2147483648 ≤ x13) (h73 : x13 ≤ 2147483647) (h74 : -2147483648 ≤ x14) (h75 : x14 ≤ 2147483647) (h76 : -2147483648 ≤ x16) (h77 : x16 ≤ 2147483647) (h78 : -2147483648 ≤ x19) (h79 : x19 ≤ 2147483647) (h80 : -2147483648 ≤ x20) (h81 : x20 ≤ 2147483647) (h82 : -2147483648 ≤ x21) (h83 : x21 ≤ 2147483647) (h84 : -2147483648 ≤ x23) (h85 : x23 ≤ 2147483647) (h86 : -2147483648 ≤ x24) (h87 : x24 ≤ 2147483647) : -2147483648 ≤ x0 + x1 := by omega
theorem o32_185 {x0 x1 x2 x3 x4 x5 x6 x7 x8 x9 x10 x11 x12 x13 x14 x15 x16 x17 x18 x19 x20 x21 x22 x23 x24 : Int} (h0 : 0 ≤ x2) (h1 : x2 ≤ 24) (h2 : 0 ≤ x3) (h3 : x3 ≤ 5) (h4 : 1 ≤ x3) (h5 : x4 = x2 % x3) (h6 : 0 ≤ x4) (h7 : x4 < x3) (h8 : x5 = 1) (h9 : x1 = x4 + x5) (h10 : 0 ≤ x6) (h11 : x6 ≤ 5) (h12 : x6 = x3) (h13 : 1 ≤ x6) (h14 : x7 = x2 / x6) (h15 : 0 ≤ x7) (h16 : x7 ≤ x2) (h17 : x8 = 0) (h18 : x9 = x7 + x8) (h19 : x10 = x1) (h20 : x11 = 0) (h21 : 0 ≤ x12) (h22 : x12 ≤ 5) (h23 : x12 = x3) (h24 : 1 ≤ x12) (h25 : x13 = 1) (h26 : x14 = x12 - x13) (h27 : x15 = x14) (h28 : 0 ≤ x16) (h29 : x16 ≤ 1) (h30 : ((x16 = 0 ∧ (x10 < x11 ∨ x15 < x10)) ∨ (x16 = 1 ∧ x11 ≤ x10 ∧ x10 ≤ x15))) (h31 : ¬ x16 = 0) (h32 : x17 = x9) (h33 : x18 = 0) (h34 : 0 ≤ x19) (h35 : x19 ≤ 5) (h36 : 1 ≤ x19) (h37 : x20 = 1) (h38 : x21 = x19 - x20) (h39 : x22 = x21) (h40 : 0 ≤ x23) (h41 : x23 ≤ 1) (h42 : ((x23 = 0 ∧ (x17 < x18 ∨ x22 < x17)) ∨ (x23 = 1 ∧ x18 ≤ x17 ∧ x17 ≤ x22))) (h43 : ¬ x23 = 0) (h44 : 0 ≤ x24) (h45 : x24 ≤ 5) (h46 : x24 = x3) (h47 : 1 ≤ x24) (h48 : 1 * 0 ≤ x0) (h49 : x0 ≤ 5 * 4) (h50 : -2147483648 ≤ x0) (h51 : x0 ≤ 2147483647) (h52 : -2147483648 ≤ x1) (h53 : x1 ≤ 2147483647) (h54 : -2147483648 ≤ x2) (h55 : x2 ≤ 2147483647) (h56 : -2147483648 ≤ x3) (h57 : x3 ≤ 2147483647) (h58 : -2147483648 ≤ x4) (h59 : x4 ≤ 2147483647) (h60 : -2147483648 ≤ x5) (h61 : x5 ≤ 2147483647) (h62 : -2147483648 ≤ x6) (h63 : x6 ≤ 2147483647) (h64 : -2147483648 ≤ x7) (h65 : x7 ≤ 2147483647) (h66 : -2147483648 ≤ x8) (h67 : x8 ≤ 2147483647) (h68 : -2147483648 ≤ x9) (h69 : x9 ≤ 2147483647) (h70 : -2147483648 ≤ x12) (h71 : x12 ≤ 2147483647) (h72 : -2147483648 ≤ x13) (h73 : x13 ≤ 2147483647) (h74 : -2147483648 ≤ x14) (h75 : x14 ≤ 2147483647) (h76 : -2147483648 ≤ x16) (h77 : x16 ≤ 2147483647) (h78 : -2147483648 ≤ x19) (h79 : x19 ≤ 2147483647) (h80 : -2147483648 ≤ x20) (h81 : x20 ≤ 2147483647) (h82 : -2147483648 ≤ x21) (h83 : x21 ≤ 2147483647) (h84 : -2147483648 ≤ x23) (h85 : x23 ≤ 2147483647) (h86 : -2147483648 ≤ x24) (h87 : x24 ≤ 2147483647) : x0 + x1 ≤ 2147483647 := by omega
theorem o32_186 {x0 x1 x2 x3 x4 x5 x6 x7 x8 x9 x10 x11 x12 x13 x14 x15 x16 x17 x18 x19 x20 x21 x22 x23 x24 x25 : Int} (h0 : 0 ≤ x1) (h1 : x1 ≤ 24) (h2 : 0 ≤ x2) (h3 : x2 ≤ 5) (h4 : 1 ≤ x2) (h5 : x3 = x1 % x2) (h6 : 0 ≤ x3) (h7 : x3 < x2) (h8 : x4 = 1) (h9 : x5 = x3 + x4) (h10 : 0 ≤ x6) (h11 : x6 ≤ 5) (h12 : x6 = x2) (h13 : 1 ≤ x6) (h14 : x7 = x1 / x6) (h15 : 0 ≤ x7) (h16 : x7 ≤ x1) (h17 : x8 = 0) (h18 : x9 = x7 + x8) (h19 : x10 = x5) (h20 : x11 = 0) (h21 : 0 ≤ x12) (h22 : x12 ≤ 5) (h23 : x12 = x2) (h24 : 1 ≤ x12) (h25 : x13 = 1) (h26 : x14 = x12 - x13) (h27 : x15 = x14) (h28 : 0 ≤ x16) (h29 : x16 ≤ 1) (h30 : ((x16 = 0 ∧ (x10 < x11 ∨ x15 < x10)) ∨ (x16 = 1 ∧ x11 ≤ x10 ∧ x10 ≤ x15))) (h31 : ¬ x16 = 0) (h32 : x17 = x9) (h33 : x18 = 0) (h34 : x19 = x20 - x21) (h35 : x22 = x19) (h36 : 0 ≤ x23) (h37 : x23 ≤ 1) (h38 : ((x23 = 0 ∧ (x17 < x18 ∨ x22 < x17)) ∨ (x23 = 1 ∧ x18 ≤ x17 ∧ x17 ≤ x22))) (h39 : ¬ x23 = 0) (h40 : 0 ≤ x24) (h41 : x24 ≤ 5) (h42 : x24 = x2) (h43 : 1 ≤ x24) (h44 : 1 * 0 ≤ x25) (h45 : x25 ≤ 5 * 4) (h46 : x0 = x25 + x5) : (-1) ≤ x0 := by omega
theorem o32_187 {x0 x1 x2 x3 x4 x5 x6 x7 x8 x9 x10 x11 x12 x13 x14 x15 x16 x17 x18 x19 x20 x21 x22 x23 x24 x25 : Int} (h0 : 0 ≤ x1) (h1 : x1 ≤ 24) (h2 : 0 ≤ x2) (h3 : x2 ≤ 5) (h4 : 1 ≤ x2) (h5 : x3 = x1 % x2) (h6 : 0 ≤ x3) (h7 : x3 < x2) (h8 : x4 = 1) (h9 : x5 = x3 + x4) (h10 : 0 ≤ x6) (h11 : x6 ≤ 5) (h12 : x6 = x2) (h13 : 1 ≤ x6) (h14 : x7 = x1 / x6) (h15 : 0 ≤ x7) (h16 : x7 ≤ x1) (h17 : x8 = 0) (h18 : x9 = x7 + x8) (h19 : x10 = x5) (h20 : x11 = 0) (h21 : 0 ≤ x12) (h22 : x12 ≤ 5) (h23 : x12 = x2) (h24 : 1 ≤ x12) (h25 : x13 = 1) (h26 : x14 = x12 - x13) (h27 : x15 = x14) (h28 : 0 ≤ x16) (h29 : x16 ≤ 1) (h30 : ((x16 = 0 ∧ (x10 < x11 ∨ x15 < x10)) ∨ (x16 = 1 ∧ x11 ≤ x10 ∧ x10 ≤ x15))) (h31 : ¬ x16 = 0) (h32 : x17 = x9) (h33 : x18 = 0) (h34 : x19 = x20 - x21) (h35 : x22 = x19) (h36 : 0 ≤ x23) (h37 : x23 ≤ 1) (h38 : ((x23 = 0 ∧ (x17 < x18 ∨ x22 < x17)) ∨ (x23 = 1 ∧ x18 ≤ x17 ∧ x17 ≤ x22))) (h39 : ¬ x23 = 0) (h40 : 0 ≤ x24) (h41 : x24 ≤ 5) (h42 : x24 = x2) (h43 : 1 ≤ x24) (h44 : 1 * 0 ≤ x25) (h45 : x25 ≤ 5 * 4) (h46 : x0 = x25 + x5) : x0 ≤ 24 := by omega
theorem o32_188 {x0 x1 x2 x3 x4 x5 x6 x7 x8 x9 x10 x11 x12 x13 x14 x15 x16 x17 x18 x19 x20 x21 x22 x23 x24 x25 : Int} (h0 : 0 ≤ x2) (h1 : x2 ≤ 24) (h2 : 0 ≤ x1) (h3 : x1 ≤ 5) (h4 : 1 ≤ x1) (h5 : x3 = x2 % x1) (h6 : 0 ≤ x3) (h7 : x3 < x1) (h8 : x4 = 1) (h9 : x5 = x3 + x4) (h10 : 0 ≤ x6) (h11 : x6 ≤ 5) (h12 : x6 = x1) (h13 : 1 ≤ x6) (h14 : x7 = x2 / x6) (h15 : 0 ≤ x7) (h16 : x7 ≤ x2) (h17 : x8 = 0) (h18 : x9 = x7 + x8) (h19 : x10 = x5) (h20 : x11 = 0) (h21 : 0 ≤ x12) (h22 : x12 ≤ 5) (h23 : x12 = x1) (h24 : 1 ≤ x12) (h25 : x13 = 1) (h26 : x14 = x12 - x13) (h27 : x15 = x14) (h28 : 0 ≤ x16) (h29 : x16 ≤ 1) (h30 : ((x16 = 0 ∧ (x10 < x11 ∨ x15 < x10)) ∨ (x16 = 1 ∧ x11 ≤ x10 ∧ x10 ≤ x15))) (h31 : ¬ x16 = 0) (h32 : x17 = x9) (h33 : x18 = 0) (h34 : 0 ≤ x19) (h35 : x19 ≤ 5) (h36 : 1 ≤ x19) (h37 : x20 = 1) (h38 : x21 = x19 - x20) (h39 : x22 = x21) (h40 : 0 ≤ x23) (h41 : x23 ≤ 1) (h42 : ((x23 = 0 ∧ (x17 < x18 ∨ x22 < x17)) ∨ (x23 = 1 ∧ x18 ≤ x17 ∧ x17 ≤ x22))) (h43 : ¬ x23 = 0) (h44 : 0 ≤ x0) (h45 : x0 ≤ 5) (h46 : x0 = x1) (h47 : 1 ≤ x0) (h48 : 1 * 0 ≤ x24) (h49 : x24 ≤ 5 * 4) (h50 : x25 = x24 + x5) : x0 = x1 := by omega
theorem o32_189 {x0 x1 x2 x3 x4 x5 x6 x7 x8 x9 x10 x11 x12 x13 x14 x15 x16 x17 x18 x19 x20 x21 x22 x23 x24 x25 : Int} (h0 : 0 ≤ x1) (h1 : x1 ≤ 24) (h2 : 0 ≤ x2) (h3 : x2 ≤ 5) (h4 : 1 ≤ x2) (h5 : x3 = x1 % x2) (h6 : 0 ≤ x3) (h7 : x3 < x2) (h8 : x4 = 1) (h9 : x5 = x3 + x4) (h10 : 0 ≤ x6) (h11 : x6 ≤ 5) (h12 : x6 = x2) (h13 : 1 ≤ x6) (h14 : x7 = x1 / x6) (h15 : 0 ≤ x7) (h16 : x7 ≤ x1) (h17 : x8 = 0) (h18 : x0 = x7 + x8) (h19 : x9 = x5) (h20 : x10 = 0) (h21 : 0 ≤ x11) (h22 : x11 ≤ 5) (h23 : x11 = x2) (h24 : 1 ≤ x11) (h25 : x12 = 1) (h26 : x13 = x11 - x12) (h27 : x14 = x13) (h28 : 0 ≤ x15) (h29 : x15 ≤ 1) (h30 : ((x15 = 0 ∧ (x9 < x10 ∨ x14 < x9)) ∨ (x15 = 1 ∧ x10 ≤ x9 ∧ x9 ≤ x14))) (h31 : ¬ x15 = 0) (h32 : x16 = x0) (h33 : x17 = 0) (h34 : 0 ≤ x18) (h35 : x18 ≤ 5) (h36 : 1 ≤ x18) (h37 : x19 = 1) (h38 : x20 = x18 - x19) (h39 : x21 = x20) (h40 : 0 ≤ x22) (h41 : x22 ≤ 1) (h42 : ((x22 = 0 ∧ (x16 < x17 ∨ x21 < x16)) ∨ (x22 = 1 ∧ x17 ≤ x16 ∧ x16 ≤ x21))) (h43 : ¬ x22 = 0) (h44 : 0 ≤ x23) (h45 : x23 ≤ 5) (h46 : x23 = x2) (h47 : 1 ≤ x23) (h48 : 1 * 0 ≤ x24) (h49 : x24 ≤ 5 * 4) (h50 : x25 = x24 + x5) : x0 = x0 := by omega
theorem o32_190 {x0 x1 x2 x3 x4 x5 x6 x7 x8 x9 x10 x11 x12 x13 x14 x15 x16 x17 x18 x19 x20 x21 x22 x23 x24 x25 : Int} (h0 : 0 ≤ x2) (h1 : x2 ≤ 24) (h2 : 0 ≤ x1) (h3 : x1 ≤ 5) (h4 : 1 ≤ x1) (h5 : x3 = x2 % x1) (h6 : 0 ≤ x3) (h7 : x3 < x1) (h8 : x4 = 1) (h9 : x5 = x3 + x4) (h10 : 0 ≤ x0) (h11 : x0 ≤ 5) (h12 : x0 = x1) (h13 : 1 ≤ x0) (h14 : x6 = x2 / x0) (h15 : 0 ≤ x6) (h16 : x6 ≤ x2) (h17 : x7 = 0) (h18 : x8 = x6 + x7) (h19 : x9 = x5) (h20 : x10 = 0) (h21 : 0 ≤ x11) (h22 : x11 ≤ 5) (h23 : x11 = x1) (h24 : 1 ≤ x11) (h25 : x12 = 1) (h26 : x13 = x11 - x12) (h27 : x14 = x13) (h28 : 0 ≤ x15) (h29 : x15 ≤ 1) (h30 : ((x15 = 0 ∧ (x9 < x10 ∨ x14 < x9)) ∨ (x15 = 1 ∧ x10 ≤ x9 ∧ x9 ≤ x14))) (h31 : ¬ x15 = 0) (h32 : x16 = x8) (h33 : x17 = 0) (h34 : 0 ≤ x18) (h35 : x18 ≤ 5) (h36 : 1 ≤ x18) (h37 : x19 = 1) (h38 : x20 = x18 - x19) (h39 : x21 = x20) (h40 : 0 ≤ x22) (h41 : x22 ≤ 1) (h42 : ((x22 = 0 ∧ (x16 < x17 ∨ x21 < x16)) ∨ (x22 = 1 ∧ x17 ≤ x16 ∧ x16 ≤ x21))) (h43 : ¬ x22 = 0) (h44 : 0 ≤ x23) (h45 : x23 ≤ 5) (h46 : x23 = x1) (h47 : 1 ≤ x23) (h48 : 1 * 0 ≤ x24) (h49 : x24 ≤ 5 * 4) (h50 : x25 = x24 + x5) : x0 = x1 := by omega
theorem o32_191 {x0 x1 : Int} (h0 : 0 ≤ x1) (h1 : x1 ≤ 24) (h2 : x0 = 11) (h3 : -2147483648 ≤ x0) (h4 : x0 ≤ 2147483647) (h5 : -2147483648 ≤ x1) (h6 : x1 ≤ 2147483647) : -2147483648 ≤ x0 + x1 := by omega
theorem o32_192 {x0 x1 : Int} (h0 : 0 ≤ x1) (h1 : x1 ≤ 24) (h2 : x0 = 11) (h3 : -2147483648 ≤ x0) (h4 : x0 ≤ 2147483647) (h5 : -2147483648 ≤ x1) (h6 : x1 ≤ 2147483647) : x0 + x1 ≤ 2147483647 := by omega
theorem o32_193 {x0 x1 x2 : Int} (h0 : 0 ≤ x1) (h1 : x1 ≤ 24) (h2 : x2 = 11) (h3 : x0 = x2 + x1) : 0 ≤ x0 := by omega
theorem o32_194 {x0 x1 x2 : Int} (h0 : 0 ≤ x1) (h1 : x1 ≤ 24) (h2 : x2 = 11) (h3 : x0 = x2 + x1) : x0 < (5322 : Nat) := by omega
theorem o32_195 {x0 x1 x2 : Int} (h0 : 0 ≤ x0) (h1 : x0 ≤ 24) (h2 : x1 = 11) (h3 : x2 = x1 + x0) : 0 ≤ x0 := by omega
theorem o32_196 {x0 x1 x2 : Int} (h0 : 0 ≤ x0) (h1 : x0 ≤ 24) (h2 : x1 = 11) (h3 : x2 = x1 + x0) : x0 ≤ 24 := by omega
theorem o32_197 {x0 : Int} (h0 : 0 ≤ x0) (h1 : x0 ≤ 3) : 0 ≤ x0 := by omega
theorem o32_198 {x0 : Int} (h0 : 0 ≤ x0) (h1 : x0 ≤ 3) : x0 ≤ 3 := by omega
theorem o32_199 {x0 : Int} (h0 : (-1) ≤ x0) (h1 : x0 ≤ 24) : (-1) ≤ x0 := by omega
theorem o32_200 {x0 : Int} (h0 : (-1) ≤ x0) (h1 : x0 ≤ 24) : x0 ≤ 24 := by omega
theorem o32_201 {x0 x1 x2 : Int} (h0 : 0 ≤ x1) (h1 : x1 ≤ 24) (h2 : x2 = 11) (h3 : x0 = x2 + x1) : (x0).toNat = 11 + (x1).toNat := by omega
theorem o32_202 {x0 : Int} (h0 : 0 ≤ x0) (h1 : x0 ≤ 1) (h2 : x0 = 0) (h3 : x0 = 1) : False := by omega
theorem o32_203 {x0 : Int} (h0 : 0 ≤ x0) (h1 : x0 ≤ 1) (h2 : ¬ x0 = 0) (h3 : x0 = 0) : False := by omega
theorem o32_204 {x0 : Int} (h0 : x0 = (-1)) : x0 = -1 := by omega
theorem o32_205 {x0 : Int} (h0 : x0 = 10) : 0 ≤ x0 := by omega
theorem o32_206 {x0 : Int} (h0 : x0 = 10) : x0 < (5322 : Nat) := by omega
theorem o32_207 {x0 : Int} (h0 : x0 = 10) : x0 = ((10 : Nat) : Int) := by omega
theorem o32_208 {x0 : Int} (h0 : x0 = 111) : 0 ≤ x0 := by omega
theorem o32_209 {x0 : Int} (h0 : x0 = 111) : x0 < (5322 : Nat) := by omega
theorem o32_210 {x0 : Int} (h0 : x0 = 111) : x0 = ((111 : Nat) : Int) := by omega
theorem o32_211 {x0 x1 : Int} (h0 : 0 ≤ x1) (h1 : x1 ≤ 24) (h2 : x0 = 86) (h3 : -2147483648 ≤ x0) (h4 : x0 ≤ 2147483647) (h5 : -2147483648 ≤ x1) (h6 : x1 ≤ 2147483647) : -2147483648 ≤ x0 + x1 := by omega
theorem o32_212 {x0 x1 : Int} (h0 : 0 ≤ x1) (h1 : x1 ≤ 24) (h2 : x0 = 86) (h3 : -2147483648 ≤ x0) (h4 : x0 ≤ 2147483647) (h5 : -2147483648 ≤ x1) (h6 : x1 ≤ 2147483647) : x0 + x1 ≤ 2147483647 := by omega
theorem o32_213 {x0 x1 x2 : Int} (h0 : 0 ≤ x1) (h1 : x1 ≤ 24) (h2 : x2 = 86) (h3 : x0 = x2 + x1) : 0 ≤ x0 := by omega
theorem o32_214 {x0 x1 x2 : Int} (h0 : 0 ≤ x1) (h1 : x1 ≤ 24) (h2 : x2 = 86) (h3 : x0 = x2 + x1) : x0 < (5322 : Nat) := by omega
theorem o32_215 {x0 x1 x2 : Int} (h0 : 0 ≤ x1) (h1 : x1 ≤ 24) (h2 : x2 = 86) (h3 : x0 = x2 + x1) : (x0).toNat = 86 + (x1).toNat := by omega
theorem o32_216 {x0 x1 : Int} (h0 : x1 ≤ x0) (h1 : x0 < x1) : False := by omega
theorem o32_217 {x0 x1 : Int} (h0 : x0 < x1) : x0 < x1 := by omega
theorem o32_218 {x0 : Int} (h0 : x0 = 0) (h1 : ¬ x0 = 0) : False := by omega
theorem o32_219 {x0 : Int} (h0 : x0 = 1) (h1 : x0 = 0) : False := by omega
theorem o32_220 {x0 : Int} (h0 : x0 = (-1000000)) : -2147483648 ≤ x0 := by omega
theorem o32_221 {x0 : Int} (h0 : x0 = (-1000000)) : x0 ≤ 2147483647 := by omega
theorem o32_222 {x0 : Int} (h0 : x0 = 1000000) : -2147483648 ≤ x0 := by omega
theorem o32_223 {x0 : Int} (h0 : x0 = 1000000) : x0 ≤ 2147483647 := by omega
theorem o32_224 {x0 : Int} (h0 : x0 = 24) : x0 ≠ 0 := by omega
theorem o32_225 {x0 x1 : Int} (h0 : 0 ≤ x1) (h1 : x1 ≤ 24) (h2 : x0 = 61) (h3 : -2147483648 ≤ x0) (h4 : x0 ≤ 2147483647) (h5 : -2147483648 ≤ x1) (h6 : x1 ≤ 2147483647) : -2147483648 ≤ x0 + x1 := by omega
theorem o32_226 {x0 x1 : Int} (h0 : 0 ≤ x1) (h1 : x1 ≤ 24) (h2 : x0 = 61) (h3 : -2147483648 ≤ x0) (h4 : x0 ≤ 2147483647) (h5 : -2147483648 ≤ x1) (h6 : x1 ≤ 2147483647) : x0 + x1 ≤ 2147483647 := by omega
theorem o32_227 {x0 x1 x2 : Int} (h0 : 0 ≤ x1) (h1 : x1 ≤ 24) (h2 : x2 = 61) (h3 : x0 = x2 + x1) : 0 ≤ x0 := by omega
theorem o32_228 {x0 x1 x2 : Int} (h0 : 0 ≤ x1) (h1 : x1 ≤ 24) (h2 : x2 = 61) (h3 : x0 = x2 + x1) : x0 < (5322 : Nat) := by omega
theorem o32_229 {x0 x1 : Int} (h0 : x0 ≤ x1) : (x0 = x1 ∨ x0 = x0) := by omega
theorem o32_230 {x0 x1 : Int} (h0 : x0 ≤ x1) : x0 ≤ x1 ∧ x0 ≤ x0 := by omega
theorem o32_231 {x0 x1 : Int} (h0 : x0 < x1) : (x0 = x0 ∨ x0 = x1) := by omega
theorem o32_232 {x0 x1 : Int} (h0 : x0 < x1) : x0 ≤ x0 ∧ x0 ≤ x1 := by omega
set_option maxHeartbeats 4000000 in
set_option maxRecDepth 100000 in
theorem c_X12_within (l : Launch) (G : GG) (Z : RZ) (ad : Nat → Nat) (ws0 : va_W) (hT : Ty G (SM tt) ad ws0) (a0 : Int64) (a1 : Int64) (a2 : Int64) : Mq l yX12_within cX12_within 6 (some .boolean) 1 G Z [.long a0, .long a1, .long a2] ws0 (PI G (SM tt) ad [] ws0 (fun r u => (0 ≤ r.toInt) ∧ (r.toInt ≤ 1) ∧ (((r.toInt = 0 ∧ (a0.toInt < a1.toInt ∨ a2.toInt < a0.toInt)) ∨ (r.toInt = 1 ∧ a1.toInt ≤ a0.toInt ∧ a0.toInt ≤ a2.toInt))))) := by
  refine Mq.start (by decide) (Nat.le_of_ble_eq_true rfl) ?_
  intro p e s m below meth c A ls C0 hZ h hl
  have hl : lv_has ls 6 [(0, .long a0), (2, .long a1), (4, .long a2)] := hl
  have h : Wt G (SM tt) ad A s s.heap [] ws0 := ⟨h, hT⟩
  obtain ⟨args, hargs⟩ : ∃ z, z = ([.long a0, .long a1, .long a2] : List Value).toArray := ⟨_, rfl⟩
  rw [← hargs] at C0 ⊢
  have C0 : Cx p s m args meth c RX12 cX12_within 6 (some .boolean) := C0
  obtain ⟨Q, hQ⟩ : ∃ z, z = MQ below ((PI G (SM tt) ad [] ws0 (fun r u => (0 ≤ r.toInt) ∧ (r.toInt ≤ 1) ∧ (((r.toInt = 0 ∧ (a0.toInt < a1.toInt ∨ a2.toInt < a0.toInt)) ∨ (r.toInt = 1 ∧ a1.toInt ≤ a0.toInt ∧ a0.toInt ≤ a2.toInt))))) A) args s 0 0 A := ⟨_, rfl⟩
  rw [← hQ]
  refine lv_lload_n C0.1 C0.2.1 dX12_within_0 rfl (lv_at hl 0 rfl) ?_
  refine lv_lload_n C0.1 C0.2.1 dX12_within_1 rfl (lv_at hl 1 rfl) ?_
  refine y_lcmp C0 dX12_within_2 (fun v_1 e_2 => ?_)
  refine y_if_lt (tgt := 17) C0 dX12_within_3 (by decide) (fun c_3 => ?_) (fun c_3 => ?_)
  · -- 3
    refine y_c1 (n := 0) C0 (by decide) dX12_within_17 (fun v_4 e_5 => ?_)
    rw [hQ]
    exact y_zret C0 h (o32_1 e_5) (o32_2 e_5) Fr.rf ⟨(o32_1 e_5), (o32_2 e_5), (o32_3 e_2 c_3 e_5)⟩ dX12_within_18
  · -- 3
    refine lv_lload_n C0.1 C0.2.1 dX12_within_6 rfl (lv_at hl 0 rfl) ?_
    refine lv_lload C0.1 C0.2.1 dX12_within_7 (lv_at hl 2 rfl) ?_
    refine y_lcmp C0 dX12_within_9 (fun v_6 e_7 => ?_)
    refine y_if_gt (tgt := 17) C0 dX12_within_10 (by decide) (fun c_8 => ?_) (fun c_8 => ?_)
    · -- 10
      refine y_c1 (n := 0) C0 (by decide) dX12_within_17 (fun v_9 e_10 => ?_)
      rw [hQ]
      exact y_zret C0 h (o32_1 e_10) (o32_2 e_10) Fr.rf ⟨(o32_1 e_10), (o32_2 e_10), (o32_4 e_2 c_3 e_7 c_8 e_10)⟩ dX12_within_18
    · -- 10
      refine y_c1 (n := 1) C0 (by decide) dX12_within_13 (fun v_11 e_12 => ?_)
      refine lv_goto (tgt := 18) C0.1 C0.2.1 dX12_within_14 (by decide) ?_
      rw [hQ]
      exact y_zret C0 h (o32_5 e_12) (o32_6 e_12) Fr.rf ⟨(o32_5 e_12), (o32_6 e_12), (o32_7 e_2 c_3 e_7 c_8 e_12)⟩ dX12_within_18
set_option maxHeartbeats 4000000 in
set_option maxRecDepth 100000 in
theorem c_X12_isIn (l : Launch) (G : GG) (Z : RZ) (ad : Nat → Nat) (ws0 : va_W) (hT : Ty G (SM tt) ad ws0) (a0 : Int64) (a1 : Int32) : Mq l yX12_isIn cX12_isIn 3 (some .boolean) 1 G Z [.long a0, .int a1] ws0 (PI G (SM tt) ad [] ws0 (fun r u => (0 ≤ r.toInt) ∧ (r.toInt ≤ 1) ∧ ((r.toInt = 1 ∧ inB a0 a1) ∨ (r.toInt = 0 ∧ ¬ inB a0 a1)))) := by
  refine Mq.start (by decide) (Nat.le_of_ble_eq_true rfl) ?_
  intro p e s m below meth c A ls C0 hZ h hl
  have hl : lv_has ls 3 [(0, .long a0), (2, .int a1)] := hl
  have h : Wt G (SM tt) ad A s s.heap [] ws0 := ⟨h, hT⟩
  obtain ⟨args, hargs⟩ : ∃ z, z = ([.long a0, .int a1] : List Value).toArray := ⟨_, rfl⟩
  rw [← hargs] at C0 ⊢
  have C0 : Cx p s m args meth c RX12 cX12_isIn 3 (some .boolean) := C0
  obtain ⟨Q, hQ⟩ : ∃ z, z = MQ below ((PI G (SM tt) ad [] ws0 (fun r u => (0 ≤ r.toInt) ∧ (r.toInt ≤ 1) ∧ ((r.toInt = 1 ∧ inB a0 a1) ∨ (r.toInt = 0 ∧ ¬ inB a0 a1)))) A) args s 0 0 A := ⟨_, rfl⟩
  rw [← hQ]
  refine lv_lload_n C0.1 C0.2.1 dX12_isIn_0 rfl (lv_at hl 0 rfl) ?_
  refine lv_iload_n C0.1 C0.2.1 dX12_isIn_1 rfl (lv_at hl 1 rfl) ?_
  refine y_lshrX C0 dX12_isIn_2 (fun w_1 e_2 => ?_)
  refine y_lc (v := 1) C0 (by decide) dX12_isIn_3 (fun w_3 e_4 => ?_)
  refine y_landX C0 dX12_isIn_4 (fun w_5 e_6 => ?_)
  refine y_lc (v := 1) C0 (by decide) dX12_isIn_5 (fun w_7 e_8 => ?_)
  refine y_lcmp C0 dX12_isIn_6 (fun v_9 e_10 => ?_)
  refine y_if_ne (tgt := 14) C0 dX12_isIn_7 (by decide) (fun c_11 => ?_) (fun c_11 => ?_)
  · -- 7
    refine y_c1 (n := 0) C0 (by decide) dX12_isIn_14 (fun v_12 e_13 => ?_)
    rw [hQ]
    exact y_zret C0 h (o32_1 e_13) (o32_2 e_13) Fr.rf ⟨(o32_1 e_13), (o32_2 e_13), (Or.inr ⟨(o32_8 e_13), fun q => (o32_9 e_8 e_10 c_11 ((inB_of e_2 e_4 e_6).mp q))⟩)⟩ dX12_isIn_15
  · -- 7
    refine y_c1 (n := 1) C0 (by decide) dX12_isIn_10 (fun v_14 e_15 => ?_)
    refine lv_goto (tgt := 15) C0.1 C0.2.1 dX12_isIn_11 (by decide) ?_
    rw [hQ]
    exact y_zret C0 h (o32_5 e_15) (o32_6 e_15) Fr.rf ⟨(o32_5 e_15), (o32_6 e_15), (Or.inl ⟨(o32_10 e_15), (inB_of e_2 e_4 e_6).mpr (o32_11 e_8 e_10 c_11)⟩)⟩ dX12_isIn_15
set_option maxHeartbeats 4000000 in
set_option maxRecDepth 100000 in
theorem c_X12_see (l : Launch) (G : GG) (Z : RZ) (ad : Nat → Nat) (ws0 : va_W) (hT : Ty G (SM tt) ad ws0) (a1 : Int32) (l1 : 0 ≤ a1.toInt) (u1 : a1.toInt ≤ 901) : Mq l yX12_see cX12_see 2 (some .int) 1 G Z [.ref (ad 0), .int a1] ws0 (PI G (SM tt) ad [] ws0 (fun r u => ((-1) ≤ r.toInt) ∧ (r.toInt ≤ 255) ∧ ((r.toInt = -1 ∨ a1.toInt ≤ 899)))) := by
  refine Mq.start (by decide) (Nat.le_of_ble_eq_true rfl) ?_
  intro p e s m below meth c A ls C0 hZ h hl
  have hl : lv_has ls 2 [(0, .ref (ad 0)), (1, .int a1)] := hl
  have h : Wt G (SM tt) ad A s s.heap [] ws0 := ⟨h, hT⟩
  obtain ⟨args, hargs⟩ : ∃ z, z = ([.ref (ad 0), .int a1] : List Value).toArray := ⟨_, rfl⟩
  rw [← hargs] at C0 ⊢
  have C0 : Cx p s m args meth c RX12 cX12_see 2 (some .int) := C0
  obtain ⟨Q, hQ⟩ : ∃ z, z = MQ below ((PI G (SM tt) ad [] ws0 (fun r u => ((-1) ≤ r.toInt) ∧ (r.toInt ≤ 255) ∧ ((r.toInt = -1 ∨ a1.toInt ≤ 899)))) A) args s 0 0 A := ⟨_, rfl⟩
  rw [← hQ]
  refine lv_iload_n C0.1 C0.2.1 dX12_see_0 rfl (lv_at hl 1 rfl) ?_
  refine lv_aload_n C0.1 C0.2.1 dX12_see_1 rfl (lv_at hl 0 rfl) ?_
  refine ng_X12_size C0 h kSM_0 q_1446 dX12_see_2 (fun v_1 e_2 e_3 e_4 => ?_)
  refine y_icmp_ge (tgt := 17) C0 dX12_see_5 (by decide) (fun c_5 => ?_) (fun c_5 => ?_)
  · -- 5
    refine y_c1 (n := (-1)) C0 (by decide) dX12_see_17 (fun v_6 e_7 => ?_)
    rw [hQ]
    exact y_iret C0 h Fr.rf ⟨(o32_12 e_7), (o32_13 e_7), (o32_14 l1 u1 e_3 e_4 c_5 e_7)⟩ dX12_see_18
  · -- 5
    refine lv_aload_n C0.1 C0.2.1 dX12_see_8 rfl (lv_at hl 0 rfl) ?_
    refine ng_X12_tape C0 h kSM_0 q_1441 dX12_see_9 ?_
    refine lv_iload_n C0.1 C0.2.1 dX12_see_12 rfl (lv_at hl 1 rfl) ?_
    refine y_iald C0 h kSM_3 rfl (by decide) (o32_15 l1 u1 e_3 e_4 c_5) (o32_16 l1 u1 e_3 e_4 c_5) dX12_see_13 (fun v_8 e_9 e_10 e_11 => ?_)
    refine lv_goto (tgt := 18) C0.1 C0.2.1 dX12_see_14 (by decide) ?_
    rw [hQ]
    exact y_iret C0 h Fr.rf ⟨(o32_17 e_10 e_11), (o32_18 e_10 e_11), (o32_19 l1 u1 e_3 e_4 c_5 e_10 e_11)⟩ dX12_see_18
set_option maxHeartbeats 4000000 in
set_option maxRecDepth 100000 in
theorem c_X12_isSmall (l : Launch) (G : GG) (Z : RZ) (ad : Nat → Nat) (ws0 : va_W) (hT : Ty G (SM tt) ad ws0) (a0 : Int32) : Mq l yX12_isSmall cX12_isSmall 1 (some .boolean) 1 G Z [.int a0] ws0 (PI G (SM tt) ad [] ws0 (fun r u => (0 ≤ r.toInt) ∧ (r.toInt ≤ 1) ∧ ((r.toInt = 0 ∨ (97 ≤ a0.toInt ∧ a0.toInt ≤ 122))))) := by
  refine Mq.start (by decide) (Nat.le_of_ble_eq_true rfl) ?_
  intro p e s m below meth c A ls C0 hZ h hl
  have hl : lv_has ls 1 [(0, .int a0)] := hl
  have h : Wt G (SM tt) ad A s s.heap [] ws0 := ⟨h, hT⟩
  obtain ⟨args, hargs⟩ : ∃ z, z = ([.int a0] : List Value).toArray := ⟨_, rfl⟩
  rw [← hargs] at C0 ⊢
  have C0 : Cx p s m args meth c RX12 cX12_isSmall 1 (some .boolean) := C0
  obtain ⟨Q, hQ⟩ : ∃ z, z = MQ below ((PI G (SM tt) ad [] ws0 (fun r u => (0 ≤ r.toInt) ∧ (r.toInt ≤ 1) ∧ ((r.toInt = 0 ∨ (97 ≤ a0.toInt ∧ a0.toInt ≤ 122))))) A) args s 0 0 A := ⟨_, rfl⟩
  rw [← hQ]
  refine lv_iload_n C0.1 C0.2.1 dX12_isSmall_0 rfl (lv_at hl 0 rfl) ?_
  refine y_c2 (n := 97) C0 (by decide) dX12_isSmall_1 (fun v_1 e_2 => ?_)
  refine y_icmp_lt (tgt := 16) C0 dX12_isSmall_3 (by decide) (fun c_3 => ?_) (fun c_3 => ?_)
  · -- 3
    refine y_c1 (n := 0) C0 (by decide) dX12_isSmall_16 (fun v_4 e_5 => ?_)
    rw [hQ]
    exact y_zret C0 h (o32_1 e_5) (o32_2 e_5) Fr.rf ⟨(o32_1 e_5), (o32_2 e_5), (o32_20 e_2 c_3 e_5)⟩ dX12_isSmall_17
  · -- 3
    refine lv_iload_n C0.1 C0.2.1 dX12_isSmall_6 rfl (lv_at hl 0 rfl) ?_
    refine y_c2 (n := 122) C0 (by decide) dX12_isSmall_7 (fun v_6 e_7 => ?_)
    refine y_icmp_gt (tgt := 16) C0 dX12_isSmall_9 (by decide) (fun c_8 => ?_) (fun c_8 => ?_)
    · -- 9
      refine y_c1 (n := 0) C0 (by decide) dX12_isSmall_16 (fun v_9 e_10 => ?_)
      rw [hQ]
      exact y_zret C0 h (o32_1 e_10) (o32_2 e_10) Fr.rf ⟨(o32_1 e_10), (o32_2 e_10), (o32_21 e_2 c_3 e_7 c_8 e_10)⟩ dX12_isSmall_17
    · -- 9
      refine y_c1 (n := 1) C0 (by decide) dX12_isSmall_12 (fun v_11 e_12 => ?_)
      refine lv_goto (tgt := 17) C0.1 C0.2.1 dX12_isSmall_13 (by decide) ?_
      rw [hQ]
      exact y_zret C0 h (o32_5 e_12) (o32_6 e_12) Fr.rf ⟨(o32_5 e_12), (o32_6 e_12), (o32_22 e_2 c_3 e_7 c_8 e_12)⟩ dX12_isSmall_17
set_option maxHeartbeats 4000000 in
set_option maxRecDepth 100000 in
theorem c_X12_isDigit (l : Launch) (G : GG) (Z : RZ) (ad : Nat → Nat) (ws0 : va_W) (hT : Ty G (SM tt) ad ws0) (a0 : Int32) : Mq l yX12_isDigit cX12_isDigit 1 (some .boolean) 1 G Z [.int a0] ws0 (PI G (SM tt) ad [] ws0 (fun r u => (0 ≤ r.toInt) ∧ (r.toInt ≤ 1) ∧ ((r.toInt = 0 ∨ (48 ≤ a0.toInt ∧ a0.toInt ≤ 57))))) := by
  refine Mq.start (by decide) (Nat.le_of_ble_eq_true rfl) ?_
  intro p e s m below meth c A ls C0 hZ h hl
  have hl : lv_has ls 1 [(0, .int a0)] := hl
  have h : Wt G (SM tt) ad A s s.heap [] ws0 := ⟨h, hT⟩
  obtain ⟨args, hargs⟩ : ∃ z, z = ([.int a0] : List Value).toArray := ⟨_, rfl⟩
  rw [← hargs] at C0 ⊢
  have C0 : Cx p s m args meth c RX12 cX12_isDigit 1 (some .boolean) := C0
  obtain ⟨Q, hQ⟩ : ∃ z, z = MQ below ((PI G (SM tt) ad [] ws0 (fun r u => (0 ≤ r.toInt) ∧ (r.toInt ≤ 1) ∧ ((r.toInt = 0 ∨ (48 ≤ a0.toInt ∧ a0.toInt ≤ 57))))) A) args s 0 0 A := ⟨_, rfl⟩
  rw [← hQ]
  refine lv_iload_n C0.1 C0.2.1 dX12_isDigit_0 rfl (lv_at hl 0 rfl) ?_
  refine y_c2 (n := 48) C0 (by decide) dX12_isDigit_1 (fun v_1 e_2 => ?_)
  refine y_icmp_lt (tgt := 16) C0 dX12_isDigit_3 (by decide) (fun c_3 => ?_) (fun c_3 => ?_)
  · -- 3
    refine y_c1 (n := 0) C0 (by decide) dX12_isDigit_16 (fun v_4 e_5 => ?_)
    rw [hQ]
    exact y_zret C0 h (o32_1 e_5) (o32_2 e_5) Fr.rf ⟨(o32_1 e_5), (o32_2 e_5), (o32_23 e_2 c_3 e_5)⟩ dX12_isDigit_17
  · -- 3
    refine lv_iload_n C0.1 C0.2.1 dX12_isDigit_6 rfl (lv_at hl 0 rfl) ?_
    refine y_c2 (n := 57) C0 (by decide) dX12_isDigit_7 (fun v_6 e_7 => ?_)
    refine y_icmp_gt (tgt := 16) C0 dX12_isDigit_9 (by decide) (fun c_8 => ?_) (fun c_8 => ?_)
    · -- 9
      refine y_c1 (n := 0) C0 (by decide) dX12_isDigit_16 (fun v_9 e_10 => ?_)
      rw [hQ]
      exact y_zret C0 h (o32_1 e_10) (o32_2 e_10) Fr.rf ⟨(o32_1 e_10), (o32_2 e_10), (o32_24 e_2 c_3 e_7 c_8 e_10)⟩ dX12_isDigit_17
    · -- 9
      refine y_c1 (n := 1) C0 (by decide) dX12_isDigit_12 (fun v_11 e_12 => ?_)
      refine lv_goto (tgt := 17) C0.1 C0.2.1 dX12_isDigit_13 (by decide) ?_
      rw [hQ]
      exact y_zret C0 h (o32_5 e_12) (o32_6 e_12) Fr.rf ⟨(o32_5 e_12), (o32_6 e_12), (o32_25 e_2 c_3 e_7 c_8 e_12)⟩ dX12_isDigit_17
set_option maxHeartbeats 4000000 in
set_option maxRecDepth 100000 in
theorem c_X12_crossings (l : Launch) (G : GG) (Z : RZ) (ad : Nat → Nat) (ws0 : va_W) (hT : Ty G (SM tt) ad ws0) : Mq l yX12_crossings cX12_crossings 1 (some .int) 1 G Z [.ref (ad 0)] ws0 (PI G (SM tt) ad [] ws0 (fun r u => (0 ≤ r.toInt) ∧ (r.toInt ≤ 25) ∧ (r.toInt = 0 ∨ Laid ws0))) := by
  refine Mq.start (by decide) (Nat.le_of_ble_eq_true rfl) ?_
  intro p e s m below meth c A ls C0 hZ h hl
  have hl : lv_has ls 1 [(0, .ref (ad 0))] := hl
  have h : Wt G (SM tt) ad A s s.heap [] ws0 := ⟨h, hT⟩
  obtain ⟨args, hargs⟩ : ∃ z, z = ([.ref (ad 0)] : List Value).toArray := ⟨_, rfl⟩
  rw [← hargs] at C0 ⊢
  have C0 : Cx p s m args meth c RX12 cX12_crossings 1 (some .int) := C0
  obtain ⟨Q, hQ⟩ : ∃ z, z = MQ below ((PI G (SM tt) ad [] ws0 (fun r u => (0 ≤ r.toInt) ∧ (r.toInt ≤ 25) ∧ (r.toInt = 0 ∨ Laid ws0))) A) args s 0 0 A := ⟨_, rfl⟩
  rw [← hQ]
  refine lv_aload_n C0.1 C0.2.1 dX12_crossings_0 rfl (lv_at hl 0 rfl) ?_
  refine ng_X12_all C0 h kSM_0 q_1439 dX12_crossings_1 ?_
  refine y_c1 (n := 1) C0 (by decide) dX12_crossings_4 (fun v_1 e_2 => ?_)
  refine y_iald C0 h kSM_1 rfl (by decide) (o32_5 e_2) (o32_26 e_2) dX12_crossings_5 (fun v_3 e_4 e_5 e_6 => ?_)
  have f_7 := o32_27 v_1.toInt.toNat (o32_28 e_2) (o32_29 e_2)
  have e_8 : aI ws0 1 1 = v_3 := (congrArg (aI ws0 1) (ix_c (c := 1) (o32_30 e_2))).symm.trans e_4
  refine lv_aload_n C0.1 C0.2.1 dX12_crossings_6 rfl (lv_at hl 0 rfl) ?_
  refine ng_X12_all C0 h kSM_0 q_1439 dX12_crossings_7 ?_
  refine y_c1 (n := 2) C0 (by decide) dX12_crossings_10 (fun v_9 e_10 => ?_)
  refine y_iald C0 h kSM_1 rfl (by decide) (o32_31 e_10) (o32_32 e_10) dX12_crossings_11 (fun v_11 e_12 e_13 e_14 => ?_)
  have f_15 := o32_33 v_9.toInt.toNat (o32_34 e_10) (o32_35 e_10)
  have e_16 : aI ws0 1 2 = v_11 := (congrArg (aI ws0 1) (ix_c (c := 2) (o32_36 e_10))).symm.trans e_12
  refine y_mulb (la := 0) (ha := 5) (lb := 0) (hb := 5) C0 (by decide) (o32_37 (Int.le_trans f_7.1 e_5) (Int.le_trans e_6 f_7.2)) (o32_38 (Int.le_trans f_7.1 e_5) (Int.le_trans e_6 f_7.2)) (by decide) (o32_37 (Int.le_trans f_15.1 e_13) (Int.le_trans e_14 f_15.2)) (o32_38 (Int.le_trans f_15.1 e_13) (Int.le_trans e_14 f_15.2)) (by decide) dX12_crossings_12 (fun v_17 e_18 e_19 e_20 => ?_)
  rw [hQ]
  exact y_iret C0 h Fr.rf ⟨(o32_39 e_19 e_20), (o32_40 e_19 e_20), (laid_mul e_8 e_16 e_18 (o32_37 (Int.le_trans f_7.1 e_5) (Int.le_trans e_6 f_7.2)) (o32_37 (Int.le_trans f_15.1 e_13) (Int.le_trans e_14 f_15.2)))⟩ dX12_crossings_13
set_option maxHeartbeats 4000000 in
set_option maxRecDepth 100000 in
theorem c_X12_isCrossing (l : Launch) (G : GG) (Z : RZ) (ad : Nat → Nat) (ws0 : va_W) (hT : Ty G (SM tt) ad ws0) (a1 : Int64) : Mq l yX12_isCrossing cX12_isCrossing 3 (some .boolean) 2 G Z [.ref (ad 0), .long a1] ws0 (PI G (SM tt) ad [] ws0 (fun r u => (0 ≤ r.toInt) ∧ (r.toInt ≤ 1) ∧ ((r.toInt = 0 ∨ (0 ≤ a1.toInt ∧ a1.toInt ≤ 24))) ∧ (r.toInt = 0 ∨ Laid ws0))) := by
  refine Mq.start (by decide) (Nat.le_of_ble_eq_true rfl) ?_
  intro p e s m below meth c A ls C0 hZ h hl
  have hl : lv_has ls 3 [(0, .ref (ad 0)), (1, .long a1)] := hl
  have h : Wt G (SM tt) ad A s s.heap [] ws0 := ⟨h, hT⟩
  obtain ⟨args, hargs⟩ : ∃ z, z = ([.ref (ad 0), .long a1] : List Value).toArray := ⟨_, rfl⟩
  rw [← hargs] at C0 ⊢
  have C0 : Cx p s m args meth c RX12 cX12_isCrossing 3 (some .boolean) := C0
  obtain ⟨Q, hQ⟩ : ∃ z, z = MQ below ((PI G (SM tt) ad [] ws0 (fun r u => (0 ≤ r.toInt) ∧ (r.toInt ≤ 1) ∧ ((r.toInt = 0 ∨ (0 ≤ a1.toInt ∧ a1.toInt ≤ 24))) ∧ (r.toInt = 0 ∨ Laid ws0))) A) args s 0 0 A := ⟨_, rfl⟩
  rw [← hQ]
  refine lv_lload_n C0.1 C0.2.1 dX12_isCrossing_0 rfl (lv_at hl 1 rfl) ?_
  refine y_lc (v := 0) C0 (by decide) dX12_isCrossing_1 (fun w_1 e_2 => ?_)
  refine lv_aload_n C0.1 C0.2.1 dX12_isCrossing_2 rfl (lv_at hl 0 rfl) ?_
  refine y_ci h (y_rV (As := []) (rest := [.long w_1, .long a1]) C0 hZ h (c_X12_crossings l G Z ad _ h.2) k_X12_crossings q_1705 q_79 q_1703 kSM_0 rfl rfl rfl hl.1 rfl rfl (Nat.le_of_ble_eq_true rfl) dX12_isCrossing_3 ⟨Nat.le_of_ble_eq_true rfl, Nat.le_of_ble_eq_true rfl⟩ ⟨Nat.le_of_ble_eq_true rfl, Nat.le_of_ble_eq_true rfl⟩) (fun r_6 H locs ws_3 h u_4 p_5 => ?_)
  obtain ⟨e_7, e_8, e_9⟩ := p_5
  refine y_c1 (n := 1) C0 (by decide) dX12_isCrossing_6 (fun v_10 e_11 => ?_)
  refine y_sub C0 (o32_41 e_7 e_8 e_11 (le_min r_6) (le_max r_6) (le_min v_10) (le_max v_10)) (o32_42 e_7 e_8 e_11 (le_min r_6) (le_max r_6) (le_min v_10) (le_max v_10)) dX12_isCrossing_7 (fun v_12 e_13 => ?_)
  refine y_i2l C0 dX12_isCrossing_8 (fun w_14 e_15 => ?_)
  refine y_ci h (y_rS (As := [.long a1, .long w_1, .long w_14]) (rest := []) C0 hZ h (c_X12_within l G Z ad _ h.2 a1 w_1 w_14) k_X12_within q_1580 q_1579 hl.1 rfl rfl (Nat.le_of_ble_eq_true rfl) dX12_isCrossing_9 ⟨Nat.le_of_ble_eq_true rfl, Nat.le_of_ble_eq_true rfl⟩ ⟨Nat.le_of_ble_eq_true rfl, Nat.le_of_ble_eq_true rfl⟩) (fun r_19 H locs ws_16 h u_17 p_18 => ?_)
  obtain ⟨e_20, e_21, e_22⟩ := p_18
  rw [hQ]
  exact y_zret C0 h (o32_43 e_2 e_7 e_8 e_11 e_13 e_15 e_20 e_21 e_22) (o32_44 e_2 e_7 e_8 e_11 e_13 e_15 e_20 e_21 e_22) (Fr.tr u_4 u_17) ⟨(o32_43 e_2 e_7 e_8 e_11 e_13 e_15 e_20 e_21 e_22), (o32_44 e_2 e_7 e_8 e_11 e_13 e_15 e_20 e_21 e_22), (o32_45 e_2 e_7 e_8 e_11 e_13 e_15 e_20 e_21 e_22), (Or.elim e_9 (fun q => Or.inl (o32_46 e_2 e_7 e_8 e_11 e_13 e_15 e_20 e_21 e_22 q)) (fun q => Or.inr q))⟩ dX12_isCrossing_12
set_option maxHeartbeats 4000000 in
set_option maxRecDepth 100000 in
theorem c_X12_isPerson (l : Launch) (G : GG) (Z : RZ) (ad : Nat → Nat) (ws0 : va_W) (hT : Ty G (SM tt) ad ws0) (a1 : Int64) (hJ : J ws0) : Mq l yX12_isPerson cX12_isPerson 3 (some .boolean) 2 G Z [.ref (ad 0), .long a1] ws0 (PI G (SM tt) ad [] ws0 (fun r u => (0 ≤ r.toInt) ∧ (r.toInt ≤ 1) ∧ ((r.toInt = 0 ∨ (0 ≤ a1.toInt ∧ a1.toInt ≤ 4))) ∧ (r.toInt = 0 ∨ Laid ws0))) := by
  refine Mq.start (by decide) (Nat.le_of_ble_eq_true rfl) ?_
  intro p e s m below meth c A ls C0 hZ h hl
  have hl : lv_has ls 3 [(0, .ref (ad 0)), (1, .long a1)] := hl
  have h : Wt G (SM tt) ad A s s.heap [] ws0 := ⟨h, hT⟩
  obtain ⟨args, hargs⟩ : ∃ z, z = ([.ref (ad 0), .long a1] : List Value).toArray := ⟨_, rfl⟩
  rw [← hargs] at C0 ⊢
  have C0 : Cx p s m args meth c RX12 cX12_isPerson 3 (some .boolean) := C0
  obtain ⟨Q, hQ⟩ : ∃ z, z = MQ below ((PI G (SM tt) ad [] ws0 (fun r u => (0 ≤ r.toInt) ∧ (r.toInt ≤ 1) ∧ ((r.toInt = 0 ∨ (0 ≤ a1.toInt ∧ a1.toInt ≤ 4))) ∧ (r.toInt = 0 ∨ Laid ws0))) A) args s 0 0 A := ⟨_, rfl⟩
  rw [← hQ]
  refine lv_lload_n C0.1 C0.2.1 dX12_isPerson_0 rfl (lv_at hl 1 rfl) ?_
  refine y_lc (v := 0) C0 (by decide) dX12_isPerson_1 (fun w_1 e_2 => ?_)
  refine lv_aload_n C0.1 C0.2.1 dX12_isPerson_2 rfl (lv_at hl 0 rfl) ?_
  refine ng_X12_all C0 h kSM_0 q_1439 dX12_isPerson_3 ?_
  refine y_c1 (n := 3) C0 (by decide) dX12_isPerson_6 (fun v_3 e_4 => ?_)
  refine y_iald C0 h kSM_1 rfl (by decide) (o32_47 e_4) (o32_48 e_4) dX12_isPerson_7 (fun v_5 e_6 e_7 e_8 => ?_)
  have f_9 := o32_49 v_3.toInt.toNat (o32_50 e_4) (o32_51 e_4)
  have e_10 : aI ws0 1 3 = v_5 := (congrArg (aI ws0 1) (ix_c (c := 3) (o32_52 e_4))).symm.trans e_6
  refine y_c1 (n := 1) C0 (by decide) dX12_isPerson_8 (fun v_11 e_12 => ?_)
  refine y_sub C0 (o32_53 (Int.le_trans f_9.1 e_7) (Int.le_trans e_8 f_9.2) e_12 (le_min v_5) (le_max v_5) (le_min v_11) (le_max v_11)) (o32_54 (Int.le_trans f_9.1 e_7) (Int.le_trans e_8 f_9.2) e_12 (le_min v_5) (le_max v_5) (le_min v_11) (le_max v_11)) dX12_isPerson_9 (fun v_13 e_14 => ?_)
  refine y_i2l C0 dX12_isPerson_10 (fun w_15 e_16 => ?_)
  refine y_ci h (y_rS (As := [.long a1, .long w_1, .long w_15]) (rest := []) C0 hZ h (c_X12_within l G Z ad _ h.2 a1 w_1 w_15) k_X12_within q_1580 q_1579 hl.1 rfl rfl (Nat.le_of_ble_eq_true rfl) dX12_isPerson_11 ⟨Nat.le_of_ble_eq_true rfl, Nat.le_of_ble_eq_true rfl⟩ ⟨Nat.le_of_ble_eq_true rfl, Nat.le_of_ble_eq_true rfl⟩) (fun r_20 H locs ws_17 h u_18 p_19 => ?_)
  obtain ⟨e_21, e_22, e_23⟩ := p_19
  rw [hQ]
  exact y_zret C0 h (o32_55 e_2 (Int.le_trans f_9.1 e_7) (Int.le_trans e_8 f_9.2) e_12 e_14 e_16 e_21 e_22 e_23) (o32_56 e_2 (Int.le_trans f_9.1 e_7) (Int.le_trans e_8 f_9.2) e_12 e_14 e_16 e_21 e_22 e_23) u_18 ⟨(o32_55 e_2 (Int.le_trans f_9.1 e_7) (Int.le_trans e_8 f_9.2) e_12 e_14 e_16 e_21 e_22 e_23), (o32_56 e_2 (Int.le_trans f_9.1 e_7) (Int.le_trans e_8 f_9.2) e_12 e_14 e_16 e_21 e_22 e_23), (o32_57 e_2 (Int.le_trans f_9.1 e_7) (Int.le_trans e_8 f_9.2) e_12 e_14 e_16 e_21 e_22 e_23), ((Classical.em (r_20.toInt = 0)).imp id (fun q => J.laid hJ (fbd_lo e_10 (o32_58 e_2 (Int.le_trans f_9.1 e_7) (Int.le_trans e_8 f_9.2) e_12 e_14 e_16 e_21 e_22 e_23 q))))⟩ dX12_isPerson_14
set_option maxHeartbeats 4000000 in
set_option maxRecDepth 100000 in
theorem c_X12_isDirection (l : Launch) (G : GG) (Z : RZ) (ad : Nat → Nat) (ws0 : va_W) (hT : Ty G (SM tt) ad ws0) (a0 : Int32) : Mq l yX12_isDirection cX12_isDirection 1 (some .boolean) 2 G Z [.int a0] ws0 (PI G (SM tt) ad [] ws0 (fun r u => (0 ≤ r.toInt) ∧ (r.toInt ≤ 1) ∧ ((r.toInt = 0 ∨ (0 ≤ a0.toInt ∧ a0.toInt ≤ 3))))) := by
  refine Mq.start (by decide) (Nat.le_of_ble_eq_true rfl) ?_
  intro p e s m below meth c A ls C0 hZ h hl
  have hl : lv_has ls 1 [(0, .int a0)] := hl
  have h : Wt G (SM tt) ad A s s.heap [] ws0 := ⟨h, hT⟩
  obtain ⟨args, hargs⟩ : ∃ z, z = ([.int a0] : List Value).toArray := ⟨_, rfl⟩
  rw [← hargs] at C0 ⊢
  have C0 : Cx p s m args meth c RX12 cX12_isDirection 1 (some .boolean) := C0
  obtain ⟨Q, hQ⟩ : ∃ z, z = MQ below ((PI G (SM tt) ad [] ws0 (fun r u => (0 ≤ r.toInt) ∧ (r.toInt ≤ 1) ∧ ((r.toInt = 0 ∨ (0 ≤ a0.toInt ∧ a0.toInt ≤ 3))))) A) args s 0 0 A := ⟨_, rfl⟩
  rw [← hQ]
  refine lv_iload_n C0.1 C0.2.1 dX12_isDirection_0 rfl (lv_at hl 0 rfl) ?_
  refine y_i2l C0 dX12_isDirection_1 (fun w_1 e_2 => ?_)
  refine y_lc (v := 0) C0 (by decide) dX12_isDirection_2 (fun w_3 e_4 => ?_)
  refine y_lc2 (n := 3) C0 q_1710 (by decide) dX12_isDirection_3 (fun w_5 e_6 => ?_)
  refine y_ci h (y_rS (As := [.long w_1, .long w_3, .long w_5]) (rest := []) C0 hZ h (c_X12_within l G Z ad _ h.2 w_1 w_3 w_5) k_X12_within q_1580 q_1579 hl.1 rfl rfl (Nat.le_of_ble_eq_true rfl) dX12_isDirection_6 ⟨Nat.le_of_ble_eq_true rfl, Nat.le_of_ble_eq_true rfl⟩ ⟨Nat.le_of_ble_eq_true rfl, Nat.le_of_ble_eq_true rfl⟩) (fun r_10 H locs ws_7 h u_8 p_9 => ?_)
  obtain ⟨e_11, e_12, e_13⟩ := p_9
  rw [hQ]
  exact y_zret C0 h (o32_59 e_2 e_4 e_6 e_11 e_12 e_13) (o32_60 e_2 e_4 e_6 e_11 e_12 e_13) u_8 ⟨(o32_59 e_2 e_4 e_6 e_11 e_12 e_13), (o32_60 e_2 e_4 e_6 e_11 e_12 e_13), (o32_61 e_2 e_4 e_6 e_11 e_12 e_13)⟩ dX12_isDirection_9
set_option maxHeartbeats 4000000 in
set_option maxRecDepth 100000 in
theorem c_X12_directionBy (l : Launch) (G : GG) (Z : RZ) (ad : Nat → Nat) (ws0 : va_W) (hT : Ty G (SM tt) ad ws0) (a0 : Int32) (a1 : Int32) (l0 : 0 ≤ a0.toInt) (u0 : a0.toInt ≤ 3) (l1 : 0 ≤ a1.toInt) (u1 : a1.toInt ≤ 3) : Mq l yX12_directionBy cX12_directionBy 2 (some .int) 1 G Z [.int a0, .int a1] ws0 (PI G (SM tt) ad [] ws0 (fun r u => (0 ≤ r.toInt) ∧ (r.toInt ≤ 3) ∧ (r.toInt = dirI a0.toInt a1.toInt))) := by
  refine Mq.start (by decide) (Nat.le_of_ble_eq_true rfl) ?_
  intro p e s m below meth c A ls C0 hZ h hl
  have hl : lv_has ls 2 [(0, .int a0), (1, .int a1)] := hl
  have h : Wt G (SM tt) ad A s s.heap [] ws0 := ⟨h, hT⟩
  obtain ⟨args, hargs⟩ : ∃ z, z = ([.int a0, .int a1] : List Value).toArray := ⟨_, rfl⟩
  rw [← hargs] at C0 ⊢
  have C0 : Cx p s m args meth c RX12 cX12_directionBy 2 (some .int) := C0
  obtain ⟨Q, hQ⟩ : ∃ z, z = MQ below ((PI G (SM tt) ad [] ws0 (fun r u => (0 ≤ r.toInt) ∧ (r.toInt ≤ 3) ∧ (r.toInt = dirI a0.toInt a1.toInt))) A) args s 0 0 A := ⟨_, rfl⟩
  rw [← hQ]
  refine lv_iload_n C0.1 C0.2.1 dX12_directionBy_0 rfl (lv_at hl 0 rfl) ?_
  refine lv_iload_n C0.1 C0.2.1 dX12_directionBy_1 rfl (lv_at hl 1 rfl) ?_
  refine y_c1 (n := 2) C0 (by decide) dX12_directionBy_2 (fun v_1 e_2 => ?_)
  refine y_icmp_ne (tgt := 10) C0 dX12_directionBy_3 (by decide) (fun c_3 => ?_) (fun c_3 => ?_)
  · -- 3
    refine lv_iload_n C0.1 C0.2.1 dX12_directionBy_10 rfl (lv_at hl 1 rfl) ?_
    refine y_c1 (n := 3) C0 (by decide) dX12_directionBy_11 (fun v_4 e_5 => ?_)
    refine y_icmp_ne (tgt := 19) C0 dX12_directionBy_12 (by decide) (fun c_6 => ?_) (fun c_6 => ?_)
    · -- 12
      refine lv_iload_n C0.1 C0.2.1 dX12_directionBy_19 rfl (lv_at hl 1 rfl) ?_
      refine y_add C0 (o32_62 l0 u0 l1 u1 e_2 c_3 e_5 c_6 (le_min a0) (le_max a0) (le_min a1) (le_max a1) (le_min v_1) (le_max v_1) (le_min v_4) (le_max v_4)) (o32_63 l0 u0 l1 u1 e_2 c_3 e_5 c_6 (le_min a0) (le_max a0) (le_min a1) (le_max a1) (le_min v_1) (le_max v_1) (le_min v_4) (le_max v_4)) dX12_directionBy_20 (fun v_7 e_8 => ?_)
      refine y_c1 (n := 4) C0 (by decide) dX12_directionBy_21 (fun v_9 e_10 => ?_)
      refine y_remc (n := 4) C0 (o32_64 e_10) (by decide) (o32_65 l0 u0 l1 u1 e_2 c_3 e_5 c_6 e_8) dX12_directionBy_22 (fun v_11 e_12 => ?_)
      have g_13 : v_11.toInt = dirI a0.toInt a1.toInt := by
        unfold dirI
        (repeat' split) <;> omega
      rw [hQ]
      exact y_iret C0 h Fr.rf ⟨(o32_66 l0 u0 l1 u1 e_2 c_3 e_5 c_6 e_8 e_12), (o32_67 l0 u0 l1 u1 e_2 c_3 e_5 c_6 e_8 e_12), g_13⟩ dX12_directionBy_23
    · -- 12
      refine y_c1 (n := 2) C0 (by decide) dX12_directionBy_15 (fun v_14 e_15 => ?_)
      refine lv_goto (tgt := 20) C0.1 C0.2.1 dX12_directionBy_16 (by decide) ?_
      refine y_add C0 (o32_68 l0 u0 e_15 (le_min a0) (le_max a0) (le_min v_14) (le_max v_14)) (o32_69 l0 u0 e_15 (le_min a0) (le_max a0) (le_min v_14) (le_max v_14)) dX12_directionBy_20 (fun v_16 e_17 => ?_)
      refine y_c1 (n := 4) C0 (by decide) dX12_directionBy_21 (fun v_18 e_19 => ?_)
      refine y_remc (n := 4) C0 (o32_64 e_19) (by decide) (o32_70 l0 u0 e_15 e_17) dX12_directionBy_22 (fun v_20 e_21 => ?_)
      have g_22 : v_20.toInt = dirI a0.toInt a1.toInt := by
        unfold dirI
        (repeat' split) <;> omega
      rw [hQ]
      exact y_iret C0 h Fr.rf ⟨(o32_71 l0 u0 e_15 e_17 e_21), (o32_72 l0 u0 e_15 e_17 e_21), g_22⟩ dX12_directionBy_23
  · -- 3
    refine y_c1 (n := 3) C0 (by decide) dX12_directionBy_6 (fun v_23 e_24 => ?_)
    refine lv_goto (tgt := 20) C0.1 C0.2.1 dX12_directionBy_7 (by decide) ?_
    refine y_add C0 (o32_73 l0 u0 e_24 (le_min a0) (le_max a0) (le_min v_23) (le_max v_23)) (o32_74 l0 u0 e_24 (le_min a0) (le_max a0) (le_min v_23) (le_max v_23)) dX12_directionBy_20 (fun v_25 e_26 => ?_)
    refine y_c1 (n := 4) C0 (by decide) dX12_directionBy_21 (fun v_27 e_28 => ?_)
    refine y_remc (n := 4) C0 (o32_64 e_28) (by decide) (o32_75 l0 u0 e_24 e_26) dX12_directionBy_22 (fun v_29 e_30 => ?_)
    have g_31 : v_29.toInt = dirI a0.toInt a1.toInt := by
      unfold dirI
      (repeat' split) <;> omega
    rw [hQ]
    exact y_iret C0 h Fr.rf ⟨(o32_76 l0 u0 e_24 e_26 e_30), (o32_77 l0 u0 e_24 e_26 e_30), g_31⟩ dX12_directionBy_23
set_option maxHeartbeats 4000000 in
set_option maxRecDepth 100000 in
theorem c_X12_leftsOf (l : Launch) (G : GG) (Z : RZ) (ad : Nat → Nat) (ws0 : va_W) (hT : Ty G (SM tt) ad ws0) (a0 : Int32) (l0 : 0 ≤ a0.toInt) (u0 : a0.toInt ≤ 3) : Mq l yX12_leftsOf cX12_leftsOf 1 (some .int) 1 G Z [.int a0] ws0 (PI G (SM tt) ad [] ws0 (fun r u => (0 ≤ r.toInt) ∧ (r.toInt ≤ 2) ∧ (((a0.toInt < 2 ∧ r.toInt = 0) ∨ (2 ≤ a0.toInt ∧ r.toInt = a0.toInt - 1))))) := by
  refine Mq.start (by decide) (Nat.le_of_ble_eq_true rfl) ?_
  intro p e s m below meth c A ls C0 hZ h hl
  have hl : lv_has ls 1 [(0, .int a0)] := hl
  have h : Wt G (SM tt) ad A s s.heap [] ws0 := ⟨h, hT⟩
  obtain ⟨args, hargs⟩ : ∃ z, z = ([.int a0] : List Value).toArray := ⟨_, rfl⟩
  rw [← hargs] at C0 ⊢
  have C0 : Cx p s m args meth c RX12 cX12_leftsOf 1 (some .int) := C0
  obtain ⟨Q, hQ⟩ : ∃ z, z = MQ below ((PI G (SM tt) ad [] ws0 (fun r u => (0 ≤ r.toInt) ∧ (r.toInt ≤ 2) ∧ (((a0.toInt < 2 ∧ r.toInt = 0) ∨ (2 ≤ a0.toInt ∧ r.toInt = a0.toInt - 1))))) A) args s 0 0 A := ⟨_, rfl⟩
  rw [← hQ]
  refine lv_iload_n C0.1 C0.2.1 dX12_leftsOf_0 rfl (lv_at hl 0 rfl) ?_
  refine y_c1 (n := 2) C0 (by decide) dX12_leftsOf_1 (fun v_1 e_2 => ?_)
  refine y_icmp_ge (tgt := 9) C0 dX12_leftsOf_2 (by decide) (fun c_3 => ?_) (fun c_3 => ?_)
  · -- 2
    refine lv_iload_n C0.1 C0.2.1 dX12_leftsOf_9 rfl (lv_at hl 0 rfl) ?_
    refine y_c1 (n := 1) C0 (by decide) dX12_leftsOf_10 (fun v_4 e_5 => ?_)
    refine y_sub C0 (o32_78 l0 u0 e_2 c_3 e_5 (le_min a0) (le_max a0) (le_min v_4) (le_max v_4) (le_min v_1) (le_max v_1)) (o32_79 l0 u0 e_2 c_3 e_5 (le_min a0) (le_max a0) (le_min v_4) (le_max v_4) (le_min v_1) (le_max v_1)) dX12_leftsOf_11 (fun v_6 e_7 => ?_)
    rw [hQ]
    exact y_iret C0 h Fr.rf ⟨(o32_80 l0 u0 e_2 c_3 e_5 e_7), (o32_81 l0 u0 e_2 c_3 e_5 e_7), (o32_82 l0 u0 e_2 c_3 e_5 e_7)⟩ dX12_leftsOf_12
  · -- 2
    refine y_c1 (n := 0) C0 (by decide) dX12_leftsOf_5 (fun v_8 e_9 => ?_)
    refine lv_goto (tgt := 12) C0.1 C0.2.1 dX12_leftsOf_6 (by decide) ?_
    rw [hQ]
    exact y_iret C0 h Fr.rf ⟨(o32_1 e_9), (o32_83 e_9), (o32_84 l0 u0 e_2 c_3 e_9)⟩ dX12_leftsOf_12
set_option maxHeartbeats 4000000 in
set_option maxRecDepth 100000 in
theorem c_X12_beyond (l : Launch) (G : GG) (Z : RZ) (ad : Nat → Nat) (ws0 : va_W) (hT : Ty G (SM tt) ad ws0) (a1 : Int32) (a2 : Int32) (l1 : 0 ≤ a1.toInt) (u1 : a1.toInt ≤ 24) (l2 : 0 ≤ a2.toInt) (u2 : a2.toInt ≤ 3) (hLd : Laid ws0) : Mq l yX12_beyond cX12_beyond 5 (some .int) 2 G Z [.ref (ad 1), .int a1, .int a2] ws0 (PI G (SM tt) ad [] ws0 (fun r u => ((-1) ≤ r.toInt) ∧ (r.toInt ≤ 24) ∧ (r.toInt = beyF (aI ws0 1 1).toInt (aI ws0 1 2).toInt a1.toInt a2.toInt))) := by
  refine Mq.start (by decide) (Nat.le_of_ble_eq_true rfl) ?_
  intro p e s m below meth c A ls C0 hZ h hl
  have hl : lv_has ls 5 [(0, .ref (ad 1)), (1, .int a1), (2, .int a2)] := hl
  have h : Wt G (SM tt) ad A s s.heap [] ws0 := ⟨h, hT⟩
  obtain ⟨args, hargs⟩ : ∃ z, z = ([.ref (ad 1), .int a1, .int a2] : List Value).toArray := ⟨_, rfl⟩
  rw [← hargs] at C0 ⊢
  have C0 : Cx p s m args meth c RX12 cX12_beyond 5 (some .int) := C0
  obtain ⟨Q, hQ⟩ : ∃ z, z = MQ below ((PI G (SM tt) ad [] ws0 (fun r u => ((-1) ≤ r.toInt) ∧ (r.toInt ≤ 24) ∧ (r.toInt = beyF (aI ws0 1 1).toInt (aI ws0 1 2).toInt a1.toInt a2.toInt))) A) args s 0 0 A := ⟨_, rfl⟩
  rw [← hQ]
  refine lv_iload_n C0.1 C0.2.1 dX12_beyond_0 rfl (lv_at hl 1 rfl) ?_
  refine lv_aload_n C0.1 C0.2.1 dX12_beyond_1 rfl (lv_at hl 0 rfl) ?_
  refine y_c1 (n := 1) C0 (by decide) dX12_beyond_2 (fun v_1 e_2 => ?_)
  refine y_iald C0 h kSM_1 rfl (by decide) (o32_5 e_2) (o32_26 e_2) dX12_beyond_3 (fun v_3 e_4 e_5 e_6 => ?_)
  have f_7 := o32_27 v_1.toInt.toNat (o32_28 e_2) (o32_29 e_2)
  have e_8 : aI ws0 1 1 = v_3 := (congrArg (aI ws0 1) (ix_c (c := 1) (o32_30 e_2))).symm.trans e_4
  have e_9 := laid_1 (Laid.pa hLd Pa.rf) e_8
  refine y_remX C0 (o32_85 (Int.le_trans f_7.1 e_5) (Int.le_trans e_6 f_7.2) e_9) (o32_86 l1 u1) dX12_beyond_4 (fun v_10 e_11 e_12 e_13 => ?_)
  refine lv_iload_n C0.1 C0.2.1 dX12_beyond_5 rfl (lv_at hl 2 rfl) ?_
  refine y_c1 (n := 1) C0 (by decide) dX12_beyond_6 (fun v_14 e_15 => ?_)
  refine y_icmp_ne (tgt := 14) C0 dX12_beyond_7 (by decide) (fun c_16 => ?_) (fun c_16 => ?_)
  · -- 7
    refine lv_iload_n C0.1 C0.2.1 dX12_beyond_14 rfl (lv_at hl 2 rfl) ?_
    refine y_c1 (n := 3) C0 (by decide) dX12_beyond_15 (fun v_17 e_18 => ?_)
    refine y_icmp_ne (tgt := 23) C0 dX12_beyond_16 (by decide) (fun c_19 => ?_) (fun c_19 => ?_)
    · -- 16
      refine y_c1 (n := 0) C0 (by decide) dX12_beyond_23 (fun v_20 e_21 => ?_)
      refine y_add C0 (o32_87 l1 u1 (Int.le_trans f_7.1 e_5) (Int.le_trans e_6 f_7.2) e_9 e_11 e_12 e_13 e_21 (le_min v_10) (le_max v_10) (le_min v_20) (le_max v_20) (le_min a1) (le_max a1) (le_min v_3) (le_max v_3)) (o32_88 l1 u1 (Int.le_trans f_7.1 e_5) (Int.le_trans e_6 f_7.2) e_9 e_11 e_12 e_13 e_21 (le_min v_10) (le_max v_10) (le_min v_20) (le_max v_20) (le_min a1) (le_max a1) (le_min v_3) (le_max v_3)) dX12_beyond_24 (fun v_22 e_23 => ?_)
      refine lv_istore_n (lv' := [(3, .int v_22), (0, .ref (ad 1)), (1, .int a1), (2, .int a2)]) C0.1 C0.2.1 dX12_beyond_25 rfl hl (by decide) rfl (fun ls hl => ?_)
      refine lv_iload_n C0.1 C0.2.1 dX12_beyond_26 rfl (lv_at hl 2 rfl) ?_
      refine lv_aload_n C0.1 C0.2.1 dX12_beyond_27 rfl (lv_at hl 1 rfl) ?_
      refine y_c1 (n := 1) C0 (by decide) dX12_beyond_28 (fun v_24 e_25 => ?_)
      refine y_iald C0 h kSM_1 rfl (by decide) (o32_5 e_25) (o32_26 e_25) dX12_beyond_29 (fun v_26 e_27 e_28 e_29 => ?_)
      have f_30 := o32_27 v_24.toInt.toNat (o32_28 e_25) (o32_29 e_25)
      have e_31 : aI ws0 1 1 = v_26 := (congrArg (aI ws0 1) (ix_c (c := 1) (o32_30 e_25))).symm.trans e_27
      have q_32 : v_26.toInt = v_3.toInt := congrArg Int32.toInt (e_31.symm.trans (Eq.trans rfl e_8))
      have e_33 := laid_1 (Laid.pa hLd Pa.rf) e_31
      refine y_divX C0 (o32_89 l1 u1 (Int.le_trans f_7.1 e_5) (Int.le_trans e_6 f_7.2) e_9 e_11 e_12 e_13 e_21 e_23 (Int.le_trans f_30.1 e_28) (Int.le_trans e_29 f_30.2) q_32 e_33) (o32_90 l1 u1 (Int.le_trans f_7.1 e_5) (Int.le_trans e_6 f_7.2) e_9 e_11 e_12 e_13 e_21 e_23 (Int.le_trans f_30.1 e_28) (Int.le_trans e_29 f_30.2) q_32 e_33) dX12_beyond_30 (fun v_34 e_35 e_36 e_37 => ?_)
      refine lv_iload_n C0.1 C0.2.1 dX12_beyond_31 rfl (lv_at hl 3 rfl) ?_
      refine y_c1 (n := 2) C0 (by decide) dX12_beyond_32 (fun v_38 e_39 => ?_)
      refine y_icmp_ne (tgt := 40) C0 dX12_beyond_33 (by decide) (fun c_40 => ?_) (fun c_40 => ?_)
      · -- 33
        refine lv_iload_n C0.1 C0.2.1 dX12_beyond_40 rfl (lv_at hl 3 rfl) ?_
        refine y_if_ne (tgt := 48) C0 dX12_beyond_41 (by decide) (fun c_41 => ?_) (fun c_41 => ?_)
        · -- 41
          refine y_c1 (n := 0) C0 (by decide) dX12_beyond_48 (fun v_42 e_43 => ?_)
          refine y_add C0 (o32_91 l1 u1 (Int.le_trans f_7.1 e_5) (Int.le_trans e_6 f_7.2) e_9 e_11 e_12 e_13 e_21 e_23 (Int.le_trans f_30.1 e_28) (Int.le_trans e_29 f_30.2) q_32 e_33 e_35 e_36 e_37 e_43 (le_min v_34) (le_max v_34) (le_min v_42) (le_max v_42) (le_min a1) (le_max a1) (le_min v_3) (le_max v_3) (le_min v_10) (le_max v_10) (le_min v_20) (le_max v_20) (le_min v_22) (le_max v_22) (le_min v_26) (le_max v_26)) (o32_92 l1 u1 (Int.le_trans f_7.1 e_5) (Int.le_trans e_6 f_7.2) e_9 e_11 e_12 e_13 e_21 e_23 (Int.le_trans f_30.1 e_28) (Int.le_trans e_29 f_30.2) q_32 e_33 e_35 e_36 e_37 e_43 (le_min v_34) (le_max v_34) (le_min v_42) (le_max v_42) (le_min a1) (le_max a1) (le_min v_3) (le_max v_3) (le_min v_10) (le_max v_10) (le_min v_20) (le_max v_20) (le_min v_22) (le_max v_22) (le_min v_26) (le_max v_26)) dX12_beyond_49 (fun v_44 e_45 => ?_)
          refine lv_istore (lv' := [(4, .int v_44), (3, .int v_22), (0, .ref (ad 1)), (1, .int a1), (2, .int a2)]) C0.1 C0.2.1 dX12_beyond_50 hl (by decide) rfl (fun ls hl => ?_)
          refine lv_iload_n C0.1 C0.2.1 dX12_beyond_52 rfl (lv_at hl 1 rfl) ?_
          refine y_i2l C0 dX12_beyond_53 (fun w_46 e_47 => ?_)
          refine y_lc (v := 0) C0 (by decide) dX12_beyond_54 (fun w_48 e_49 => ?_)
          refine lv_aload_n C0.1 C0.2.1 dX12_beyond_55 rfl (lv_at hl 2 rfl) ?_
          refine y_c1 (n := 1) C0 (by decide) dX12_beyond_56 (fun v_50 e_51 => ?_)
          refine y_iald C0 h kSM_1 rfl (by decide) (o32_5 e_51) (o32_26 e_51) dX12_beyond_57 (fun v_52 e_53 e_54 e_55 => ?_)
          have f_56 := o32_27 v_50.toInt.toNat (o32_28 e_51) (o32_29 e_51)
          have e_57 : aI ws0 1 1 = v_52 := (congrArg (aI ws0 1) (ix_c (c := 1) (o32_30 e_51))).symm.trans e_53
          have q_58 : v_52.toInt = v_3.toInt := congrArg Int32.toInt (e_57.symm.trans (Eq.trans rfl e_8))
          have e_59 := laid_1 (Laid.pa hLd Pa.rf) e_57
          refine y_c1 (n := 1) C0 (by decide) dX12_beyond_58 (fun v_60 e_61 => ?_)
          refine y_sub C0 (o32_93 l1 u1 (Int.le_trans f_7.1 e_5) (Int.le_trans e_6 f_7.2) e_9 e_11 e_12 e_13 e_21 e_23 (Int.le_trans f_30.1 e_28) (Int.le_trans e_29 f_30.2) q_32 e_33 e_35 e_36 e_37 e_43 e_45 e_47 (Int.le_trans f_56.1 e_54) (Int.le_trans e_55 f_56.2) q_58 e_59 e_61 (le_min v_52) (le_max v_52) (le_min v_60) (le_max v_60) (le_min a1) (le_max a1) (le_min v_3) (le_max v_3) (le_min v_10) (le_max v_10) (le_min v_20) (le_max v_20) (le_min v_22) (le_max v_22) (le_min v_26) (le_max v_26) (le_min v_34) (le_max v_34) (le_min v_42) (le_max v_42) (le_min v_44) (le_max v_44)) (o32_94 l1 u1 (Int.le_trans f_7.1 e_5) (Int.le_trans e_6 f_7.2) e_9 e_11 e_12 e_13 e_21 e_23 (Int.le_trans f_30.1 e_28) (Int.le_trans e_29 f_30.2) q_32 e_33 e_35 e_36 e_37 e_43 e_45 e_47 (Int.le_trans f_56.1 e_54) (Int.le_trans e_55 f_56.2) q_58 e_59 e_61 (le_min v_52) (le_max v_52) (le_min v_60) (le_max v_60) (le_min a1) (le_max a1) (le_min v_3) (le_max v_3) (le_min v_10) (le_max v_10) (le_min v_20) (le_max v_20) (le_min v_22) (le_max v_22) (le_min v_26) (le_max v_26) (le_min v_34) (le_max v_34) (le_min v_42) (le_max v_42) (le_min v_44) (le_max v_44)) dX12_beyond_59 (fun v_62 e_63 => ?_)
          refine y_i2l C0 dX12_beyond_60 (fun w_64 e_65 => ?_)
          refine y_ci h (y_rS (As := [.long w_46, .long w_48, .long w_64]) (rest := []) C0 hZ h (c_X12_within l G Z ad _ h.2 w_46 w_48 w_64) k_X12_within q_1580 q_1579 hl.1 rfl rfl (Nat.le_of_ble_eq_true rfl) dX12_beyond_61 ⟨Nat.le_of_ble_eq_true rfl, Nat.le_of_ble_eq_true rfl⟩ ⟨Nat.le_of_ble_eq_true rfl, Nat.le_of_ble_eq_true rfl⟩) (fun r_69 H locs ws_66 h u_67 p_68 => ?_)
          obtain ⟨e_70, e_71, e_72⟩ := p_68
          refine y_if_eq (tgt := 94) C0 dX12_beyond_64 (by decide) (fun c_73 => ?_) (fun c_73 => ?_)
          · -- 64
            refine y_c1 (n := (-1)) C0 (by decide) dX12_beyond_94 (fun v_74 e_75 => ?_)
            obtain ⟨f_77, e_78⟩ : ∃ v, aI ws_66 1 2 = v := ⟨_, rfl⟩
            have b_79 := ty_aI 2 h.2 kSM_1 rfl (by decide)
            rw [e_78] at b_79
            have g_76 : v_74.toInt = beyF v_3.toInt f_77.toInt a1.toInt a2.toInt := by
              unfold beyF
              rw [if_neg]
              · omega
              · have hd : v_34.toInt = a1.toInt / v_3.toInt := by rw [e_35, (o32_96 l1 u1 (Int.le_trans f_7.1 e_5) (Int.le_trans e_6 f_7.2) e_9 e_11 e_12 e_13 e_21 e_23 (Int.le_trans f_30.1 e_28) (Int.le_trans e_29 f_30.2) q_32 e_33 e_35 e_36 e_37 e_43 e_45 e_47 e_49 (Int.le_trans f_56.1 e_54) (Int.le_trans e_55 f_56.2) q_58 e_59 e_61 e_63 e_65 e_70 e_71 e_72 c_73)]
                intro hq
                obtain ⟨q1, q2, q3, q4⟩ := hq
                (repeat' split at q1) <;> (repeat' split at q3) <;> omega
            rw [hQ]
            exact y_iret C0 h u_67 ⟨(o32_12 e_75), (o32_95 e_75), (by rw [e_8, (Eq.trans (Eq.symm (Fr.aI u_67 kSM_1 (by decide))) e_78)]; exact g_76)⟩ dX12_beyond_95
          · -- 64
            refine lv_iload C0.1 C0.2.1 dX12_beyond_67 (lv_at hl 0 rfl) ?_
            refine y_i2l C0 dX12_beyond_69 (fun w_80 e_81 => ?_)
            refine y_lc (v := 0) C0 (by decide) dX12_beyond_70 (fun w_82 e_83 => ?_)
            refine lv_aload_n C0.1 C0.2.1 dX12_beyond_71 rfl (lv_at hl 2 rfl) ?_
            refine y_c1 (n := 2) C0 (by decide) dX12_beyond_72 (fun v_84 e_85 => ?_)
            refine y_iald C0 h kSM_1 rfl (by decide) (o32_31 e_85) (o32_32 e_85) dX12_beyond_73 (fun v_86 e_87 e_88 e_89 => ?_)
            have f_90 := o32_33 v_84.toInt.toNat (o32_34 e_85) (o32_35 e_85)
            have e_91 : aI ws_66 1 2 = v_86 := (congrArg (aI ws_66 1) (ix_c (c := 2) (o32_36 e_85))).symm.trans e_87
            have e_92 := laid_2 (Laid.pa hLd (Pa.fr u_67 (by decide))) e_91
            refine y_c1 (n := 1) C0 (by decide) dX12_beyond_74 (fun v_93 e_94 => ?_)
            refine y_sub C0 (o32_97 (Int.le_trans f_90.1 e_88) (Int.le_trans e_89 f_90.2) e_92 e_94 (le_min v_86) (le_max v_86) (le_min v_93) (le_max v_93)) (o32_98 (Int.le_trans f_90.1 e_88) (Int.le_trans e_89 f_90.2) e_92 e_94 (le_min v_86) (le_max v_86) (le_min v_93) (le_max v_93)) dX12_beyond_75 (fun v_95 e_96 => ?_)
            refine y_i2l C0 dX12_beyond_76 (fun w_97 e_98 => ?_)
            refine y_ci h (y_rS (As := [.long w_80, .long w_82, .long w_97]) (rest := []) C0 hZ h (c_X12_within l G Z ad _ h.2 w_80 w_82 w_97) k_X12_within q_1580 q_1579 hl.1 rfl rfl (Nat.le_of_ble_eq_true rfl) dX12_beyond_77 ⟨Nat.le_of_ble_eq_true rfl, Nat.le_of_ble_eq_true rfl⟩ ⟨Nat.le_of_ble_eq_true rfl, Nat.le_of_ble_eq_true rfl⟩) (fun r_102 H locs ws_99 h u_100 p_101 => ?_)
            obtain ⟨e_103, e_104, e_105⟩ := p_101
            refine y_if_eq (tgt := 94) C0 dX12_beyond_80 (by decide) (fun c_106 => ?_) (fun c_106 => ?_)
            · -- 80
              refine y_c1 (n := (-1)) C0 (by decide) dX12_beyond_94 (fun v_107 e_108 => ?_)
              have g_109 : v_107.toInt = beyF v_3.toInt v_86.toInt a1.toInt a2.toInt := by
                unfold beyF
                rw [if_neg]
                · omega
                · have hd : v_34.toInt = a1.toInt / v_3.toInt := by rw [e_35, (o32_99 l1 u1 (Int.le_trans f_7.1 e_5) (Int.le_trans e_6 f_7.2) e_9 e_11 e_12 e_13 e_21 e_23 (Int.le_trans f_30.1 e_28) (Int.le_trans e_29 f_30.2) q_32 e_33 e_35 e_36 e_37 e_43 e_45 e_47 e_49 (Int.le_trans f_56.1 e_54) (Int.le_trans e_55 f_56.2) q_58 e_59 e_61 e_63 e_65 e_70 e_71 e_72 c_73 e_81 e_83 (Int.le_trans f_90.1 e_88) (Int.le_trans e_89 f_90.2) e_92 e_94 e_96 e_98 e_103 e_104 e_105 c_106)]
                  intro hq
                  obtain ⟨q1, q2, q3, q4⟩ := hq
                  (repeat' split at q1) <;> (repeat' split at q3) <;> omega
              rw [hQ]
              exact y_iret C0 h (Fr.tr u_67 u_100) ⟨(o32_12 e_108), (o32_95 e_108), (by rw [e_8, (Eq.trans (Eq.symm (Fr.aI u_67 kSM_1 (by decide))) e_91)]; exact g_109)⟩ dX12_beyond_95
            · -- 80
              refine lv_aload_n C0.1 C0.2.1 dX12_beyond_83 rfl (lv_at hl 2 rfl) ?_
              refine y_c1 (n := 1) C0 (by decide) dX12_beyond_84 (fun v_110 e_111 => ?_)
              refine y_iald C0 h kSM_1 rfl (by decide) (o32_5 e_111) (o32_26 e_111) dX12_beyond_85 (fun v_112 e_113 e_114 e_115 => ?_)
              have f_116 := o32_27 v_110.toInt.toNat (o32_28 e_111) (o32_29 e_111)
              have e_117 : aI ws_99 1 1 = v_112 := (congrArg (aI ws_99 1) (ix_c (c := 1) (o32_30 e_111))).symm.trans e_113
              have q_118 : v_112.toInt = v_3.toInt := congrArg Int32.toInt (e_117.symm.trans (Eq.trans (Eq.trans (Fr.aI u_100 kSM_1 (by decide)) (Fr.aI u_67 kSM_1 (by decide))) e_8))
              have e_119 := laid_1 (Laid.pa hLd (Pa.tr (Pa.fr u_67 (by decide)) (Pa.fr u_100 (by decide)))) e_117
              refine lv_iload C0.1 C0.2.1 dX12_beyond_86 (lv_at hl 0 rfl) ?_
              refine y_mulb (la := 1) (ha := 5) (lb := 0) (hb := 4) C0 (by decide) (o32_100 l1 u1 (Int.le_trans f_7.1 e_5) (Int.le_trans e_6 f_7.2) e_9 e_11 e_12 e_13 e_21 e_23 (Int.le_trans f_30.1 e_28) (Int.le_trans e_29 f_30.2) q_32 e_33 e_35 e_36 e_37 e_43 e_45 e_47 e_49 (Int.le_trans f_56.1 e_54) (Int.le_trans e_55 f_56.2) q_58 e_59 e_61 e_63 e_65 e_70 e_71 e_72 c_73 e_81 e_83 (Int.le_trans f_90.1 e_88) (Int.le_trans e_89 f_90.2) e_92 e_94 e_96 e_98 e_103 e_104 e_105 c_106 (Int.le_trans f_116.1 e_114) (Int.le_trans e_115 f_116.2) q_118 e_119) (o32_101 l1 u1 (Int.le_trans f_7.1 e_5) (Int.le_trans e_6 f_7.2) e_9 e_11 e_12 e_13 e_21 e_23 (Int.le_trans f_30.1 e_28) (Int.le_trans e_29 f_30.2) q_32 e_33 e_35 e_36 e_37 e_43 e_45 e_47 e_49 (Int.le_trans f_56.1 e_54) (Int.le_trans e_55 f_56.2) q_58 e_59 e_61 e_63 e_65 e_70 e_71 e_72 c_73 e_81 e_83 (Int.le_trans f_90.1 e_88) (Int.le_trans e_89 f_90.2) e_92 e_94 e_96 e_98 e_103 e_104 e_105 c_106 (Int.le_trans f_116.1 e_114) (Int.le_trans e_115 f_116.2) q_118 e_119) (by decide) (o32_102 l1 u1 (Int.le_trans f_7.1 e_5) (Int.le_trans e_6 f_7.2) e_9 e_11 e_12 e_13 e_21 e_23 (Int.le_trans f_30.1 e_28) (Int.le_trans e_29 f_30.2) q_32 e_33 e_35 e_36 e_37 e_43 e_45 e_47 e_49 (Int.le_trans f_56.1 e_54) (Int.le_trans e_55 f_56.2) q_58 e_59 e_61 e_63 e_65 e_70 e_71 e_72 c_73 e_81 e_83 (Int.le_trans f_90.1 e_88) (Int.le_trans e_89 f_90.2) e_92 e_94 e_96 e_98 e_103 e_104 e_105 c_106 (Int.le_trans f_116.1 e_114) (Int.le_trans e_115 f_116.2) q_118 e_119) (o32_103 l1 u1 (Int.le_trans f_7.1 e_5) (Int.le_trans e_6 f_7.2) e_9 e_11 e_12 e_13 e_21 e_23 (Int.le_trans f_30.1 e_28) (Int.le_trans e_29 f_30.2) q_32 e_33 e_35 e_36 e_37 e_43 e_45 e_47 e_49 (Int.le_trans f_56.1 e_54) (Int.le_trans e_55 f_56.2) q_58 e_59 e_61 e_63 e_65 e_70 e_71 e_72 c_73 e_81 e_83 (Int.le_trans f_90.1 e_88) (Int.le_trans e_89 f_90.2) e_92 e_94 e_96 e_98 e_103 e_104 e_105 c_106 (Int.le_trans f_116.1 e_114) (Int.le_trans e_115 f_116.2) q_118 e_119) (by decide) dX12_beyond_88 (fun v_120 e_121 e_122 e_123 => ?_)
              refine lv_iload_n C0.1 C0.2.1 dX12_beyond_89 rfl (lv_at hl 1 rfl) ?_
              refine y_add C0 (o32_104 l1 u1 (Int.le_trans f_7.1 e_5) (Int.le_trans e_6 f_7.2) e_9 e_11 e_12 e_13 e_21 e_23 (Int.le_trans f_30.1 e_28) (Int.le_trans e_29 f_30.2) q_32 e_33 e_35 e_36 e_37 e_43 e_45 e_47 e_49 (Int.le_trans f_56.1 e_54) (Int.le_trans e_55 f_56.2) q_58 e_59 e_61 e_63 e_65 e_70 e_71 e_72 c_73 e_81 e_83 (Int.le_trans f_90.1 e_88) (Int.le_trans e_89 f_90.2) e_92 e_94 e_96 e_98 e_103 e_104 e_105 c_106 (Int.le_trans f_116.1 e_114) (Int.le_trans e_115 f_116.2) q_118 e_119 e_122 e_123 (le_min v_120) (le_max v_120) (le_min v_22) (le_max v_22) (le_min a1) (le_max a1) (le_min v_3) (le_max v_3) (le_min v_10) (le_max v_10) (le_min v_20) (le_max v_20) (le_min v_26) (le_max v_26) (le_min v_34) (le_max v_34) (le_min v_42) (le_max v_42) (le_min v_44) (le_max v_44) (le_min v_52) (le_max v_52) (le_min v_60) (le_max v_60) (le_min v_62) (le_max v_62) (le_min r_69) (le_max r_69) (le_min v_86) (le_max v_86) (le_min v_93) (le_max v_93) (le_min v_95) (le_max v_95) (le_min r_102) (le_max r_102) (le_min v_112) (le_max v_112)) (o32_105 l1 u1 (Int.le_trans f_7.1 e_5) (Int.le_trans e_6 f_7.2) e_9 e_11 e_12 e_13 e_21 e_23 (Int.le_trans f_30.1 e_28) (Int.le_trans e_29 f_30.2) q_32 e_33 e_35 e_36 e_37 e_43 e_45 e_47 e_49 (Int.le_trans f_56.1 e_54) (Int.le_trans e_55 f_56.2) q_58 e_59 e_61 e_63 e_65 e_70 e_71 e_72 c_73 e_81 e_83 (Int.le_trans f_90.1 e_88) (Int.le_trans e_89 f_90.2) e_92 e_94 e_96 e_98 e_103 e_104 e_105 c_106 (Int.le_trans f_116.1 e_114) (Int.le_trans e_115 f_116.2) q_118 e_119 e_122 e_123 (le_min v_120) (le_max v_120) (le_min v_22) (le_max v_22) (le_min a1) (le_max a1) (le_min v_3) (le_max v_3) (le_min v_10) (le_max v_10) (le_min v_20) (le_max v_20) (le_min v_26) (le_max v_26) (le_min v_34) (le_max v_34) (le_min v_42) (le_max v_42) (le_min v_44) (le_max v_44) (le_min v_52) (le_max v_52) (le_min v_60) (le_max v_60) (le_min v_62) (le_max v_62) (le_min r_69) (le_max r_69) (le_min v_86) (le_max v_86) (le_min v_93) (le_max v_93) (le_min v_95) (le_max v_95) (le_min r_102) (le_max r_102) (le_min v_112) (le_max v_112)) dX12_beyond_90 (fun v_124 e_125 => ?_)
              refine lv_goto (tgt := 95) C0.1 C0.2.1 dX12_beyond_91 (by decide) ?_
              have g_126 : v_124.toInt = beyF v_3.toInt v_86.toInt a1.toInt a2.toInt := by
                unfold beyF
                have hm : v_112.toInt * v_44.toInt = v_3.toInt * v_44.toInt := by rw [(o32_108 l1 u1 (Int.le_trans f_7.1 e_5) (Int.le_trans e_6 f_7.2) e_9 e_11 e_12 e_13 e_21 e_23 (Int.le_trans f_30.1 e_28) (Int.le_trans e_29 f_30.2) q_32 e_33 e_35 e_36 e_37 e_43 e_45 e_47 e_49 (Int.le_trans f_56.1 e_54) (Int.le_trans e_55 f_56.2) q_58 e_59 e_61 e_63 e_65 e_70 e_71 e_72 c_73 e_81 e_83 (Int.le_trans f_90.1 e_88) (Int.le_trans e_89 f_90.2) e_92 e_94 e_96 e_98 e_103 e_104 e_105 c_106 (Int.le_trans f_116.1 e_114) (Int.le_trans e_115 f_116.2) q_118 e_119 e_122 e_123 e_125)]
                have hy : v_44.toInt = a1.toInt / v_3.toInt + (if a2.toInt = 2 then 1 else if a2.toInt = 0 then -1 else 0) := by
                  have hd : v_34.toInt = a1.toInt / v_3.toInt := by rw [e_35, (o32_110 l1 u1 (Int.le_trans f_7.1 e_5) (Int.le_trans e_6 f_7.2) e_9 e_11 e_12 e_13 e_21 e_23 (Int.le_trans f_30.1 e_28) (Int.le_trans e_29 f_30.2) q_32 e_33 e_35 e_36 e_37 e_43 e_45 e_47 e_49 (Int.le_trans f_56.1 e_54) (Int.le_trans e_55 f_56.2) q_58 e_59 e_61 e_63 e_65 e_70 e_71 e_72 c_73 e_81 e_83 (Int.le_trans f_90.1 e_88) (Int.le_trans e_89 f_90.2) e_92 e_94 e_96 e_98 e_103 e_104 e_105 c_106 (Int.le_trans f_116.1 e_114) (Int.le_trans e_115 f_116.2) q_118 e_119 e_122 e_123 e_125)]
                  (repeat' split) <;> omega
                rw [← hy, if_pos (by refine ⟨?_, ?_, ?_, ?_⟩ <;> (repeat' split) <;> omega)]
                (repeat' split) <;> omega
              rw [hQ]
              exact y_iret C0 h (Fr.tr u_67 u_100) ⟨(o32_106 l1 u1 (Int.le_trans f_7.1 e_5) (Int.le_trans e_6 f_7.2) e_9 e_11 e_12 e_13 e_21 e_23 (Int.le_trans f_30.1 e_28) (Int.le_trans e_29 f_30.2) q_32 e_33 e_35 e_36 e_37 e_43 e_45 e_47 e_49 (Int.le_trans f_56.1 e_54) (Int.le_trans e_55 f_56.2) q_58 e_59 e_61 e_63 e_65 e_70 e_71 e_72 c_73 e_81 e_83 e_96 e_98 e_103 e_104 e_105 c_106 (Int.le_trans f_116.1 e_114) (Int.le_trans e_115 f_116.2) q_118 e_119 e_122 e_123 e_125), (o32_107 l1 u1 (Int.le_trans f_7.1 e_5) (Int.le_trans e_6 f_7.2) e_9 e_11 e_12 e_13 e_21 e_23 (Int.le_trans f_30.1 e_28) (Int.le_trans e_29 f_30.2) q_32 e_33 e_35 e_36 e_37 e_43 e_45 e_47 e_49 (Int.le_trans f_56.1 e_54) (Int.le_trans e_55 f_56.2) q_58 e_59 e_61 e_63 e_65 e_70 e_71 e_72 c_73 e_81 e_83 e_96 e_98 e_103 e_104 e_105 c_106 (Int.le_trans f_116.1 e_114) (Int.le_trans e_115 f_116.2) q_118 e_119 e_122 e_123 e_125), (by rw [e_8, (Eq.trans (Eq.symm (Fr.aI u_67 kSM_1 (by decide))) e_91)]; exact g_126)⟩ dX12_beyond_95
        · -- 41
          refine y_c1 (n := (-1)) C0 (by decide) dX12_beyond_44 (fun v_127 e_128 => ?_)
          refine lv_goto (tgt := 49) C0.1 C0.2.1 dX12_beyond_45 (by decide) ?_
          refine y_add C0 (o32_111 l1 u1 (Int.le_trans f_7.1 e_5) (Int.le_trans e_6 f_7.2) e_9 e_11 e_12 e_13 e_21 e_23 (Int.le_trans f_30.1 e_28) (Int.le_trans e_29 f_30.2) q_32 e_33 e_35 e_36 e_37 e_128 (le_min v_34) (le_max v_34) (le_min v_127) (le_max v_127) (le_min a1) (le_max a1) (le_min v_3) (le_max v_3) (le_min v_10) (le_max v_10) (le_min v_20) (le_max v_20) (le_min v_22) (le_max v_22) (le_min v_26) (le_max v_26)) (o32_112 l1 u1 (Int.le_trans f_7.1 e_5) (Int.le_trans e_6 f_7.2) e_9 e_11 e_12 e_13 e_21 e_23 (Int.le_trans f_30.1 e_28) (Int.le_trans e_29 f_30.2) q_32 e_33 e_35 e_36 e_37 e_128 (le_min v_34) (le_max v_34) (le_min v_127) (le_max v_127) (le_min a1) (le_max a1) (le_min v_3) (le_max v_3) (le_min v_10) (le_max v_10) (le_min v_20) (le_max v_20) (le_min v_22) (le_max v_22) (le_min v_26) (le_max v_26)) dX12_beyond_49 (fun v_129 e_130 => ?_)
          refine lv_istore (lv' := [(4, .int v_129), (3, .int v_22), (0, .ref (ad 1)), (1, .int a1), (2, .int a2)]) C0.1 C0.2.1 dX12_beyond_50 hl (by decide) rfl (fun ls hl => ?_)
          refine lv_iload_n C0.1 C0.2.1 dX12_beyond_52 rfl (lv_at hl 1 rfl) ?_
          refine y_i2l C0 dX12_beyond_53 (fun w_131 e_132 => ?_)
          refine y_lc (v := 0) C0 (by decide) dX12_beyond_54 (fun w_133 e_134 => ?_)
          refine lv_aload_n C0.1 C0.2.1 dX12_beyond_55 rfl (lv_at hl 2 rfl) ?_
          refine y_c1 (n := 1) C0 (by decide) dX12_beyond_56 (fun v_135 e_136 => ?_)
          refine y_iald C0 h kSM_1 rfl (by decide) (o32_5 e_136) (o32_26 e_136) dX12_beyond_57 (fun v_137 e_138 e_139 e_140 => ?_)
          have f_141 := o32_27 v_135.toInt.toNat (o32_28 e_136) (o32_29 e_136)
          have e_142 : aI ws0 1 1 = v_137 := (congrArg (aI ws0 1) (ix_c (c := 1) (o32_30 e_136))).symm.trans e_138
          have q_143 : v_137.toInt = v_3.toInt := congrArg Int32.toInt (e_142.symm.trans (Eq.trans rfl e_8))
          have e_144 := laid_1 (Laid.pa hLd Pa.rf) e_142
          refine y_c1 (n := 1) C0 (by decide) dX12_beyond_58 (fun v_145 e_146 => ?_)
          refine y_sub C0 (o32_113 l1 u1 (Int.le_trans f_7.1 e_5) (Int.le_trans e_6 f_7.2) e_9 e_11 e_12 e_13 e_21 e_23 (Int.le_trans f_30.1 e_28) (Int.le_trans e_29 f_30.2) q_32 e_33 e_35 e_36 e_37 e_128 e_130 e_132 (Int.le_trans f_141.1 e_139) (Int.le_trans e_140 f_141.2) q_143 e_144 e_146 (le_min v_137) (le_max v_137) (le_min v_145) (le_max v_145) (le_min a1) (le_max a1) (le_min v_3) (le_max v_3) (le_min v_10) (le_max v_10) (le_min v_20) (le_max v_20) (le_min v_22) (le_max v_22) (le_min v_26) (le_max v_26) (le_min v_34) (le_max v_34) (le_min v_127) (le_max v_127) (le_min v_129) (le_max v_129)) (o32_114 l1 u1 (Int.le_trans f_7.1 e_5) (Int.le_trans e_6 f_7.2) e_9 e_11 e_12 e_13 e_21 e_23 (Int.le_trans f_30.1 e_28) (Int.le_trans e_29 f_30.2) q_32 e_33 e_35 e_36 e_37 e_128 e_130 e_132 (Int.le_trans f_141.1 e_139) (Int.le_trans e_140 f_141.2) q_143 e_144 e_146 (le_min v_137) (le_max v_137) (le_min v_145) (le_max v_145) (le_min a1) (le_max a1) (le_min v_3) (le_max v_3) (le_min v_10) (le_max v_10) (le_min v_20) (le_max v_20) (le_min v_22) (le_max v_22) (le_min v_26) (le_max v_26) (le_min v_34) (le_max v_34) (le_min v_127) (le_max v_127) (le_min v_129) (le_max v_129)) dX12_beyond_59 (fun v_147 e_148 => ?_)
          refine y_i2l C0 dX12_beyond_60 (fun w_149 e_150 => ?_)
          refine y_ci h (y_rS (As := [.long w_131, .long w_133, .long w_149]) (rest := []) C0 hZ h (c_X12_within l G Z ad _ h.2 w_131 w_133 w_149) k_X12_within q_1580 q_1579 hl.1 rfl rfl (Nat.le_of_ble_eq_true rfl) dX12_beyond_61 ⟨Nat.le_of_ble_eq_true rfl, Nat.le_of_ble_eq_true rfl⟩ ⟨Nat.le_of_ble_eq_true rfl, Nat.le_of_ble_eq_true rfl⟩) (fun r_154 H locs ws_151 h u_152 p_153 => ?_)
          obtain ⟨e_155, e_156, e_157⟩ := p_153
          refine y_if_eq (tgt := 94) C0 dX12_beyond_64 (by decide) (fun c_158 => ?_) (fun c_158 => ?_)
          · -- 64
            refine y_c1 (n := (-1)) C0 (by decide) dX12_beyond_94 (fun v_159 e_160 => ?_)
            obtain ⟨f_162, e_163⟩ : ∃ v, aI ws_151 1 2 = v := ⟨_, rfl⟩
            have b_164 := ty_aI 2 h.2 kSM_1 rfl (by decide)
            rw [e_163] at b_164
            have g_161 : v_159.toInt = beyF v_3.toInt f_162.toInt a1.toInt a2.toInt := by
              unfold beyF
              rw [if_neg]
              · omega
              · have hd : v_34.toInt = a1.toInt / v_3.toInt := by rw [e_35, (o32_115 l1 u1 (Int.le_trans f_7.1 e_5) (Int.le_trans e_6 f_7.2) e_9 e_11 e_12 e_13 e_21 e_23 (Int.le_trans f_30.1 e_28) (Int.le_trans e_29 f_30.2) q_32 e_33 e_35 e_36 e_37 e_128 e_130 e_132 e_134 (Int.le_trans f_141.1 e_139) (Int.le_trans e_140 f_141.2) q_143 e_144 e_146 e_148 e_150 e_155 e_156 e_157 c_158)]
                intro hq
                obtain ⟨q1, q2, q3, q4⟩ := hq
                (repeat' split at q1) <;> (repeat' split at q3) <;> omega
            rw [hQ]
            exact y_iret C0 h u_152 ⟨(o32_12 e_160), (o32_95 e_160), (by rw [e_8, (Eq.trans (Eq.symm (Fr.aI u_152 kSM_1 (by decide))) e_163)]; exact g_161)⟩ dX12_beyond_95
          · -- 64
            refine lv_iload C0.1 C0.2.1 dX12_beyond_67 (lv_at hl 0 rfl) ?_
            refine y_i2l C0 dX12_beyond_69 (fun w_165 e_166 => ?_)
            refine y_lc (v := 0) C0 (by decide) dX12_beyond_70 (fun w_167 e_168 => ?_)
            refine lv_aload_n C0.1 C0.2.1 dX12_beyond_71 rfl (lv_at hl 2 rfl) ?_
            refine y_c1 (n := 2) C0 (by decide) dX12_beyond_72 (fun v_169 e_170 => ?_)
            refine y_iald C0 h kSM_1 rfl (by decide) (o32_31 e_170) (o32_32 e_170) dX12_beyond_73 (fun v_171 e_172 e_173 e_174 => ?_)
            have f_175 := o32_33 v_169.toInt.toNat (o32_34 e_170) (o32_35 e_170)
            have e_176 : aI ws_151 1 2 = v_171 := (congrArg (aI ws_151 1) (ix_c (c := 2) (o32_36 e_170))).symm.trans e_172
            have e_177 := laid_2 (Laid.pa hLd (Pa.fr u_152 (by decide))) e_176
            refine y_c1 (n := 1) C0 (by decide) dX12_beyond_74 (fun v_178 e_179 => ?_)
            refine y_sub C0 (o32_97 (Int.le_trans f_175.1 e_173) (Int.le_trans e_174 f_175.2) e_177 e_179 (le_min v_171) (le_max v_171) (le_min v_178) (le_max v_178)) (o32_98 (Int.le_trans f_175.1 e_173) (Int.le_trans e_174 f_175.2) e_177 e_179 (le_min v_171) (le_max v_171) (le_min v_178) (le_max v_178)) dX12_beyond_75 (fun v_180 e_181 => ?_)
            refine y_i2l C0 dX12_beyond_76 (fun w_182 e_183 => ?_)
            refine y_ci h (y_rS (As := [.long w_165, .long w_167, .long w_182]) (rest := []) C0 hZ h (c_X12_within l G Z ad _ h.2 w_165 w_167 w_182) k_X12_within q_1580 q_1579 hl.1 rfl rfl (Nat.le_of_ble_eq_true rfl) dX12_beyond_77 ⟨Nat.le_of_ble_eq_true rfl, Nat.le_of_ble_eq_true rfl⟩ ⟨Nat.le_of_ble_eq_true rfl, Nat.le_of_ble_eq_true rfl⟩) (fun r_187 H locs ws_184 h u_185 p_186 => ?_)
            obtain ⟨e_188, e_189, e_190⟩ := p_186
            refine y_if_eq (tgt := 94) C0 dX12_beyond_80 (by decide) (fun c_191 => ?_) (fun c_191 => ?_)
            · -- 80
              refine y_c1 (n := (-1)) C0 (by decide) dX12_beyond_94 (fun v_192 e_193 => ?_)
              have g_194 : v_192.toInt = beyF v_3.toInt v_171.toInt a1.toInt a2.toInt := by
                unfold beyF
                rw [if_neg]
                · omega
                · have hd : v_34.toInt = a1.toInt / v_3.toInt := by rw [e_35, (o32_116 l1 u1 (Int.le_trans f_7.1 e_5) (Int.le_trans e_6 f_7.2) e_9 e_11 e_12 e_13 e_21 e_23 (Int.le_trans f_30.1 e_28) (Int.le_trans e_29 f_30.2) q_32 e_33 e_35 e_36 e_37 e_128 e_130 e_132 e_134 (Int.le_trans f_141.1 e_139) (Int.le_trans e_140 f_141.2) q_143 e_144 e_146 e_148 e_150 e_155 e_156 e_157 c_158 e_166 e_168 (Int.le_trans f_175.1 e_173) (Int.le_trans e_174 f_175.2) e_177 e_179 e_181 e_183 e_188 e_189 e_190 c_191)]
                  intro hq
                  obtain ⟨q1, q2, q3, q4⟩ := hq
                  (repeat' split at q1) <;> (repeat' split at q3) <;> omega
              rw [hQ]
              exact y_iret C0 h (Fr.tr u_152 u_185) ⟨(o32_12 e_193), (o32_95 e_193), (by rw [e_8, (Eq.trans (Eq.symm (Fr.aI u_152 kSM_1 (by decide))) e_176)]; exact g_194)⟩ dX12_beyond_95
            · -- 80
              refine lv_aload_n C0.1 C0.2.1 dX12_beyond_83 rfl (lv_at hl 2 rfl) ?_
              refine y_c1 (n := 1) C0 (by decide) dX12_beyond_84 (fun v_195 e_196 => ?_)
              refine y_iald C0 h kSM_1 rfl (by decide) (o32_5 e_196) (o32_26 e_196) dX12_beyond_85 (fun v_197 e_198 e_199 e_200 => ?_)
              have f_201 := o32_27 v_195.toInt.toNat (o32_28 e_196) (o32_29 e_196)
              have e_202 : aI ws_184 1 1 = v_197 := (congrArg (aI ws_184 1) (ix_c (c := 1) (o32_30 e_196))).symm.trans e_198
              have q_203 : v_197.toInt = v_3.toInt := congrArg Int32.toInt (e_202.symm.trans (Eq.trans (Eq.trans (Fr.aI u_185 kSM_1 (by decide)) (Fr.aI u_152 kSM_1 (by decide))) e_8))
              have e_204 := laid_1 (Laid.pa hLd (Pa.tr (Pa.fr u_152 (by decide)) (Pa.fr u_185 (by decide)))) e_202
              refine lv_iload C0.1 C0.2.1 dX12_beyond_86 (lv_at hl 0 rfl) ?_
              refine y_mulb (la := 1) (ha := 5) (lb := 0) (hb := 4) C0 (by decide) (o32_117 l1 u1 (Int.le_trans f_7.1 e_5) (Int.le_trans e_6 f_7.2) e_9 e_11 e_12 e_13 e_21 e_23 (Int.le_trans f_30.1 e_28) (Int.le_trans e_29 f_30.2) q_32 e_33 e_35 e_36 e_37 e_128 e_130 e_132 e_134 (Int.le_trans f_141.1 e_139) (Int.le_trans e_140 f_141.2) q_143 e_144 e_146 e_148 e_150 e_155 e_156 e_157 c_158 e_166 e_168 (Int.le_trans f_175.1 e_173) (Int.le_trans e_174 f_175.2) e_177 e_179 e_181 e_183 e_188 e_189 e_190 c_191 (Int.le_trans f_201.1 e_199) (Int.le_trans e_200 f_201.2) q_203 e_204) (o32_118 l1 u1 (Int.le_trans f_7.1 e_5) (Int.le_trans e_6 f_7.2) e_9 e_11 e_12 e_13 e_21 e_23 (Int.le_trans f_30.1 e_28) (Int.le_trans e_29 f_30.2) q_32 e_33 e_35 e_36 e_37 e_128 e_130 e_132 e_134 (Int.le_trans f_141.1 e_139) (Int.le_trans e_140 f_141.2) q_143 e_144 e_146 e_148 e_150 e_155 e_156 e_157 c_158 e_166 e_168 (Int.le_trans f_175.1 e_173) (Int.le_trans e_174 f_175.2) e_177 e_179 e_181 e_183 e_188 e_189 e_190 c_191 (Int.le_trans f_201.1 e_199) (Int.le_trans e_200 f_201.2) q_203 e_204) (by decide) (o32_119 l1 u1 (Int.le_trans f_7.1 e_5) (Int.le_trans e_6 f_7.2) e_9 e_11 e_12 e_13 e_21 e_23 (Int.le_trans f_30.1 e_28) (Int.le_trans e_29 f_30.2) q_32 e_33 e_35 e_36 e_37 e_128 e_130 e_132 e_134 (Int.le_trans f_141.1 e_139) (Int.le_trans e_140 f_141.2) q_143 e_144 e_146 e_148 e_150 e_155 e_156 e_157 c_158 e_166 e_168 (Int.le_trans f_175.1 e_173) (Int.le_trans e_174 f_175.2) e_177 e_179 e_181 e_183 e_188 e_189 e_190 c_191 (Int.le_trans f_201.1 e_199) (Int.le_trans e_200 f_201.2) q_203 e_204) (o32_120 l1 u1 (Int.le_trans f_7.1 e_5) (Int.le_trans e_6 f_7.2) e_9 e_11 e_12 e_13 e_21 e_23 (Int.le_trans f_30.1 e_28) (Int.le_trans e_29 f_30.2) q_32 e_33 e_35 e_36 e_37 e_128 e_130 e_132 e_134 (Int.le_trans f_141.1 e_139) (Int.le_trans e_140 f_141.2) q_143 e_144 e_146 e_148 e_150 e_155 e_156 e_157 c_158 e_166 e_168 (Int.le_trans f_175.1 e_173) (Int.le_trans e_174 f_175.2) e_177 e_179 e_181 e_183 e_188 e_189 e_190 c_191 (Int.le_trans f_201.1 e_199) (Int.le_trans e_200 f_201.2) q_203 e_204) (by decide) dX12_beyond_88 (fun v_205 e_206 e_207 e_208 => ?_)
              refine lv_iload_n C0.1 C0.2.1 dX12_beyond_89 rfl (lv_at hl 1 rfl) ?_
              refine y_add C0 (o32_121 l1 u1 (Int.le_trans f_7.1 e_5) (Int.le_trans e_6 f_7.2) e_9 e_11 e_12 e_13 e_21 e_23 (Int.le_trans f_30.1 e_28) (Int.le_trans e_29 f_30.2) q_32 e_33 e_35 e_36 e_37 e_128 e_130 e_132 e_134 (Int.le_trans f_141.1 e_139) (Int.le_trans e_140 f_141.2) q_143 e_144 e_146 e_148 e_150 e_155 e_156 e_157 c_158 e_166 e_168 (Int.le_trans f_175.1 e_173) (Int.le_trans e_174 f_175.2) e_177 e_179 e_181 e_183 e_188 e_189 e_190 c_191 (Int.le_trans f_201.1 e_199) (Int.le_trans e_200 f_201.2) q_203 e_204 e_207 e_208 (le_min v_205) (le_max v_205) (le_min v_22) (le_max v_22) (le_min a1) (le_max a1) (le_min v_3) (le_max v_3) (le_min v_10) (le_max v_10) (le_min v_20) (le_max v_20) (le_min v_26) (le_max v_26) (le_min v_34) (le_max v_34) (le_min v_127) (le_max v_127) (le_min v_129) (le_max v_129) (le_min v_137) (le_max v_137) (le_min v_145) (le_max v_145) (le_min v_147) (le_max v_147) (le_min r_154) (le_max r_154) (le_min v_171) (le_max v_171) (le_min v_178) (le_max v_178) (le_min v_180) (le_max v_180) (le_min r_187) (le_max r_187) (le_min v_197) (le_max v_197)) (o32_122 l1 u1 (Int.le_trans f_7.1 e_5) (Int.le_trans e_6 f_7.2) e_9 e_11 e_12 e_13 e_21 e_23 (Int.le_trans f_30.1 e_28) (Int.le_trans e_29 f_30.2) q_32 e_33 e_35 e_36 e_37 e_128 e_130 e_132 e_134 (Int.le_trans f_141.1 e_139) (Int.le_trans e_140 f_141.2) q_143 e_144 e_146 e_148 e_150 e_155 e_156 e_157 c_158 e_166 e_168 (Int.le_trans f_175.1 e_173) (Int.le_trans e_174 f_175.2) e_177 e_179 e_181 e_183 e_188 e_189 e_190 c_191 (Int.le_trans f_201.1 e_199) (Int.le_trans e_200 f_201.2) q_203 e_204 e_207 e_208 (le_min v_205) (le_max v_205) (le_min v_22) (le_max v_22) (le_min a1) (le_max a1) (le_min v_3) (le_max v_3) (le_min v_10) (le_max v_10) (le_min v_20) (le_max v_20) (le_min v_26) (le_max v_26) (le_min v_34) (le_max v_34) (le_min v_127) (le_max v_127) (le_min v_129) (le_max v_129) (le_min v_137) (le_max v_137) (le_min v_145) (le_max v_145) (le_min v_147) (le_max v_147) (le_min r_154) (le_max r_154) (le_min v_171) (le_max v_171) (le_min v_178) (le_max v_178) (le_min v_180) (le_max v_180) (le_min r_187) (le_max r_187) (le_min v_197) (le_max v_197)) dX12_beyond_90 (fun v_209 e_210 => ?_)
              refine lv_goto (tgt := 95) C0.1 C0.2.1 dX12_beyond_91 (by decide) ?_
              have g_211 : v_209.toInt = beyF v_3.toInt v_171.toInt a1.toInt a2.toInt := by
                unfold beyF
                have hm : v_197.toInt * v_129.toInt = v_3.toInt * v_129.toInt := by rw [(o32_125 l1 u1 (Int.le_trans f_7.1 e_5) (Int.le_trans e_6 f_7.2) e_9 e_11 e_12 e_13 e_21 e_23 (Int.le_trans f_30.1 e_28) (Int.le_trans e_29 f_30.2) q_32 e_33 e_35 e_36 e_37 e_128 e_130 e_132 e_134 (Int.le_trans f_141.1 e_139) (Int.le_trans e_140 f_141.2) q_143 e_144 e_146 e_148 e_150 e_155 e_156 e_157 c_158 e_166 e_168 (Int.le_trans f_175.1 e_173) (Int.le_trans e_174 f_175.2) e_177 e_179 e_181 e_183 e_188 e_189 e_190 c_191 (Int.le_trans f_201.1 e_199) (Int.le_trans e_200 f_201.2) q_203 e_204 e_207 e_208 e_210)]
                have hy : v_129.toInt = a1.toInt / v_3.toInt + (if a2.toInt = 2 then 1 else if a2.toInt = 0 then -1 else 0) := by
                  have hd : v_34.toInt = a1.toInt / v_3.toInt := by rw [e_35, (o32_127 l1 u1 (Int.le_trans f_7.1 e_5) (Int.le_trans e_6 f_7.2) e_9 e_11 e_12 e_13 e_21 e_23 (Int.le_trans f_30.1 e_28) (Int.le_trans e_29 f_30.2) q_32 e_33 e_35 e_36 e_37 e_128 e_130 e_132 e_134 (Int.le_trans f_141.1 e_139) (Int.le_trans e_140 f_141.2) q_143 e_144 e_146 e_148 e_150 e_155 e_156 e_157 c_158 e_166 e_168 (Int.le_trans f_175.1 e_173) (Int.le_trans e_174 f_175.2) e_177 e_179 e_181 e_183 e_188 e_189 e_190 c_191 (Int.le_trans f_201.1 e_199) (Int.le_trans e_200 f_201.2) q_203 e_204 e_207 e_208 e_210)]
                  (repeat' split) <;> omega
                rw [← hy, if_pos (by refine ⟨?_, ?_, ?_, ?_⟩ <;> (repeat' split) <;> omega)]
                (repeat' split) <;> omega
              rw [hQ]
              exact y_iret C0 h (Fr.tr u_152 u_185) ⟨(o32_123 l1 u1 (Int.le_trans f_7.1 e_5) (Int.le_trans e_6 f_7.2) e_9 e_11 e_12 e_13 e_21 e_23 (Int.le_trans f_30.1 e_28) (Int.le_trans e_29 f_30.2) q_32 e_33 e_35 e_36 e_37 e_128 e_130 e_132 e_134 (Int.le_trans f_141.1 e_139) (Int.le_trans e_140 f_141.2) q_143 e_144 e_146 e_148 e_150 e_155 e_156 e_157 c_158 e_166 e_168 e_181 e_183 e_188 e_189 e_190 c_191 (Int.le_trans f_201.1 e_199) (Int.le_trans e_200 f_201.2) q_203 e_204 e_207 e_208 e_210), (o32_124 l1 u1 (Int.le_trans f_7.1 e_5) (Int.le_trans e_6 f_7.2) e_9 e_11 e_12 e_13 e_21 e_23 (Int.le_trans f_30.1 e_28) (Int.le_trans e_29 f_30.2) q_32 e_33 e_35 e_36 e_37 e_128 e_130 e_132 e_134 (Int.le_trans f_141.1 e_139) (Int.le_trans e_140 f_141.2) q_143 e_144 e_146 e_148 e_150 e_155 e_156 e_157 c_158 e_166 e_168 e_181 e_183 e_188 e_189 e_190 c_191 (Int.le_trans f_201.1 e_199) (Int.le_trans e_200 f_201.2) q_203 e_204 e_207 e_208 e_210), (by rw [e_8, (Eq.trans (Eq.symm (Fr.aI u_152 kSM_1 (by decide))) e_176)]; exact g_211)⟩ dX12_beyond_95
      · -- 33
        refine y_c1 (n := 1) C0 (by decide) dX12_beyond_36 (fun v_212 e_213 => ?_)
        refine lv_goto (tgt := 49) C0.1 C0.2.1 dX12_beyond_37 (by decide) ?_
        refine y_add C0 (o32_128 l1 u1 (Int.le_trans f_7.1 e_5) (Int.le_trans e_6 f_7.2) e_9 e_11 e_12 e_13 e_21 e_23 (Int.le_trans f_30.1 e_28) (Int.le_trans e_29 f_30.2) q_32 e_33 e_35 e_36 e_37 e_213 (le_min v_34) (le_max v_34) (le_min v_212) (le_max v_212) (le_min a1) (le_max a1) (le_min v_3) (le_max v_3) (le_min v_10) (le_max v_10) (le_min v_20) (le_max v_20) (le_min v_22) (le_max v_22) (le_min v_26) (le_max v_26)) (o32_129 l1 u1 (Int.le_trans f_7.1 e_5) (Int.le_trans e_6 f_7.2) e_9 e_11 e_12 e_13 e_21 e_23 (Int.le_trans f_30.1 e_28) (Int.le_trans e_29 f_30.2) q_32 e_33 e_35 e_36 e_37 e_213 (le_min v_34) (le_max v_34) (le_min v_212) (le_max v_212) (le_min a1) (le_max a1) (le_min v_3) (le_max v_3) (le_min v_10) (le_max v_10) (le_min v_20) (le_max v_20) (le_min v_22) (le_max v_22) (le_min v_26) (le_max v_26)) dX12_beyond_49 (fun v_214 e_215 => ?_)
        refine lv_istore (lv' := [(4, .int v_214), (3, .int v_22), (0, .ref (ad 1)), (1, .int a1), (2, .int a2)]) C0.1 C0.2.1 dX12_beyond_50 hl (by decide) rfl (fun ls hl => ?_)
        refine lv_iload_n C0.1 C0.2.1 dX12_beyond_52 rfl (lv_at hl 1 rfl) ?_
        refine y_i2l C0 dX12_beyond_53 (fun w_216 e_217 => ?_)
        refine y_lc (v := 0) C0 (by decide) dX12_beyond_54 (fun w_218 e_219 => ?_)
        refine lv_aload_n C0.1 C0.2.1 dX12_beyond_55 rfl (lv_at hl 2 rfl) ?_
        refine y_c1 (n := 1) C0 (by decide) dX12_beyond_56 (fun v_220 e_221 => ?_)
        refine y_iald C0 h kSM_1 rfl (by decide) (o32_5 e_221) (o32_26 e_221) dX12_beyond_57 (fun v_222 e_223 e_224 e_225 => ?_)
        have f_226 := o32_27 v_220.toInt.toNat (o32_28 e_221) (o32_29 e_221)
        have e_227 : aI ws0 1 1 = v_222 := (congrArg (aI ws0 1) (ix_c (c := 1) (o32_30 e_221))).symm.trans e_223
        have q_228 : v_222.toInt = v_3.toInt := congrArg Int32.toInt (e_227.symm.trans (Eq.trans rfl e_8))
        have e_229 := laid_1 (Laid.pa hLd Pa.rf) e_227
        refine y_c1 (n := 1) C0 (by decide) dX12_beyond_58 (fun v_230 e_231 => ?_)
        refine y_sub C0 (o32_130 l1 u1 (Int.le_trans f_7.1 e_5) (Int.le_trans e_6 f_7.2) e_9 e_11 e_12 e_13 e_21 e_23 (Int.le_trans f_30.1 e_28) (Int.le_trans e_29 f_30.2) q_32 e_33 e_35 e_36 e_37 e_213 e_215 e_217 (Int.le_trans f_226.1 e_224) (Int.le_trans e_225 f_226.2) q_228 e_229 e_231 (le_min v_222) (le_max v_222) (le_min v_230) (le_max v_230) (le_min a1) (le_max a1) (le_min v_3) (le_max v_3) (le_min v_10) (le_max v_10) (le_min v_20) (le_max v_20) (le_min v_22) (le_max v_22) (le_min v_26) (le_max v_26) (le_min v_34) (le_max v_34) (le_min v_212) (le_max v_212) (le_min v_214) (le_max v_214)) (o32_131 l1 u1 (Int.le_trans f_7.1 e_5) (Int.le_trans e_6 f_7.2) e_9 e_11 e_12 e_13 e_21 e_23 (Int.le_trans f_30.1 e_28) (Int.le_trans e_29 f_30.2) q_32 e_33 e_35 e_36 e_37 e_213 e_215 e_217 (Int.le_trans f_226.1 e_224) (Int.le_trans e_225 f_226.2) q_228 e_229 e_231 (le_min v_222) (le_max v_222) (le_min v_230) (le_max v_230) (le_min a1) (le_max a1) (le_min v_3) (le_max v_3) (le_min v_10) (le_max v_10) (le_min v_20) (le_max v_20) (le_min v_22) (le_max v_22) (le_min v_26) (le_max v_26) (le_min v_34) (le_max v_34) (le_min v_212) (le_max v_212) (le_min v_214) (le_max v_214)) dX12_beyond_59 (fun v_232 e_233 => ?_)
        refine y_i2l C0 dX12_beyond_60 (fun w_234 e_235 => ?_)
        refine y_ci h (y_rS (As := [.long w_216, .long w_218, .long w_234]) (rest := []) C0 hZ h (c_X12_within l G Z ad _ h.2 w_216 w_218 w_234) k_X12_within q_1580 q_1579 hl.1 rfl rfl (Nat.le_of_ble_eq_true rfl) dX12_beyond_61 ⟨Nat.le_of_ble_eq_true rfl, Nat.le_of_ble_eq_true rfl⟩ ⟨Nat.le_of_ble_eq_true rfl, Nat.le_of_ble_eq_true rfl⟩) (fun r_239 H locs ws_236 h u_237 p_238 => ?_)
        obtain ⟨e_240, e_241, e_242⟩ := p_238
        refine y_if_eq (tgt := 94) C0 dX12_beyond_64 (by decide) (fun c_243 => ?_) (fun c_243 => ?_)
        · -- 64
          refine y_c1 (n := (-1)) C0 (by decide) dX12_beyond_94 (fun v_244 e_245 => ?_)
          obtain ⟨f_247, e_248⟩ : ∃ v, aI ws_236 1 2 = v := ⟨_, rfl⟩
          have b_249 := ty_aI 2 h.2 kSM_1 rfl (by decide)
          rw [e_248] at b_249
          have g_246 : v_244.toInt = beyF v_3.toInt f_247.toInt a1.toInt a2.toInt := by
            unfold beyF
            rw [if_neg]
            · omega
            · have hd : v_34.toInt = a1.toInt / v_3.toInt := by rw [e_35, (o32_132 l1 u1 (Int.le_trans f_7.1 e_5) (Int.le_trans e_6 f_7.2) e_9 e_11 e_12 e_13 e_21 e_23 (Int.le_trans f_30.1 e_28) (Int.le_trans e_29 f_30.2) q_32 e_33 e_35 e_36 e_37 e_213 e_215 e_217 e_219 (Int.le_trans f_226.1 e_224) (Int.le_trans e_225 f_226.2) q_228 e_229 e_231 e_233 e_235 e_240 e_241 e_242 c_243)]
              intro hq
              obtain ⟨q1, q2, q3, q4⟩ := hq
              (repeat' split at q1) <;> (repeat' split at q3) <;> omega
          rw [hQ]
          exact y_iret C0 h u_237 ⟨(o32_12 e_245), (o32_95 e_245), (by rw [e_8, (Eq.trans (Eq.symm (Fr.aI u_237 kSM_1 (by decide))) e_248)]; exact g_246)⟩ dX12_beyond_95
        · -- 64
          refine lv_iload C0.1 C0.2.1 dX12_beyond_67 (lv_at hl 0 rfl) ?_
          refine y_i2l C0 dX12_beyond_69 (fun w_250 e_251 => ?_)
          refine y_lc (v := 0) C0 (by decide) dX12_beyond_70 (fun w_252 e_253 => ?_)
          refine lv_aload_n C0.1 C0.2.1 dX12_beyond_71 rfl (lv_at hl 2 rfl) ?_
          refine y_c1 (n := 2) C0 (by decide) dX12_beyond_72 (fun v_254 e_255 => ?_)
          refine y_iald C0 h kSM_1 rfl (by decide) (o32_31 e_255) (o32_32 e_255) dX12_beyond_73 (fun v_256 e_257 e_258 e_259 => ?_)
          have f_260 := o32_33 v_254.toInt.toNat (o32_34 e_255) (o32_35 e_255)
          have e_261 : aI ws_236 1 2 = v_256 := (congrArg (aI ws_236 1) (ix_c (c := 2) (o32_36 e_255))).symm.trans e_257
          have e_262 := laid_2 (Laid.pa hLd (Pa.fr u_237 (by decide))) e_261
          refine y_c1 (n := 1) C0 (by decide) dX12_beyond_74 (fun v_263 e_264 => ?_)
          refine y_sub C0 (o32_97 (Int.le_trans f_260.1 e_258) (Int.le_trans e_259 f_260.2) e_262 e_264 (le_min v_256) (le_max v_256) (le_min v_263) (le_max v_263)) (o32_98 (Int.le_trans f_260.1 e_258) (Int.le_trans e_259 f_260.2) e_262 e_264 (le_min v_256) (le_max v_256) (le_min v_263) (le_max v_263)) dX12_beyond_75 (fun v_265 e_266 => ?_)
          refine y_i2l C0 dX12_beyond_76 (fun w_267 e_268 => ?_)
          refine y_ci h (y_rS (As := [.long w_250, .long w_252, .long w_267]) (rest := []) C0 hZ h (c_X12_within l G Z ad _ h.2 w_250 w_252 w_267) k_X12_within q_1580 q_1579 hl.1 rfl rfl (Nat.le_of_ble_eq_true rfl) dX12_beyond_77 ⟨Nat.le_of_ble_eq_true rfl, Nat.le_of_ble_eq_true rfl⟩ ⟨Nat.le_of_ble_eq_true rfl, Nat.le_of_ble_eq_true rfl⟩) (fun r_272 H locs ws_269 h u_270 p_271 => ?_)
          obtain ⟨e_273, e_274, e_275⟩ := p_271
          refine y_if_eq (tgt := 94) C0 dX12_beyond_80 (by decide) (fun c_276 => ?_) (fun c_276 => ?_)
          · -- 80
            refine y_c1 (n := (-1)) C0 (by decide) dX12_beyond_94 (fun v_277 e_278 => ?_)
            have g_279 : v_277.toInt = beyF v_3.toInt v_256.toInt a1.toInt a2.toInt := by
              unfold beyF
              rw [if_neg]
              · omega
              · have hd : v_34.toInt = a1.toInt / v_3.toInt := by rw [e_35, (o32_133 l1 u1 (Int.le_trans f_7.1 e_5) (Int.le_trans e_6 f_7.2) e_9 e_11 e_12 e_13 e_21 e_23 (Int.le_trans f_30.1 e_28) (Int.le_trans e_29 f_30.2) q_32 e_33 e_35 e_36 e_37 e_213 e_215 e_217 e_219 (Int.le_trans f_226.1 e_224) (Int.le_trans e_225 f_226.2) q_228 e_229 e_231 e_233 e_235 e_240 e_241 e_242 c_243 e_251 e_253 (Int.le_trans f_260.1 e_258) (Int.le_trans e_259 f_260.2) e_262 e_264 e_266 e_268 e_273 e_274 e_275 c_276)]
                intro hq
                obtain ⟨q1, q2, q3, q4⟩ := hq
                (repeat' split at q1) <;> (repeat' split at q3) <;> omega
            rw [hQ]
            exact y_iret C0 h (Fr.tr u_237 u_270) ⟨(o32_12 e_278), (o32_95 e_278), (by rw [e_8, (Eq.trans (Eq.symm (Fr.aI u_237 kSM_1 (by decide))) e_261)]; exact g_279)⟩ dX12_beyond_95
          · -- 80
            refine lv_aload_n C0.1 C0.2.1 dX12_beyond_83 rfl (lv_at hl 2 rfl) ?_
            refine y_c1 (n := 1) C0 (by decide) dX12_beyond_84 (fun v_280 e_281 => ?_)
            refine y_iald C0 h kSM_1 rfl (by decide) (o32_5 e_281) (o32_26 e_281) dX12_beyond_85 (fun v_282 e_283 e_284 e_285 => ?_)
            have f_286 := o32_27 v_280.toInt.toNat (o32_28 e_281) (o32_29 e_281)
            have e_287 : aI ws_269 1 1 = v_282 := (congrArg (aI ws_269 1) (ix_c (c := 1) (o32_30 e_281))).symm.trans e_283
            have q_288 : v_282.toInt = v_3.toInt := congrArg Int32.toInt (e_287.symm.trans (Eq.trans (Eq.trans (Fr.aI u_270 kSM_1 (by decide)) (Fr.aI u_237 kSM_1 (by decide))) e_8))
            have e_289 := laid_1 (Laid.pa hLd (Pa.tr (Pa.fr u_237 (by decide)) (Pa.fr u_270 (by decide)))) e_287
            refine lv_iload C0.1 C0.2.1 dX12_beyond_86 (lv_at hl 0 rfl) ?_
            refine y_mulb (la := 1) (ha := 5) (lb := 1) (hb := 4) C0 (by decide) (o32_134 l1 u1 (Int.le_trans f_7.1 e_5) (Int.le_trans e_6 f_7.2) e_9 e_11 e_12 e_13 e_21 e_23 (Int.le_trans f_30.1 e_28) (Int.le_trans e_29 f_30.2) q_32 e_33 e_35 e_36 e_37 e_213 e_215 e_217 e_219 (Int.le_trans f_226.1 e_224) (Int.le_trans e_225 f_226.2) q_228 e_229 e_231 e_233 e_235 e_240 e_241 e_242 c_243 e_251 e_253 (Int.le_trans f_260.1 e_258) (Int.le_trans e_259 f_260.2) e_262 e_264 e_266 e_268 e_273 e_274 e_275 c_276 (Int.le_trans f_286.1 e_284) (Int.le_trans e_285 f_286.2) q_288 e_289) (o32_135 l1 u1 (Int.le_trans f_7.1 e_5) (Int.le_trans e_6 f_7.2) e_9 e_11 e_12 e_13 e_21 e_23 (Int.le_trans f_30.1 e_28) (Int.le_trans e_29 f_30.2) q_32 e_33 e_35 e_36 e_37 e_213 e_215 e_217 e_219 (Int.le_trans f_226.1 e_224) (Int.le_trans e_225 f_226.2) q_228 e_229 e_231 e_233 e_235 e_240 e_241 e_242 c_243 e_251 e_253 (Int.le_trans f_260.1 e_258) (Int.le_trans e_259 f_260.2) e_262 e_264 e_266 e_268 e_273 e_274 e_275 c_276 (Int.le_trans f_286.1 e_284) (Int.le_trans e_285 f_286.2) q_288 e_289) (by decide) (o32_136 l1 u1 (Int.le_trans f_7.1 e_5) (Int.le_trans e_6 f_7.2) e_9 e_11 e_12 e_13 e_21 e_23 (Int.le_trans f_30.1 e_28) (Int.le_trans e_29 f_30.2) q_32 e_33 e_35 e_36 e_37 e_213 e_215 e_217 e_219 (Int.le_trans f_226.1 e_224) (Int.le_trans e_225 f_226.2) q_228 e_229 e_231 e_233 e_235 e_240 e_241 e_242 c_243 e_251 e_253 (Int.le_trans f_260.1 e_258) (Int.le_trans e_259 f_260.2) e_262 e_264 e_266 e_268 e_273 e_274 e_275 c_276 (Int.le_trans f_286.1 e_284) (Int.le_trans e_285 f_286.2) q_288 e_289) (o32_137 l1 u1 (Int.le_trans f_7.1 e_5) (Int.le_trans e_6 f_7.2) e_9 e_11 e_12 e_13 e_21 e_23 (Int.le_trans f_30.1 e_28) (Int.le_trans e_29 f_30.2) q_32 e_33 e_35 e_36 e_37 e_213 e_215 e_217 e_219 (Int.le_trans f_226.1 e_224) (Int.le_trans e_225 f_226.2) q_228 e_229 e_231 e_233 e_235 e_240 e_241 e_242 c_243 e_251 e_253 (Int.le_trans f_260.1 e_258) (Int.le_trans e_259 f_260.2) e_262 e_264 e_266 e_268 e_273 e_274 e_275 c_276 (Int.le_trans f_286.1 e_284) (Int.le_trans e_285 f_286.2) q_288 e_289) (by decide) dX12_beyond_88 (fun v_290 e_291 e_292 e_293 => ?_)
            refine lv_iload_n C0.1 C0.2.1 dX12_beyond_89 rfl (lv_at hl 1 rfl) ?_
            refine y_add C0 (o32_138 l1 u1 (Int.le_trans f_7.1 e_5) (Int.le_trans e_6 f_7.2) e_9 e_11 e_12 e_13 e_21 e_23 (Int.le_trans f_30.1 e_28) (Int.le_trans e_29 f_30.2) q_32 e_33 e_35 e_36 e_37 e_213 e_215 e_217 e_219 (Int.le_trans f_226.1 e_224) (Int.le_trans e_225 f_226.2) q_228 e_229 e_231 e_233 e_235 e_240 e_241 e_242 c_243 e_251 e_253 (Int.le_trans f_260.1 e_258) (Int.le_trans e_259 f_260.2) e_262 e_264 e_266 e_268 e_273 e_274 e_275 c_276 (Int.le_trans f_286.1 e_284) (Int.le_trans e_285 f_286.2) q_288 e_289 e_292 e_293 (le_min v_290) (le_max v_290) (le_min v_22) (le_max v_22) (le_min a1) (le_max a1) (le_min v_3) (le_max v_3) (le_min v_10) (le_max v_10) (le_min v_20) (le_max v_20) (le_min v_26) (le_max v_26) (le_min v_34) (le_max v_34) (le_min v_212) (le_max v_212) (le_min v_214) (le_max v_214) (le_min v_222) (le_max v_222) (le_min v_230) (le_max v_230) (le_min v_232) (le_max v_232) (le_min r_239) (le_max r_239) (le_min v_256) (le_max v_256) (le_min v_263) (le_max v_263) (le_min v_265) (le_max v_265) (le_min r_272) (le_max r_272) (le_min v_282) (le_max v_282)) (o32_139 l1 u1 (Int.le_trans f_7.1 e_5) (Int.le_trans e_6 f_7.2) e_9 e_11 e_12 e_13 e_21 e_23 (Int.le_trans f_30.1 e_28) (Int.le_trans e_29 f_30.2) q_32 e_33 e_35 e_36 e_37 e_213 e_215 e_217 e_219 (Int.le_trans f_226.1 e_224) (Int.le_trans e_225 f_226.2) q_228 e_229 e_231 e_233 e_235 e_240 e_241 e_242 c_243 e_251 e_253 (Int.le_trans f_260.1 e_258) (Int.le_trans e_259 f_260.2) e_262 e_264 e_266 e_268 e_273 e_274 e_275 c_276 (Int.le_trans f_286.1 e_284) (Int.le_trans e_285 f_286.2) q_288 e_289 e_292 e_293 (le_min v_290) (le_max v_290) (le_min v_22) (le_max v_22) (le_min a1) (le_max a1) (le_min v_3) (le_max v_3) (le_min v_10) (le_max v_10) (le_min v_20) (le_max v_20) (le_min v_26) (le_max v_26) (le_min v_34) (le_max v_34) (le_min v_212) (le_max v_212) (le_min v_214) (le_max v_214) (le_min v_222) (le_max v_222) (le_min v_230) (le_max v_230) (le_min v_232) (le_max v_232) (le_min r_239) (le_max r_239) (le_min v_256) (le_max v_256) (le_min v_263) (le_max v_263) (le_min v_265) (le_max v_265) (le_min r_272) (le_max r_272) (le_min v_282) (le_max v_282)) dX12_beyond_90 (fun v_294 e_295 => ?_)
            refine lv_goto (tgt := 95) C0.1 C0.2.1 dX12_beyond_91 (by decide) ?_
            have g_296 : v_294.toInt = beyF v_3.toInt v_256.toInt a1.toInt a2.toInt := by
              unfold beyF
              have hm : v_282.toInt * v_214.toInt = v_3.toInt * v_214.toInt := by rw [(o32_142 l1 u1 (Int.le_trans f_7.1 e_5) (Int.le_trans e_6 f_7.2) e_9 e_11 e_12 e_13 e_21 e_23 (Int.le_trans f_30.1 e_28) (Int.le_trans e_29 f_30.2) q_32 e_33 e_35 e_36 e_37 e_213 e_215 e_217 e_219 (Int.le_trans f_226.1 e_224) (Int.le_trans e_225 f_226.2) q_228 e_229 e_231 e_233 e_235 e_240 e_241 e_242 c_243 e_251 e_253 (Int.le_trans f_260.1 e_258) (Int.le_trans e_259 f_260.2) e_262 e_264 e_266 e_268 e_273 e_274 e_275 c_276 (Int.le_trans f_286.1 e_284) (Int.le_trans e_285 f_286.2) q_288 e_289 e_292 e_293 e_295)]
              have hy : v_214.toInt = a1.toInt / v_3.toInt + (if a2.toInt = 2 then 1 else if a2.toInt = 0 then -1 else 0) := by
                have hd : v_34.toInt = a1.toInt / v_3.toInt := by rw [e_35, (o32_144 l1 u1 (Int.le_trans f_7.1 e_5) (Int.le_trans e_6 f_7.2) e_9 e_11 e_12 e_13 e_21 e_23 (Int.le_trans f_30.1 e_28) (Int.le_trans e_29 f_30.2) q_32 e_33 e_35 e_36 e_37 e_213 e_215 e_217 e_219 (Int.le_trans f_226.1 e_224) (Int.le_trans e_225 f_226.2) q_228 e_229 e_231 e_233 e_235 e_240 e_241 e_242 c_243 e_251 e_253 (Int.le_trans f_260.1 e_258) (Int.le_trans e_259 f_260.2) e_262 e_264 e_266 e_268 e_273 e_274 e_275 c_276 (Int.le_trans f_286.1 e_284) (Int.le_trans e_285 f_286.2) q_288 e_289 e_292 e_293 e_295)]
                (repeat' split) <;> omega
              rw [← hy, if_pos (by refine ⟨?_, ?_, ?_, ?_⟩ <;> (repeat' split) <;> omega)]
              (repeat' split) <;> omega
            rw [hQ]
            exact y_iret C0 h (Fr.tr u_237 u_270) ⟨(o32_140 l1 u1 (Int.le_trans f_7.1 e_5) (Int.le_trans e_6 f_7.2) e_9 e_11 e_12 e_13 e_21 e_23 (Int.le_trans f_30.1 e_28) (Int.le_trans e_29 f_30.2) q_32 e_33 e_35 e_36 e_37 e_213 e_215 e_217 e_219 (Int.le_trans f_226.1 e_224) (Int.le_trans e_225 f_226.2) q_228 e_229 e_231 e_233 e_235 e_240 e_241 e_242 c_243 e_251 e_253 e_266 e_268 e_273 e_274 e_275 c_276 (Int.le_trans f_286.1 e_284) (Int.le_trans e_285 f_286.2) q_288 e_289 e_292 e_293 e_295), (o32_141 l1 u1 (Int.le_trans f_7.1 e_5) (Int.le_trans e_6 f_7.2) e_9 e_11 e_12 e_13 e_21 e_23 (Int.le_trans f_30.1 e_28) (Int.le_trans e_29 f_30.2) q_32 e_33 e_35 e_36 e_37 e_213 e_215 e_217 e_219 (Int.le_trans f_226.1 e_224) (Int.le_trans e_225 f_226.2) q_228 e_229 e_231 e_233 e_235 e_240 e_241 e_242 c_243 e_251 e_253 e_266 e_268 e_273 e_274 e_275 c_276 (Int.le_trans f_286.1 e_284) (Int.le_trans e_285 f_286.2) q_288 e_289 e_292 e_293 e_295), (by rw [e_8, (Eq.trans (Eq.symm (Fr.aI u_237 kSM_1 (by decide))) e_261)]; exact g_296)⟩ dX12_beyond_95
    · -- 16
      refine y_c1 (n := (-1)) C0 (by decide) dX12_beyond_19 (fun v_297 e_298 => ?_)
      refine lv_goto (tgt := 24) C0.1 C0.2.1 dX12_beyond_20 (by decide) ?_
      refine y_add C0 (o32_145 l1 u1 (Int.le_trans f_7.1 e_5) (Int.le_trans e_6 f_7.2) e_9 e_11 e_12 e_13 e_298 (le_min v_10) (le_max v_10) (le_min v_297) (le_max v_297) (le_min a1) (le_max a1) (le_min v_3) (le_max v_3)) (o32_146 l1 u1 (Int.le_trans f_7.1 e_5) (Int.le_trans e_6 f_7.2) e_9 e_11 e_12 e_13 e_298 (le_min v_10) (le_max v_10) (le_min v_297) (le_max v_297) (le_min a1) (le_max a1) (le_min v_3) (le_max v_3)) dX12_beyond_24 (fun v_299 e_300 => ?_)
      refine lv_istore_n (lv' := [(3, .int v_299), (0, .ref (ad 1)), (1, .int a1), (2, .int a2)]) C0.1 C0.2.1 dX12_beyond_25 rfl hl (by decide) rfl (fun ls hl => ?_)
      refine lv_iload_n C0.1 C0.2.1 dX12_beyond_26 rfl (lv_at hl 2 rfl) ?_
      refine lv_aload_n C0.1 C0.2.1 dX12_beyond_27 rfl (lv_at hl 1 rfl) ?_
      refine y_c1 (n := 1) C0 (by decide) dX12_beyond_28 (fun v_301 e_302 => ?_)
      refine y_iald C0 h kSM_1 rfl (by decide) (o32_5 e_302) (o32_26 e_302) dX12_beyond_29 (fun v_303 e_304 e_305 e_306 => ?_)
      have f_307 := o32_27 v_301.toInt.toNat (o32_28 e_302) (o32_29 e_302)
      have e_308 : aI ws0 1 1 = v_303 := (congrArg (aI ws0 1) (ix_c (c := 1) (o32_30 e_302))).symm.trans e_304
      have q_309 : v_303.toInt = v_3.toInt := congrArg Int32.toInt (e_308.symm.trans (Eq.trans rfl e_8))
      have e_310 := laid_1 (Laid.pa hLd Pa.rf) e_308
      refine y_divX C0 (o32_147 l1 u1 (Int.le_trans f_7.1 e_5) (Int.le_trans e_6 f_7.2) e_9 e_11 e_12 e_13 e_298 e_300 (Int.le_trans f_307.1 e_305) (Int.le_trans e_306 f_307.2) q_309 e_310) (o32_148 l1 u1 (Int.le_trans f_7.1 e_5) (Int.le_trans e_6 f_7.2) e_9 e_11 e_12 e_13 e_298 e_300 (Int.le_trans f_307.1 e_305) (Int.le_trans e_306 f_307.2) q_309 e_310) dX12_beyond_30 (fun v_311 e_312 e_313 e_314 => ?_)
      refine lv_iload_n C0.1 C0.2.1 dX12_beyond_31 rfl (lv_at hl 3 rfl) ?_
      refine y_c1 (n := 2) C0 (by decide) dX12_beyond_32 (fun v_315 e_316 => ?_)
      refine y_icmp_ne (tgt := 40) C0 dX12_beyond_33 (by decide) (fun c_317 => ?_) (fun c_317 => ((o32_149 l2 u2 e_15 c_16 e_18 c_19 e_316 c_317)).elim)
      refine lv_iload_n C0.1 C0.2.1 dX12_beyond_40 rfl (lv_at hl 3 rfl) ?_
      refine y_if_ne (tgt := 48) C0 dX12_beyond_41 (by decide) (fun c_318 => ?_) (fun c_318 => ((o32_150 l2 u2 e_15 c_16 e_18 c_19 e_316 c_317 c_318)).elim)
      refine y_c1 (n := 0) C0 (by decide) dX12_beyond_48 (fun v_319 e_320 => ?_)
      refine y_add C0 (o32_151 l1 u1 (Int.le_trans f_7.1 e_5) (Int.le_trans e_6 f_7.2) e_9 e_11 e_12 e_13 e_298 e_300 (Int.le_trans f_307.1 e_305) (Int.le_trans e_306 f_307.2) q_309 e_310 e_312 e_313 e_314 e_320 (le_min v_311) (le_max v_311) (le_min v_319) (le_max v_319) (le_min a1) (le_max a1) (le_min v_3) (le_max v_3) (le_min v_10) (le_max v_10) (le_min v_297) (le_max v_297) (le_min v_299) (le_max v_299) (le_min v_303) (le_max v_303)) (o32_152 l1 u1 (Int.le_trans f_7.1 e_5) (Int.le_trans e_6 f_7.2) e_9 e_11 e_12 e_13 e_298 e_300 (Int.le_trans f_307.1 e_305) (Int.le_trans e_306 f_307.2) q_309 e_310 e_312 e_313 e_314 e_320 (le_min v_311) (le_max v_311) (le_min v_319) (le_max v_319) (le_min a1) (le_max a1) (le_min v_3) (le_max v_3) (le_min v_10) (le_max v_10) (le_min v_297) (le_max v_297) (le_min v_299) (le_max v_299) (le_min v_303) (le_max v_303)) dX12_beyond_49 (fun v_321 e_322 => ?_)
      refine lv_istore (lv' := [(4, .int v_321), (3, .int v_299), (0, .ref (ad 1)), (1, .int a1), (2, .int a2)]) C0.1 C0.2.1 dX12_beyond_50 hl (by decide) rfl (fun ls hl => ?_)
      refine lv_iload_n C0.1 C0.2.1 dX12_beyond_52 rfl (lv_at hl 1 rfl) ?_
      refine y_i2l C0 dX12_beyond_53 (fun w_323 e_324 => ?_)
      refine y_lc (v := 0) C0 (by decide) dX12_beyond_54 (fun w_325 e_326 => ?_)
      refine lv_aload_n C0.1 C0.2.1 dX12_beyond_55 rfl (lv_at hl 2 rfl) ?_
      refine y_c1 (n := 1) C0 (by decide) dX12_beyond_56 (fun v_327 e_328 => ?_)
      refine y_iald C0 h kSM_1 rfl (by decide) (o32_5 e_328) (o32_26 e_328) dX12_beyond_57 (fun v_329 e_330 e_331 e_332 => ?_)
      have f_333 := o32_27 v_327.toInt.toNat (o32_28 e_328) (o32_29 e_328)
      have e_334 : aI ws0 1 1 = v_329 := (congrArg (aI ws0 1) (ix_c (c := 1) (o32_30 e_328))).symm.trans e_330
      have q_335 : v_329.toInt = v_3.toInt := congrArg Int32.toInt (e_334.symm.trans (Eq.trans rfl e_8))
      have e_336 := laid_1 (Laid.pa hLd Pa.rf) e_334
      refine y_c1 (n := 1) C0 (by decide) dX12_beyond_58 (fun v_337 e_338 => ?_)
      refine y_sub C0 (o32_153 l1 u1 (Int.le_trans f_7.1 e_5) (Int.le_trans e_6 f_7.2) e_9 e_11 e_12 e_13 e_298 e_300 (Int.le_trans f_307.1 e_305) (Int.le_trans e_306 f_307.2) q_309 e_310 e_312 e_313 e_314 e_320 e_322 e_324 (Int.le_trans f_333.1 e_331) (Int.le_trans e_332 f_333.2) q_335 e_336 e_338 (le_min v_329) (le_max v_329) (le_min v_337) (le_max v_337) (le_min a1) (le_max a1) (le_min v_3) (le_max v_3) (le_min v_10) (le_max v_10) (le_min v_297) (le_max v_297) (le_min v_299) (le_max v_299) (le_min v_303) (le_max v_303) (le_min v_311) (le_max v_311) (le_min v_319) (le_max v_319) (le_min v_321) (le_max v_321)) (o32_154 l1 u1 (Int.le_trans f_7.1 e_5) (Int.le_trans e_6 f_7.2) e_9 e_11 e_12 e_13 e_298 e_300 (Int.le_trans f_307.1 e_305) (Int.le_trans e_306 f_307.2) q_309 e_310 e_312 e_313 e_314 e_320 e_322 e_324 (Int.le_trans f_333.1 e_331) (Int.le_trans e_332 f_333.2) q_335 e_336 e_338 (le_min v_329) (le_max v_329) (le_min v_337) (le_max v_337) (le_min a1) (le_max a1) (le_min v_3) (le_max v_3) (le_min v_10) (le_max v_10) (le_min v_297) (le_max v_297) (le_min v_299) (le_max v_299) (le_min v_303) (le_max v_303) (le_min v_311) (le_max v_311) (le_min v_319) (le_max v_319) (le_min v_321) (le_max v_321)) dX12_beyond_59 (fun v_339 e_340 => ?_)
      refine y_i2l C0 dX12_beyond_60 (fun w_341 e_342 => ?_)
      refine y_ci h (y_rS (As := [.long w_323, .long w_325, .long w_341]) (rest := []) C0 hZ h (c_X12_within l G Z ad _ h.2 w_323 w_325 w_341) k_X12_within q_1580 q_1579 hl.1 rfl rfl (Nat.le_of_ble_eq_true rfl) dX12_beyond_61 ⟨Nat.le_of_ble_eq_true rfl, Nat.le_of_ble_eq_true rfl⟩ ⟨Nat.le_of_ble_eq_true rfl, Nat.le_of_ble_eq_true rfl⟩) (fun r_346 H locs ws_343 h u_344 p_345 => ?_)
      obtain ⟨e_347, e_348, e_349⟩ := p_345
      refine y_if_eq (tgt := 94) C0 dX12_beyond_64 (by decide) (fun c_350 => ?_) (fun c_350 => ?_)
      · -- 64
        refine y_c1 (n := (-1)) C0 (by decide) dX12_beyond_94 (fun v_351 e_352 => ?_)
        obtain ⟨f_354, e_355⟩ : ∃ v, aI ws_343 1 2 = v := ⟨_, rfl⟩
        have b_356 := ty_aI 2 h.2 kSM_1 rfl (by decide)
        rw [e_355] at b_356
        have g_353 : v_351.toInt = beyF v_3.toInt f_354.toInt a1.toInt a2.toInt := by
          unfold beyF
          rw [if_neg]
          · omega
          · have hd : v_311.toInt = a1.toInt / v_3.toInt := by rw [e_312, (o32_155 l1 u1 (Int.le_trans f_7.1 e_5) (Int.le_trans e_6 f_7.2) e_9 e_11 e_12 e_13 e_298 e_300 (Int.le_trans f_307.1 e_305) (Int.le_trans e_306 f_307.2) q_309 e_310 e_312 e_313 e_314 e_320 e_322 e_324 e_326 (Int.le_trans f_333.1 e_331) (Int.le_trans e_332 f_333.2) q_335 e_336 e_338 e_340 e_342 e_347 e_348 e_349 c_350)]
            intro hq
            obtain ⟨q1, q2, q3, q4⟩ := hq
            (repeat' split at q1) <;> (repeat' split at q3) <;> omega
        rw [hQ]
        exact y_iret C0 h u_344 ⟨(o32_12 e_352), (o32_95 e_352), (by rw [e_8, (Eq.trans (Eq.symm (Fr.aI u_344 kSM_1 (by decide))) e_355)]; exact g_353)⟩ dX12_beyond_95
      · -- 64
        refine lv_iload C0.1 C0.2.1 dX12_beyond_67 (lv_at hl 0 rfl) ?_
        refine y_i2l C0 dX12_beyond_69 (fun w_357 e_358 => ?_)
        refine y_lc (v := 0) C0 (by decide) dX12_beyond_70 (fun w_359 e_360 => ?_)
        refine lv_aload_n C0.1 C0.2.1 dX12_beyond_71 rfl (lv_at hl 2 rfl) ?_
        refine y_c1 (n := 2) C0 (by decide) dX12_beyond_72 (fun v_361 e_362 => ?_)
        refine y_iald C0 h kSM_1 rfl (by decide) (o32_31 e_362) (o32_32 e_362) dX12_beyond_73 (fun v_363 e_364 e_365 e_366 => ?_)
        have f_367 := o32_33 v_361.toInt.toNat (o32_34 e_362) (o32_35 e_362)
        have e_368 : aI ws_343 1 2 = v_363 := (congrArg (aI ws_343 1) (ix_c (c := 2) (o32_36 e_362))).symm.trans e_364
        have e_369 := laid_2 (Laid.pa hLd (Pa.fr u_344 (by decide))) e_368
        refine y_c1 (n := 1) C0 (by decide) dX12_beyond_74 (fun v_370 e_371 => ?_)
        refine y_sub C0 (o32_97 (Int.le_trans f_367.1 e_365) (Int.le_trans e_366 f_367.2) e_369 e_371 (le_min v_363) (le_max v_363) (le_min v_370) (le_max v_370)) (o32_98 (Int.le_trans f_367.1 e_365) (Int.le_trans e_366 f_367.2) e_369 e_371 (le_min v_363) (le_max v_363) (le_min v_370) (le_max v_370)) dX12_beyond_75 (fun v_372 e_373 => ?_)
        refine y_i2l C0 dX12_beyond_76 (fun w_374 e_375 => ?_)
        refine y_ci h (y_rS (As := [.long w_357, .long w_359, .long w_374]) (rest := []) C0 hZ h (c_X12_within l G Z ad _ h.2 w_357 w_359 w_374) k_X12_within q_1580 q_1579 hl.1 rfl rfl (Nat.le_of_ble_eq_true rfl) dX12_beyond_77 ⟨Nat.le_of_ble_eq_true rfl, Nat.le_of_ble_eq_true rfl⟩ ⟨Nat.le_of_ble_eq_true rfl, Nat.le_of_ble_eq_true rfl⟩) (fun r_379 H locs ws_376 h u_377 p_378 => ?_)
        obtain ⟨e_380, e_381, e_382⟩ := p_378
        refine y_if_eq (tgt := 94) C0 dX12_beyond_80 (by decide) (fun c_383 => ?_) (fun c_383 => ?_)
        · -- 80
          refine y_c1 (n := (-1)) C0 (by decide) dX12_beyond_94 (fun v_384 e_385 => ?_)
          have g_386 : v_384.toInt = beyF v_3.toInt v_363.toInt a1.toInt a2.toInt := by
            unfold beyF
            rw [if_neg]
            · omega
            · have hd : v_311.toInt = a1.toInt / v_3.toInt := by rw [e_312, (o32_156 l1 u1 (Int.le_trans f_7.1 e_5) (Int.le_trans e_6 f_7.2) e_9 e_11 e_12 e_13 e_298 e_300 (Int.le_trans f_307.1 e_305) (Int.le_trans e_306 f_307.2) q_309 e_310 e_312 e_313 e_314 e_320 e_322 e_324 e_326 (Int.le_trans f_333.1 e_331) (Int.le_trans e_332 f_333.2) q_335 e_336 e_338 e_340 e_342 e_347 e_348 e_349 c_350 e_358 e_360 (Int.le_trans f_367.1 e_365) (Int.le_trans e_366 f_367.2) e_369 e_371 e_373 e_375 e_380 e_381 e_382 c_383)]
              intro hq
              obtain ⟨q1, q2, q3, q4⟩ := hq
              (repeat' split at q1) <;> (repeat' split at q3) <;> omega
          rw [hQ]
          exact y_iret C0 h (Fr.tr u_344 u_377) ⟨(o32_12 e_385), (o32_95 e_385), (by rw [e_8, (Eq.trans (Eq.symm (Fr.aI u_344 kSM_1 (by decide))) e_368)]; exact g_386)⟩ dX12_beyond_95
        · -- 80
          refine lv_aload_n C0.1 C0.2.1 dX12_beyond_83 rfl (lv_at hl 2 rfl) ?_
          refine y_c1 (n := 1) C0 (by decide) dX12_beyond_84 (fun v_387 e_388 => ?_)
          refine y_iald C0 h kSM_1 rfl (by decide) (o32_5 e_388) (o32_26 e_388) dX12_beyond_85 (fun v_389 e_390 e_391 e_392 => ?_)
          have f_393 := o32_27 v_387.toInt.toNat (o32_28 e_388) (o32_29 e_388)
          have e_394 : aI ws_376 1 1 = v_389 := (congrArg (aI ws_376 1) (ix_c (c := 1) (o32_30 e_388))).symm.trans e_390
          have q_395 : v_389.toInt = v_3.toInt := congrArg Int32.toInt (e_394.symm.trans (Eq.trans (Eq.trans (Fr.aI u_377 kSM_1 (by decide)) (Fr.aI u_344 kSM_1 (by decide))) e_8))
          have e_396 := laid_1 (Laid.pa hLd (Pa.tr (Pa.fr u_344 (by decide)) (Pa.fr u_377 (by decide)))) e_394
          refine lv_iload C0.1 C0.2.1 dX12_beyond_86 (lv_at hl 0 rfl) ?_
          refine y_mulb (la := 1) (ha := 5) (lb := 0) (hb := 4) C0 (by decide) (o32_157 l1 u1 (Int.le_trans f_7.1 e_5) (Int.le_trans e_6 f_7.2) e_9 e_11 e_12 e_13 e_298 e_300 (Int.le_trans f_307.1 e_305) (Int.le_trans e_306 f_307.2) q_309 e_310 e_312 e_313 e_314 e_320 e_322 e_324 e_326 (Int.le_trans f_333.1 e_331) (Int.le_trans e_332 f_333.2) q_335 e_336 e_338 e_340 e_342 e_347 e_348 e_349 c_350 e_358 e_360 (Int.le_trans f_367.1 e_365) (Int.le_trans e_366 f_367.2) e_369 e_371 e_373 e_375 e_380 e_381 e_382 c_383 (Int.le_trans f_393.1 e_391) (Int.le_trans e_392 f_393.2) q_395 e_396) (o32_158 l1 u1 (Int.le_trans f_7.1 e_5) (Int.le_trans e_6 f_7.2) e_9 e_11 e_12 e_13 e_298 e_300 (Int.le_trans f_307.1 e_305) (Int.le_trans e_306 f_307.2) q_309 e_310 e_312 e_313 e_314 e_320 e_322 e_324 e_326 (Int.le_trans f_333.1 e_331) (Int.le_trans e_332 f_333.2) q_335 e_336 e_338 e_340 e_342 e_347 e_348 e_349 c_350 e_358 e_360 (Int.le_trans f_367.1 e_365) (Int.le_trans e_366 f_367.2) e_369 e_371 e_373 e_375 e_380 e_381 e_382 c_383 (Int.le_trans f_393.1 e_391) (Int.le_trans e_392 f_393.2) q_395 e_396) (by decide) (o32_159 l1 u1 (Int.le_trans f_7.1 e_5) (Int.le_trans e_6 f_7.2) e_9 e_11 e_12 e_13 e_298 e_300 (Int.le_trans f_307.1 e_305) (Int.le_trans e_306 f_307.2) q_309 e_310 e_312 e_313 e_314 e_320 e_322 e_324 e_326 (Int.le_trans f_333.1 e_331) (Int.le_trans e_332 f_333.2) q_335 e_336 e_338 e_340 e_342 e_347 e_348 e_349 c_350 e_358 e_360 (Int.le_trans f_367.1 e_365) (Int.le_trans e_366 f_367.2) e_369 e_371 e_373 e_375 e_380 e_381 e_382 c_383 (Int.le_trans f_393.1 e_391) (Int.le_trans e_392 f_393.2) q_395 e_396) (o32_160 l1 u1 (Int.le_trans f_7.1 e_5) (Int.le_trans e_6 f_7.2) e_9 e_11 e_12 e_13 e_298 e_300 (Int.le_trans f_307.1 e_305) (Int.le_trans e_306 f_307.2) q_309 e_310 e_312 e_313 e_314 e_320 e_322 e_324 e_326 (Int.le_trans f_333.1 e_331) (Int.le_trans e_332 f_333.2) q_335 e_336 e_338 e_340 e_342 e_347 e_348 e_349 c_350 e_358 e_360 (Int.le_trans f_367.1 e_365) (Int.le_trans e_366 f_367.2) e_369 e_371 e_373 e_375 e_380 e_381 e_382 c_383 (Int.le_trans f_393.1 e_391) (Int.le_trans e_392 f_393.2) q_395 e_396) (by decide) dX12_beyond_88 (fun v_397 e_398 e_399 e_400 => ?_)
          refine lv_iload_n C0.1 C0.2.1 dX12_beyond_89 rfl (lv_at hl 1 rfl) ?_
          refine y_add C0 (o32_161 l1 u1 (Int.le_trans f_7.1 e_5) (Int.le_trans e_6 f_7.2) e_9 e_11 e_12 e_13 e_298 e_300 (Int.le_trans f_307.1 e_305) (Int.le_trans e_306 f_307.2) q_309 e_310 e_312 e_313 e_314 e_320 e_322 e_324 e_326 (Int.le_trans f_333.1 e_331) (Int.le_trans e_332 f_333.2) q_335 e_336 e_338 e_340 e_342 e_347 e_348 e_349 c_350 e_358 e_360 (Int.le_trans f_367.1 e_365) (Int.le_trans e_366 f_367.2) e_369 e_371 e_373 e_375 e_380 e_381 e_382 c_383 (Int.le_trans f_393.1 e_391) (Int.le_trans e_392 f_393.2) q_395 e_396 e_399 e_400 (le_min v_397) (le_max v_397) (le_min v_299) (le_max v_299) (le_min a1) (le_max a1) (le_min v_3) (le_max v_3) (le_min v_10) (le_max v_10) (le_min v_297) (le_max v_297) (le_min v_303) (le_max v_303) (le_min v_311) (le_max v_311) (le_min v_319) (le_max v_319) (le_min v_321) (le_max v_321) (le_min v_329) (le_max v_329) (le_min v_337) (le_max v_337) (le_min v_339) (le_max v_339) (le_min r_346) (le_max r_346) (le_min v_363) (le_max v_363) (le_min v_370) (le_max v_370) (le_min v_372) (le_max v_372) (le_min r_379) (le_max r_379) (le_min v_389) (le_max v_389)) (o32_162 l1 u1 (Int.le_trans f_7.1 e_5) (Int.le_trans e_6 f_7.2) e_9 e_11 e_12 e_13 e_298 e_300 (Int.le_trans f_307.1 e_305) (Int.le_trans e_306 f_307.2) q_309 e_310 e_312 e_313 e_314 e_320 e_322 e_324 e_326 (Int.le_trans f_333.1 e_331) (Int.le_trans e_332 f_333.2) q_335 e_336 e_338 e_340 e_342 e_347 e_348 e_349 c_350 e_358 e_360 (Int.le_trans f_367.1 e_365) (Int.le_trans e_366 f_367.2) e_369 e_371 e_373 e_375 e_380 e_381 e_382 c_383 (Int.le_trans f_393.1 e_391) (Int.le_trans e_392 f_393.2) q_395 e_396 e_399 e_400 (le_min v_397) (le_max v_397) (le_min v_299) (le_max v_299) (le_min a1) (le_max a1) (le_min v_3) (le_max v_3) (le_min v_10) (le_max v_10) (le_min v_297) (le_max v_297) (le_min v_303) (le_max v_303) (le_min v_311) (le_max v_311) (le_min v_319) (le_max v_319) (le_min v_321) (le_max v_321) (le_min v_329) (le_max v_329) (le_min v_337) (le_max v_337) (le_min v_339) (le_max v_339) (le_min r_346) (le_max r_346) (le_min v_363) (le_max v_363) (le_min v_370) (le_max v_370) (le_min v_372) (le_max v_372) (le_min r_379) (le_max r_379) (le_min v_389) (le_max v_389)) dX12_beyond_90 (fun v_401 e_402 => ?_)
          refine lv_goto (tgt := 95) C0.1 C0.2.1 dX12_beyond_91 (by decide) ?_
          have g_403 : v_401.toInt = beyF v_3.toInt v_363.toInt a1.toInt a2.toInt := by
            unfold beyF
            have hm : v_389.toInt * v_321.toInt = v_3.toInt * v_321.toInt := by rw [(o32_165 l1 u1 (Int.le_trans f_7.1 e_5) (Int.le_trans e_6 f_7.2) e_9 e_11 e_12 e_13 e_298 e_300 (Int.le_trans f_307.1 e_305) (Int.le_trans e_306 f_307.2) q_309 e_310 e_312 e_313 e_314 e_320 e_322 e_324 e_326 (Int.le_trans f_333.1 e_331) (Int.le_trans e_332 f_333.2) q_335 e_336 e_338 e_340 e_342 e_347 e_348 e_349 c_350 e_358 e_360 (Int.le_trans f_367.1 e_365) (Int.le_trans e_366 f_367.2) e_369 e_371 e_373 e_375 e_380 e_381 e_382 c_383 (Int.le_trans f_393.1 e_391) (Int.le_trans e_392 f_393.2) q_395 e_396 e_399 e_400 e_402)]
            have hy : v_321.toInt = a1.toInt / v_3.toInt + (if a2.toInt = 2 then 1 else if a2.toInt = 0 then -1 else 0) := by
              have hd : v_311.toInt = a1.toInt / v_3.toInt := by rw [e_312, (o32_167 l1 u1 (Int.le_trans f_7.1 e_5) (Int.le_trans e_6 f_7.2) e_9 e_11 e_12 e_13 e_298 e_300 (Int.le_trans f_307.1 e_305) (Int.le_trans e_306 f_307.2) q_309 e_310 e_312 e_313 e_314 e_320 e_322 e_324 e_326 (Int.le_trans f_333.1 e_331) (Int.le_trans e_332 f_333.2) q_335 e_336 e_338 e_340 e_342 e_347 e_348 e_349 c_350 e_358 e_360 (Int.le_trans f_367.1 e_365) (Int.le_trans e_366 f_367.2) e_369 e_371 e_373 e_375 e_380 e_381 e_382 c_383 (Int.le_trans f_393.1 e_391) (Int.le_trans e_392 f_393.2) q_395 e_396 e_399 e_400 e_402)]
              (repeat' split) <;> omega
            rw [← hy, if_pos (by refine ⟨?_, ?_, ?_, ?_⟩ <;> (repeat' split) <;> omega)]
            (repeat' split) <;> omega
          rw [hQ]
          exact y_iret C0 h (Fr.tr u_344 u_377) ⟨(o32_163 l1 u1 (Int.le_trans f_7.1 e_5) (Int.le_trans e_6 f_7.2) e_9 e_11 e_12 e_13 e_298 e_300 (Int.le_trans f_307.1 e_305) (Int.le_trans e_306 f_307.2) q_309 e_310 e_312 e_313 e_314 e_320 e_322 e_324 e_326 (Int.le_trans f_333.1 e_331) (Int.le_trans e_332 f_333.2) q_335 e_336 e_338 e_340 e_342 e_347 e_348 e_349 c_350 e_358 e_360 e_373 e_375 e_380 e_381 e_382 c_383 (Int.le_trans f_393.1 e_391) (Int.le_trans e_392 f_393.2) q_395 e_396 e_399 e_400 e_402), (o32_164 l1 u1 (Int.le_trans f_7.1 e_5) (Int.le_trans e_6 f_7.2) e_9 e_11 e_12 e_13 e_298 e_300 (Int.le_trans f_307.1 e_305) (Int.le_trans e_306 f_307.2) q_309 e_310 e_312 e_313 e_314 e_320 e_322 e_324 e_326 (Int.le_trans f_333.1 e_331) (Int.le_trans e_332 f_333.2) q_335 e_336 e_338 e_340 e_342 e_347 e_348 e_349 c_350 e_358 e_360 e_373 e_375 e_380 e_381 e_382 c_383 (Int.le_trans f_393.1 e_391) (Int.le_trans e_392 f_393.2) q_395 e_396 e_399 e_400 e_402), (by rw [e_8, (Eq.trans (Eq.symm (Fr.aI u_344 kSM_1 (by decide))) e_368)]; exact g_403)⟩ dX12_beyond_95
  · -- 7
    refine y_c1 (n := 1) C0 (by decide) dX12_beyond_10 (fun v_404 e_405 => ?_)
    refine lv_goto (tgt := 24) C0.1 C0.2.1 dX12_beyond_11 (by decide) ?_
    refine y_add C0 (o32_168 l1 u1 (Int.le_trans f_7.1 e_5) (Int.le_trans e_6 f_7.2) e_9 e_11 e_12 e_13 e_405 (le_min v_10) (le_max v_10) (le_min v_404) (le_max v_404) (le_min a1) (le_max a1) (le_min v_3) (le_max v_3)) (o32_169 l1 u1 (Int.le_trans f_7.1 e_5) (Int.le_trans e_6 f_7.2) e_9 e_11 e_12 e_13 e_405 (le_min v_10) (le_max v_10) (le_min v_404) (le_max v_404) (le_min a1) (le_max a1) (le_min v_3) (le_max v_3)) dX12_beyond_24 (fun v_406 e_407 => ?_)
    refine lv_istore_n (lv' := [(3, .int v_406), (0, .ref (ad 1)), (1, .int a1), (2, .int a2)]) C0.1 C0.2.1 dX12_beyond_25 rfl hl (by decide) rfl (fun ls hl => ?_)
    refine lv_iload_n C0.1 C0.2.1 dX12_beyond_26 rfl (lv_at hl 2 rfl) ?_
    refine lv_aload_n C0.1 C0.2.1 dX12_beyond_27 rfl (lv_at hl 1 rfl) ?_
    refine y_c1 (n := 1) C0 (by decide) dX12_beyond_28 (fun v_408 e_409 => ?_)
    refine y_iald C0 h kSM_1 rfl (by decide) (o32_5 e_409) (o32_26 e_409) dX12_beyond_29 (fun v_410 e_411 e_412 e_413 => ?_)
    have f_414 := o32_27 v_408.toInt.toNat (o32_28 e_409) (o32_29 e_409)
    have e_415 : aI ws0 1 1 = v_410 := (congrArg (aI ws0 1) (ix_c (c := 1) (o32_30 e_409))).symm.trans e_411
    have q_416 : v_410.toInt = v_3.toInt := congrArg Int32.toInt (e_415.symm.trans (Eq.trans rfl e_8))
    have e_417 := laid_1 (Laid.pa hLd Pa.rf) e_415
    refine y_divX C0 (o32_170 l1 u1 (Int.le_trans f_7.1 e_5) (Int.le_trans e_6 f_7.2) e_9 e_11 e_12 e_13 e_405 e_407 (Int.le_trans f_414.1 e_412) (Int.le_trans e_413 f_414.2) q_416 e_417) (o32_171 l1 u1 (Int.le_trans f_7.1 e_5) (Int.le_trans e_6 f_7.2) e_9 e_11 e_12 e_13 e_405 e_407 (Int.le_trans f_414.1 e_412) (Int.le_trans e_413 f_414.2) q_416 e_417) dX12_beyond_30 (fun v_418 e_419 e_420 e_421 => ?_)
    refine lv_iload_n C0.1 C0.2.1 dX12_beyond_31 rfl (lv_at hl 3 rfl) ?_
    refine y_c1 (n := 2) C0 (by decide) dX12_beyond_32 (fun v_422 e_423 => ?_)
    refine y_icmp_ne (tgt := 40) C0 dX12_beyond_33 (by decide) (fun c_424 => ?_) (fun c_424 => ((o32_172 l2 u2 e_15 c_16 e_423 c_424)).elim)
    refine lv_iload_n C0.1 C0.2.1 dX12_beyond_40 rfl (lv_at hl 3 rfl) ?_
    refine y_if_ne (tgt := 48) C0 dX12_beyond_41 (by decide) (fun c_425 => ?_) (fun c_425 => ((o32_173 l2 u2 e_15 c_16 e_423 c_424 c_425)).elim)
    refine y_c1 (n := 0) C0 (by decide) dX12_beyond_48 (fun v_426 e_427 => ?_)
    refine y_add C0 (o32_174 l1 u1 (Int.le_trans f_7.1 e_5) (Int.le_trans e_6 f_7.2) e_9 e_11 e_12 e_13 e_405 e_407 (Int.le_trans f_414.1 e_412) (Int.le_trans e_413 f_414.2) q_416 e_417 e_419 e_420 e_421 e_427 (le_min v_418) (le_max v_418) (le_min v_426) (le_max v_426) (le_min a1) (le_max a1) (le_min v_3) (le_max v_3) (le_min v_10) (le_max v_10) (le_min v_404) (le_max v_404) (le_min v_406) (le_max v_406) (le_min v_410) (le_max v_410)) (o32_175 l1 u1 (Int.le_trans f_7.1 e_5) (Int.le_trans e_6 f_7.2) e_9 e_11 e_12 e_13 e_405 e_407 (Int.le_trans f_414.1 e_412) (Int.le_trans e_413 f_414.2) q_416 e_417 e_419 e_420 e_421 e_427 (le_min v_418) (le_max v_418) (le_min v_426) (le_max v_426) (le_min a1) (le_max a1) (le_min v_3) (le_max v_3) (le_min v_10) (le_max v_10) (le_min v_404) (le_max v_404) (le_min v_406) (le_max v_406) (le_min v_410) (le_max v_410)) dX12_beyond_49 (fun v_428 e_429 => ?_)
    refine lv_istore (lv' := [(4, .int v_428), (3, .int v_406), (0, .ref (ad 1)), (1, .int a1), (2, .int a2)]) C0.1 C0.2.1 dX12_beyond_50 hl (by decide) rfl (fun ls hl => ?_)
    refine lv_iload_n C0.1 C0.2.1 dX12_beyond_52 rfl (lv_at hl 1 rfl) ?_
    refine y_i2l C0 dX12_beyond_53 (fun w_430 e_431 => ?_)
    refine y_lc (v := 0) C0 (by decide) dX12_beyond_54 (fun w_432 e_433 => ?_)
    refine lv_aload_n C0.1 C0.2.1 dX12_beyond_55 rfl (lv_at hl 2 rfl) ?_
    refine y_c1 (n := 1) C0 (by decide) dX12_beyond_56 (fun v_434 e_435 => ?_)
    refine y_iald C0 h kSM_1 rfl (by decide) (o32_5 e_435) (o32_26 e_435) dX12_beyond_57 (fun v_436 e_437 e_438 e_439 => ?_)
    have f_440 := o32_27 v_434.toInt.toNat (o32_28 e_435) (o32_29 e_435)
    have e_441 : aI ws0 1 1 = v_436 := (congrArg (aI ws0 1) (ix_c (c := 1) (o32_30 e_435))).symm.trans e_437
    have q_442 : v_436.toInt = v_3.toInt := congrArg Int32.toInt (e_441.symm.trans (Eq.trans rfl e_8))
    have e_443 := laid_1 (Laid.pa hLd Pa.rf) e_441
    refine y_c1 (n := 1) C0 (by decide) dX12_beyond_58 (fun v_444 e_445 => ?_)
    refine y_sub C0 (o32_176 l1 u1 (Int.le_trans f_7.1 e_5) (Int.le_trans e_6 f_7.2) e_9 e_11 e_12 e_13 e_405 e_407 (Int.le_trans f_414.1 e_412) (Int.le_trans e_413 f_414.2) q_416 e_417 e_419 e_420 e_421 e_427 e_429 e_431 (Int.le_trans f_440.1 e_438) (Int.le_trans e_439 f_440.2) q_442 e_443 e_445 (le_min v_436) (le_max v_436) (le_min v_444) (le_max v_444) (le_min a1) (le_max a1) (le_min v_3) (le_max v_3) (le_min v_10) (le_max v_10) (le_min v_404) (le_max v_404) (le_min v_406) (le_max v_406) (le_min v_410) (le_max v_410) (le_min v_418) (le_max v_418) (le_min v_426) (le_max v_426) (le_min v_428) (le_max v_428)) (o32_177 l1 u1 (Int.le_trans f_7.1 e_5) (Int.le_trans e_6 f_7.2) e_9 e_11 e_12 e_13 e_405 e_407 (Int.le_trans f_414.1 e_412) (Int.le_trans e_413 f_414.2) q_416 e_417 e_419 e_420 e_421 e_427 e_429 e_431 (Int.le_trans f_440.1 e_438) (Int.le_trans e_439 f_440.2) q_442 e_443 e_445 (le_min v_436) (le_max v_436) (le_min v_444) (le_max v_444) (le_min a1) (le_max a1) (le_min v_3) (le_max v_3) (le_min v_10) (le_max v_10) (le_min v_404) (le_max v_404) (le_min v_406) (le_max v_406) (le_min v_410) (le_max v_410) (le_min v_418) (le_max v_418) (le_min v_426) (le_max v_426) (le_min v_428) (le_max v_428)) dX12_beyond_59 (fun v_446 e_447 => ?_)
    refine y_i2l C0 dX12_beyond_60 (fun w_448 e_449 => ?_)
    refine y_ci h (y_rS (As := [.long w_430, .long w_432, .long w_448]) (rest := []) C0 hZ h (c_X12_within l G Z ad _ h.2 w_430 w_432 w_448) k_X12_within q_1580 q_1579 hl.1 rfl rfl (Nat.le_of_ble_eq_true rfl) dX12_beyond_61 ⟨Nat.le_of_ble_eq_true rfl, Nat.le_of_ble_eq_true rfl⟩ ⟨Nat.le_of_ble_eq_true rfl, Nat.le_of_ble_eq_true rfl⟩) (fun r_453 H locs ws_450 h u_451 p_452 => ?_)
    obtain ⟨e_454, e_455, e_456⟩ := p_452
    refine y_if_eq (tgt := 94) C0 dX12_beyond_64 (by decide) (fun c_457 => ?_) (fun c_457 => ?_)
    · -- 64
      refine y_c1 (n := (-1)) C0 (by decide) dX12_beyond_94 (fun v_458 e_459 => ?_)
      obtain ⟨f_461, e_462⟩ : ∃ v, aI ws_450 1 2 = v := ⟨_, rfl⟩
      have b_463 := ty_aI 2 h.2 kSM_1 rfl (by decide)
      rw [e_462] at b_463
      have g_460 : v_458.toInt = beyF v_3.toInt f_461.toInt a1.toInt a2.toInt := by
        unfold beyF
        rw [if_neg]
        · omega
        · have hd : v_418.toInt = a1.toInt / v_3.toInt := by rw [e_419, (o32_178 l1 u1 (Int.le_trans f_7.1 e_5) (Int.le_trans e_6 f_7.2) e_9 e_11 e_12 e_13 e_405 e_407 (Int.le_trans f_414.1 e_412) (Int.le_trans e_413 f_414.2) q_416 e_417 e_419 e_420 e_421 e_427 e_429 e_431 e_433 (Int.le_trans f_440.1 e_438) (Int.le_trans e_439 f_440.2) q_442 e_443 e_445 e_447 e_449 e_454 e_455 e_456 c_457)]
          intro hq
          obtain ⟨q1, q2, q3, q4⟩ := hq
          (repeat' split at q1) <;> (repeat' split at q3) <;> omega
      rw [hQ]
      exact y_iret C0 h u_451 ⟨(o32_12 e_459), (o32_95 e_459), (by rw [e_8, (Eq.trans (Eq.symm (Fr.aI u_451 kSM_1 (by decide))) e_462)]; exact g_460)⟩ dX12_beyond_95
    · -- 64
      refine lv_iload C0.1 C0.2.1 dX12_beyond_67 (lv_at hl 0 rfl) ?_
      refine y_i2l C0 dX12_beyond_69 (fun w_464 e_465 => ?_)
      refine y_lc (v := 0) C0 (by decide) dX12_beyond_70 (fun w_466 e_467 => ?_)
      refine lv_aload_n C0.1 C0.2.1 dX12_beyond_71 rfl (lv_at hl 2 rfl) ?_
      refine y_c1 (n := 2) C0 (by decide) dX12_beyond_72 (fun v_468 e_469 => ?_)
      refine y_iald C0 h kSM_1 rfl (by decide) (o32_31 e_469) (o32_32 e_469) dX12_beyond_73 (fun v_470 e_471 e_472 e_473 => ?_)
      have f_474 := o32_33 v_468.toInt.toNat (o32_34 e_469) (o32_35 e_469)
      have e_475 : aI ws_450 1 2 = v_470 := (congrArg (aI ws_450 1) (ix_c (c := 2) (o32_36 e_469))).symm.trans e_471
      have e_476 := laid_2 (Laid.pa hLd (Pa.fr u_451 (by decide))) e_475
      refine y_c1 (n := 1) C0 (by decide) dX12_beyond_74 (fun v_477 e_478 => ?_)
      refine y_sub C0 (o32_97 (Int.le_trans f_474.1 e_472) (Int.le_trans e_473 f_474.2) e_476 e_478 (le_min v_470) (le_max v_470) (le_min v_477) (le_max v_477)) (o32_98 (Int.le_trans f_474.1 e_472) (Int.le_trans e_473 f_474.2) e_476 e_478 (le_min v_470) (le_max v_470) (le_min v_477) (le_max v_477)) dX12_beyond_75 (fun v_479 e_480 => ?_)
      refine y_i2l C0 dX12_beyond_76 (fun w_481 e_482 => ?_)
      refine y_ci h (y_rS (As := [.long w_464, .long w_466, .long w_481]) (rest := []) C0 hZ h (c_X12_within l G Z ad _ h.2 w_464 w_466 w_481) k_X12_within q_1580 q_1579 hl.1 rfl rfl (Nat.le_of_ble_eq_true rfl) dX12_beyond_77 ⟨Nat.le_of_ble_eq_true rfl, Nat.le_of_ble_eq_true rfl⟩ ⟨Nat.le_of_ble_eq_true rfl, Nat.le_of_ble_eq_true rfl⟩) (fun r_486 H locs ws_483 h u_484 p_485 => ?_)
      obtain ⟨e_487, e_488, e_489⟩ := p_485
      refine y_if_eq (tgt := 94) C0 dX12_beyond_80 (by decide) (fun c_490 => ?_) (fun c_490 => ?_)
      · -- 80
        refine y_c1 (n := (-1)) C0 (by decide) dX12_beyond_94 (fun v_491 e_492 => ?_)
        have g_493 : v_491.toInt = beyF v_3.toInt v_470.toInt a1.toInt a2.toInt := by
          unfold beyF
          rw [if_neg]
          · omega
          · have hd : v_418.toInt = a1.toInt / v_3.toInt := by rw [e_419, (o32_179 l1 u1 (Int.le_trans f_7.1 e_5) (Int.le_trans e_6 f_7.2) e_9 e_11 e_12 e_13 e_405 e_407 (Int.le_trans f_414.1 e_412) (Int.le_trans e_413 f_414.2) q_416 e_417 e_419 e_420 e_421 e_427 e_429 e_431 e_433 (Int.le_trans f_440.1 e_438) (Int.le_trans e_439 f_440.2) q_442 e_443 e_445 e_447 e_449 e_454 e_455 e_456 c_457 e_465 e_467 (Int.le_trans f_474.1 e_472) (Int.le_trans e_473 f_474.2) e_476 e_478 e_480 e_482 e_487 e_488 e_489 c_490)]
            intro hq
            obtain ⟨q1, q2, q3, q4⟩ := hq
            (repeat' split at q1) <;> (repeat' split at q3) <;> omega
        rw [hQ]
        exact y_iret C0 h (Fr.tr u_451 u_484) ⟨(o32_12 e_492), (o32_95 e_492), (by rw [e_8, (Eq.trans (Eq.symm (Fr.aI u_451 kSM_1 (by decide))) e_475)]; exact g_493)⟩ dX12_beyond_95
      · -- 80
        refine lv_aload_n C0.1 C0.2.1 dX12_beyond_83 rfl (lv_at hl 2 rfl) ?_
        refine y_c1 (n := 1) C0 (by decide) dX12_beyond_84 (fun v_494 e_495 => ?_)
        refine y_iald C0 h kSM_1 rfl (by decide) (o32_5 e_495) (o32_26 e_495) dX12_beyond_85 (fun v_496 e_497 e_498 e_499 => ?_)
        have f_500 := o32_27 v_494.toInt.toNat (o32_28 e_495) (o32_29 e_495)
        have e_501 : aI ws_483 1 1 = v_496 := (congrArg (aI ws_483 1) (ix_c (c := 1) (o32_30 e_495))).symm.trans e_497
        have q_502 : v_496.toInt = v_3.toInt := congrArg Int32.toInt (e_501.symm.trans (Eq.trans (Eq.trans (Fr.aI u_484 kSM_1 (by decide)) (Fr.aI u_451 kSM_1 (by decide))) e_8))
        have e_503 := laid_1 (Laid.pa hLd (Pa.tr (Pa.fr u_451 (by decide)) (Pa.fr u_484 (by decide)))) e_501
        refine lv_iload C0.1 C0.2.1 dX12_beyond_86 (lv_at hl 0 rfl) ?_
        refine y_mulb (la := 1) (ha := 5) (lb := 0) (hb := 4) C0 (by decide) (o32_180 l1 u1 (Int.le_trans f_7.1 e_5) (Int.le_trans e_6 f_7.2) e_9 e_11 e_12 e_13 e_405 e_407 (Int.le_trans f_414.1 e_412) (Int.le_trans e_413 f_414.2) q_416 e_417 e_419 e_420 e_421 e_427 e_429 e_431 e_433 (Int.le_trans f_440.1 e_438) (Int.le_trans e_439 f_440.2) q_442 e_443 e_445 e_447 e_449 e_454 e_455 e_456 c_457 e_465 e_467 (Int.le_trans f_474.1 e_472) (Int.le_trans e_473 f_474.2) e_476 e_478 e_480 e_482 e_487 e_488 e_489 c_490 (Int.le_trans f_500.1 e_498) (Int.le_trans e_499 f_500.2) q_502 e_503) (o32_181 l1 u1 (Int.le_trans f_7.1 e_5) (Int.le_trans e_6 f_7.2) e_9 e_11 e_12 e_13 e_405 e_407 (Int.le_trans f_414.1 e_412) (Int.le_trans e_413 f_414.2) q_416 e_417 e_419 e_420 e_421 e_427 e_429 e_431 e_433 (Int.le_trans f_440.1 e_438) (Int.le_trans e_439 f_440.2) q_442 e_443 e_445 e_447 e_449 e_454 e_455 e_456 c_457 e_465 e_467 (Int.le_trans f_474.1 e_472) (Int.le_trans e_473 f_474.2) e_476 e_478 e_480 e_482 e_487 e_488 e_489 c_490 (Int.le_trans f_500.1 e_498) (Int.le_trans e_499 f_500.2) q_502 e_503) (by decide) (o32_182 l1 u1 (Int.le_trans f_7.1 e_5) (Int.le_trans e_6 f_7.2) e_9 e_11 e_12 e_13 e_405 e_407 (Int.le_trans f_414.1 e_412) (Int.le_trans e_413 f_414.2) q_416 e_417 e_419 e_420 e_421 e_427 e_429 e_431 e_433 (Int.le_trans f_440.1 e_438) (Int.le_trans e_439 f_440.2) q_442 e_443 e_445 e_447 e_449 e_454 e_455 e_456 c_457 e_465 e_467 (Int.le_trans f_474.1 e_472) (Int.le_trans e_473 f_474.2) e_476 e_478 e_480 e_482 e_487 e_488 e_489 c_490 (Int.le_trans f_500.1 e_498) (Int.le_trans e_499 f_500.2) q_502 e_503) (o32_183 l1 u1 (Int.le_trans f_7.1 e_5) (Int.le_trans e_6 f_7.2) e_9 e_11 e_12 e_13 e_405 e_407 (Int.le_trans f_414.1 e_412) (Int.le_trans e_413 f_414.2) q_416 e_417 e_419 e_420 e_421 e_427 e_429 e_431 e_433 (Int.le_trans f_440.1 e_438) (Int.le_trans e_439 f_440.2) q_442 e_443 e_445 e_447 e_449 e_454 e_455 e_456 c_457 e_465 e_467 (Int.le_trans f_474.1 e_472) (Int.le_trans e_473 f_474.2) e_476 e_478 e_480 e_482 e_487 e_488 e_489 c_490 (Int.le_trans f_500.1 e_498) (Int.le_trans e_499 f_500.2) q_502 e_503) (by decide) dX12_beyond_88 (fun v_504 e_505 e_506 e_507 => ?_)
        refine lv_iload_n C0.1 C0.2.1 dX12_beyond_89 rfl (lv_at hl 1 rfl) ?_
        refine y_add C0 (o32_184 l1 u1 (Int.le_trans f_7.1 e_5) (Int.le_trans e_6 f_7.2) e_9 e_11 e_12 e_13 e_405 e_407 (Int.le_trans f_414.1 e_412) (Int.le_trans e_413 f_414.2) q_416 e_417 e_419 e_420 e_421 e_427 e_429 e_431 e_433 (Int.le_trans f_440.1 e_438) (Int.le_trans e_439 f_440.2) q_442 e_443 e_445 e_447 e_449 e_454 e_455 e_456 c_457 e_465 e_467 (Int.le_trans f_474.1 e_472) (Int.le_trans e_473 f_474.2) e_476 e_478 e_480 e_482 e_487 e_488 e_489 c_490 (Int.le_trans f_500.1 e_498) (Int.le_trans e_499 f_500.2) q_502 e_503 e_506 e_507 (le_min v_504) (le_max v_504) (le_min v_406) (le_max v_406) (le_min a1) (le_max a1) (le_min v_3) (le_max v_3) (le_min v_10) (le_max v_10) (le_min v_404) (le_max v_404) (le_min v_410) (le_max v_410) (le_min v_418) (le_max v_418) (le_min v_426) (le_max v_426) (le_min v_428) (le_max v_428) (le_min v_436) (le_max v_436) (le_min v_444) (le_max v_444) (le_min v_446) (le_max v_446) (le_min r_453) (le_max r_453) (le_min v_470) (le_max v_470) (le_min v_477) (le_max v_477) (le_min v_479) (le_max v_479) (le_min r_486) (le_max r_486) (le_min v_496) (le_max v_496)) (o32_185 l1 u1 (Int.le_trans f_7.1 e_5) (Int.le_trans e_6 f_7.2) e_9 e_11 e_12 e_13 e_405 e_407 (Int.le_trans f_414.1 e_412) (Int.le_trans e_413 f_414.2) q_416 e_417 e_419 e_420 e_421 e_427 e_429 e_431 e_433 (Int.le_trans f_440.1 e_438) (Int.le_trans e_439 f_440.2) q_442 e_443 e_445 e_447 e_449 e_454 e_455 e_456 c_457 e_465 e_467 (Int.le_trans f_474.1 e_472) (Int.le_trans e_473 f_474.2) e_476 e_478 e_480 e_482 e_487 e_488 e_489 c_490 (Int.le_trans f_500.1 e_498) (Int.le_trans e_499 f_500.2) q_502 e_503 e_506 e_507 (le_min v_504) (le_max v_504) (le_min v_406) (le_max v_406) (le_min a1) (le_max a1) (le_min v_3) (le_max v_3) (le_min v_10) (le_max v_10) (le_min v_404) (le_max v_404) (le_min v_410) (le_max v_410) (le_min v_418) (le_max v_418) (le_min v_426) (le_max v_426) (le_min v_428) (le_max v_428) (le_min v_436) (le_max v_436) (le_min v_444) (le_max v_444) (le_min v_446) (le_max v_446) (le_min r_453) (le_max r_453) (le_min v_470) (le_max v_470) (le_min v_477) (le_max v_477) (le_min v_479) (le_max v_479) (le_min r_486) (le_max r_486) (le_min v_496) (le_max v_496)) dX12_beyond_90 (fun v_508 e_509 => ?_)
        refine lv_goto (tgt := 95) C0.1 C0.2.1 dX12_beyond_91 (by decide) ?_
        have g_510 : v_508.toInt = beyF v_3.toInt v_470.toInt a1.toInt a2.toInt := by
          unfold beyF
          have hm : v_496.toInt * v_428.toInt = v_3.toInt * v_428.toInt := by rw [(o32_188 l1 u1 (Int.le_trans f_7.1 e_5) (Int.le_trans e_6 f_7.2) e_9 e_11 e_12 e_13 e_405 e_407 (Int.le_trans f_414.1 e_412) (Int.le_trans e_413 f_414.2) q_416 e_417 e_419 e_420 e_421 e_427 e_429 e_431 e_433 (Int.le_trans f_440.1 e_438) (Int.le_trans e_439 f_440.2) q_442 e_443 e_445 e_447 e_449 e_454 e_455 e_456 c_457 e_465 e_467 (Int.le_trans f_474.1 e_472) (Int.le_trans e_473 f_474.2) e_476 e_478 e_480 e_482 e_487 e_488 e_489 c_490 (Int.le_trans f_500.1 e_498) (Int.le_trans e_499 f_500.2) q_502 e_503 e_506 e_507 e_509)]
          have hy : v_428.toInt = a1.toInt / v_3.toInt + (if a2.toInt = 2 then 1 else if a2.toInt = 0 then -1 else 0) := by
            have hd : v_418.toInt = a1.toInt / v_3.toInt := by rw [e_419, (o32_190 l1 u1 (Int.le_trans f_7.1 e_5) (Int.le_trans e_6 f_7.2) e_9 e_11 e_12 e_13 e_405 e_407 (Int.le_trans f_414.1 e_412) (Int.le_trans e_413 f_414.2) q_416 e_417 e_419 e_420 e_421 e_427 e_429 e_431 e_433 (Int.le_trans f_440.1 e_438) (Int.le_trans e_439 f_440.2) q_442 e_443 e_445 e_447 e_449 e_454 e_455 e_456 c_457 e_465 e_467 (Int.le_trans f_474.1 e_472) (Int.le_trans e_473 f_474.2) e_476 e_478 e_480 e_482 e_487 e_488 e_489 c_490 (Int.le_trans f_500.1 e_498) (Int.le_trans e_499 f_500.2) q_502 e_503 e_506 e_507 e_509)]
            (repeat' split) <;> omega
          rw [← hy, if_pos (by refine ⟨?_, ?_, ?_, ?_⟩ <;> (repeat' split) <;> omega)]
          (repeat' split) <;> omega
        rw [hQ]
        exact y_iret C0 h (Fr.tr u_451 u_484) ⟨(o32_186 l1 u1 (Int.le_trans f_7.1 e_5) (Int.le_trans e_6 f_7.2) e_9 e_11 e_12 e_13 e_405 e_407 (Int.le_trans f_414.1 e_412) (Int.le_trans e_413 f_414.2) q_416 e_417 e_419 e_420 e_421 e_427 e_429 e_431 e_433 (Int.le_trans f_440.1 e_438) (Int.le_trans e_439 f_440.2) q_442 e_443 e_445 e_447 e_449 e_454 e_455 e_456 c_457 e_465 e_467 e_480 e_482 e_487 e_488 e_489 c_490 (Int.le_trans f_500.1 e_498) (Int.le_trans e_499 f_500.2) q_502 e_503 e_506 e_507 e_509), (o32_187 l1 u1 (Int.le_trans f_7.1 e_5) (Int.le_trans e_6 f_7.2) e_9 e_11 e_12 e_13 e_405 e_407 (Int.le_trans f_414.1 e_412) (Int.le_trans e_413 f_414.2) q_416 e_417 e_419 e_420 e_421 e_427 e_429 e_431 e_433 (Int.le_trans f_440.1 e_438) (Int.le_trans e_439 f_440.2) q_442 e_443 e_445 e_447 e_449 e_454 e_455 e_456 c_457 e_465 e_467 e_480 e_482 e_487 e_488 e_489 c_490 (Int.le_trans f_500.1 e_498) (Int.le_trans e_499 f_500.2) q_502 e_503 e_506 e_507 e_509), (by rw [e_8, (Eq.trans (Eq.symm (Fr.aI u_451 kSM_1 (by decide))) e_475)]; exact g_510)⟩ dX12_beyond_95
set_option maxHeartbeats 4000000 in
set_option maxRecDepth 100000 in
theorem c_X12_streetFrom (l : Launch) (G : GG) (Z : RZ) (ad : Nat → Nat) (ws0 : va_W) (hT : Ty G (SM tt) ad ws0) (a1 : Int32) (a2 : Int32) (l1 : 0 ≤ a1.toInt) (u1 : a1.toInt ≤ 24) (l2 : 0 ≤ a2.toInt) (u2 : a2.toInt ≤ 3) (hLd : Laid ws0) : Mq l yX12_streetFrom cX12_streetFrom 3 (some .int) 3 G Z [.ref (ad 0), .int a1, .int a2] ws0 (PI G (SM tt) ad [] ws0 (fun r u => ((-1) ≤ r.toInt) ∧ (r.toInt ≤ 24) ∧ (SF ws0 a1.toInt a2.toInt r.toInt))) := by
  refine Mq.start (by decide) (Nat.le_of_ble_eq_true rfl) ?_
  intro p e s m below meth c A ls C0 hZ h hl
  have hl : lv_has ls 3 [(0, .ref (ad 0)), (1, .int a1), (2, .int a2)] := hl
  have h : Wt G (SM tt) ad A s s.heap [] ws0 := ⟨h, hT⟩
  obtain ⟨args, hargs⟩ : ∃ z, z = ([.ref (ad 0), .int a1, .int a2] : List Value).toArray := ⟨_, rfl⟩
  rw [← hargs] at C0 ⊢
  have C0 : Cx p s m args meth c RX12 cX12_streetFrom 3 (some .int) := C0
  obtain ⟨Q, hQ⟩ : ∃ z, z = MQ below ((PI G (SM tt) ad [] ws0 (fun r u => ((-1) ≤ r.toInt) ∧ (r.toInt ≤ 24) ∧ (SF ws0 a1.toInt a2.toInt r.toInt))) A) args s 0 0 A := ⟨_, rfl⟩
  rw [← hQ]
  refine lv_aload_n C0.1 C0.2.1 dX12_streetFrom_0 rfl (lv_at hl 0 rfl) ?_
  refine ng_X12_all C0 h kSM_0 q_1439 dX12_streetFrom_1 ?_
  refine y_c2 (n := 11) C0 (by decide) dX12_streetFrom_4 (fun v_1 e_2 => ?_)
  refine lv_iload_n C0.1 C0.2.1 dX12_streetFrom_6 rfl (lv_at hl 1 rfl) ?_
  refine y_add C0 (o32_191 l1 u1 e_2 (le_min v_1) (le_max v_1) (le_min a1) (le_max a1)) (o32_192 l1 u1 e_2 (le_min v_1) (le_max v_1) (le_min a1) (le_max a1)) dX12_streetFrom_7 (fun v_3 e_4 => ?_)
  refine y_iald C0 h kSM_1 rfl (by decide) (o32_193 l1 u1 e_2 e_4) (o32_194 l1 u1 e_2 e_4) dX12_streetFrom_8 (fun v_5 e_6 e_7 e_8 => ?_)
  refine y_i2l C0 dX12_streetFrom_9 (fun w_9 e_10 => ?_)
  refine lv_iload_n C0.1 C0.2.1 dX12_streetFrom_10 rfl (lv_at hl 2 rfl) ?_
  refine y_ci h (y_rS (As := [.long w_9, .int a2]) (rest := []) C0 hZ h (c_X12_isIn l G Z ad _ h.2 w_9 a2) k_X12_isIn q_1716 q_1715 hl.1 rfl rfl (Nat.le_of_ble_eq_true rfl) dX12_streetFrom_11 ⟨Nat.le_of_ble_eq_true rfl, Nat.le_of_ble_eq_true rfl⟩ ⟨Nat.le_of_ble_eq_true rfl, Nat.le_of_ble_eq_true rfl⟩) (fun r_14 H locs ws_11 h u_12 p_13 => ?_)
  obtain ⟨e_15, e_16, e_17⟩ := p_13
  refine y_if_eq (tgt := 21) C0 dX12_streetFrom_14 (by decide) (fun c_18 => ?_) (fun c_18 => ?_)
  · -- 14
    refine lv_aload_n C0.1 C0.2.1 dX12_streetFrom_21 rfl (lv_at hl 0 rfl) ?_
    refine ng_X12_all C0 h kSM_0 q_1439 dX12_streetFrom_22 ?_
    refine lv_iload_n C0.1 C0.2.1 dX12_streetFrom_25 rfl (lv_at hl 1 rfl) ?_
    refine lv_iload_n C0.1 C0.2.1 dX12_streetFrom_26 rfl (lv_at hl 2 rfl) ?_
    refine y_ci h (y_rS (As := [.ref (ad 1), .int a1, .int a2]) (rest := []) C0 hZ h (c_X12_beyond l G Z ad _ h.2 a1 a2 (o32_195 l1 u1 e_2 e_4) (o32_196 l1 u1 e_2 e_4) (o32_197 l2 u2) (o32_198 l2 u2) (Laid.pa hLd (Pa.fr u_12 (by decide)))) k_X12_beyond q_1633 q_1632 hl.1 rfl rfl (Nat.le_of_ble_eq_true rfl) dX12_streetFrom_27 ⟨Nat.le_of_ble_eq_true rfl, Nat.le_of_ble_eq_true rfl⟩ ⟨Nat.le_of_ble_eq_true rfl, Nat.le_of_ble_eq_true rfl⟩) (fun r_22 H locs ws_19 h u_20 p_21 => ?_)
    obtain ⟨e_23, e_24, e_25⟩ := p_21
    rw [hQ]
    exact y_iret C0 h (Fr.tr u_12 u_20) ⟨(o32_199 e_23 e_24), (o32_200 e_23 e_24), (sf_out (o32_201 l1 u1 e_2 e_4) l2 e_6 e_10 (Or.elim e_17 (fun q => ((o32_202 e_15 e_16 c_18 q.1)).elim) (fun q => q.2)) (bey_cg (Pw.fr u_12 (by decide)) e_25))⟩ dX12_streetFrom_30
  · -- 14
    refine y_c1 (n := (-1)) C0 (by decide) dX12_streetFrom_17 (fun v_26 e_27 => ?_)
    refine lv_goto (tgt := 30) C0.1 C0.2.1 dX12_streetFrom_18 (by decide) ?_
    rw [hQ]
    exact y_iret C0 h u_12 ⟨(o32_12 e_27), (o32_95 e_27), (sf_in (o32_201 l1 u1 e_2 e_4) l2 e_6 e_10 (Or.elim e_17 (fun q => q.2) (fun q => ((o32_203 e_15 e_16 c_18 q.1)).elim)) (o32_204 e_27))⟩ dX12_streetFrom_30
set_option maxHeartbeats 4000000 in
set_option maxRecDepth 100000 in
theorem c_X12_isFreeIn (l : Launch) (G : GG) (Z : RZ) (ad : Nat → Nat) (ws0 : va_W) (hT : Ty G (SM tt) ad ws0) (a1 : Int32) (a2 : Int32) (l1 : 0 ≤ a1.toInt) (u1 : a1.toInt ≤ 24) : Mq l yX12_isFreeIn cX12_isFreeIn 3 (some .boolean) 2 G Z [.ref (ad 0), .int a1, .int a2] ws0 (PI G (SM tt) ad [] ws0 (fun r u => (0 ≤ r.toInt) ∧ (r.toInt ≤ 1) ∧ ((r.toInt = 1 ∧ FB ws0 a1 a2) ∨ (r.toInt = 0 ∧ ¬ FB ws0 a1 a2)))) := by
  refine Mq.start (by decide) (Nat.le_of_ble_eq_true rfl) ?_
  intro p e s m below meth c A ls C0 hZ h hl
  have hl : lv_has ls 3 [(0, .ref (ad 0)), (1, .int a1), (2, .int a2)] := hl
  have h : Wt G (SM tt) ad A s s.heap [] ws0 := ⟨h, hT⟩
  obtain ⟨args, hargs⟩ : ∃ z, z = ([.ref (ad 0), .int a1, .int a2] : List Value).toArray := ⟨_, rfl⟩
  rw [← hargs] at C0 ⊢
  have C0 : Cx p s m args meth c RX12 cX12_isFreeIn 3 (some .boolean) := C0
  obtain ⟨Q, hQ⟩ : ∃ z, z = MQ below ((PI G (SM tt) ad [] ws0 (fun r u => (0 ≤ r.toInt) ∧ (r.toInt ≤ 1) ∧ ((r.toInt = 1 ∧ FB ws0 a1 a2) ∨ (r.toInt = 0 ∧ ¬ FB ws0 a1 a2)))) A) args s 0 0 A := ⟨_, rfl⟩
  rw [← hQ]
  refine lv_aload_n C0.1 C0.2.1 dX12_isFreeIn_0 rfl (lv_at hl 0 rfl) ?_
  refine ng_X12_all C0 h kSM_0 q_1439 dX12_isFreeIn_1 ?_
  refine y_c2 (n := 10) C0 (by decide) dX12_isFreeIn_4 (fun v_1 e_2 => ?_)
  refine y_iald C0 h kSM_1 rfl (by decide) (o32_205 e_2) (o32_206 e_2) dX12_isFreeIn_6 (fun v_3 e_4 e_5 e_6 => ?_)
  have e_7 : aI ws0 1 10 = v_3 := (congrArg (aI ws0 1) (ix_c (c := 10) (o32_207 e_2))).symm.trans e_4
  refine y_i2l C0 dX12_isFreeIn_7 (fun w_8 e_9 => ?_)
  refine lv_iload_n C0.1 C0.2.1 dX12_isFreeIn_8 rfl (lv_at hl 1 rfl) ?_
  refine y_ci h (y_rS (As := [.long w_8, .int a1]) (rest := []) C0 hZ h (c_X12_isIn l G Z ad _ h.2 w_8 a1) k_X12_isIn q_1716 q_1715 hl.1 rfl rfl (Nat.le_of_ble_eq_true rfl) dX12_isFreeIn_9 ⟨Nat.le_of_ble_eq_true rfl, Nat.le_of_ble_eq_true rfl⟩ ⟨Nat.le_of_ble_eq_true rfl, Nat.le_of_ble_eq_true rfl⟩) (fun r_13 H locs ws_10 h u_11 p_12 => ?_)
  obtain ⟨e_14, e_15, e_16⟩ := p_12
  refine y_if_ne (tgt := 36) C0 dX12_isFreeIn_12 (by decide) (fun c_17 => ?_) (fun c_17 => ?_)
  · -- 12
    refine y_c1 (n := 1) C0 (by decide) dX12_isFreeIn_36 (fun v_18 e_19 => ?_)
    refine lv_goto (tgt := 41) C0.1 C0.2.1 dX12_isFreeIn_37 (by decide) ?_
    rw [hQ]
    exact y_zret C0 h (o32_5 e_19) (o32_6 e_19) u_11 ⟨(o32_5 e_19), (o32_6 e_19), (Or.inl ⟨(o32_10 e_19), Or.inl (fb_in e_7 e_9 (Or.elim e_16 (fun q => q.2) (fun q => ((o32_203 e_14 e_15 c_17 q.1)).elim)))⟩)⟩ dX12_isFreeIn_41
  · -- 12
    refine lv_aload_n C0.1 C0.2.1 dX12_isFreeIn_15 rfl (lv_at hl 0 rfl) ?_
    refine ng_X12_all C0 h kSM_0 q_1439 dX12_isFreeIn_16 ?_
    refine y_c2 (n := 111) C0 (by decide) dX12_isFreeIn_19 (fun v_20 e_21 => ?_)
    refine y_iald C0 h kSM_1 rfl (by decide) (o32_208 e_21) (o32_209 e_21) dX12_isFreeIn_21 (fun v_22 e_23 e_24 e_25 => ?_)
    have e_26 : aI ws_10 1 111 = v_22 := (congrArg (aI ws_10 1) (ix_c (c := 111) (o32_210 e_21))).symm.trans e_23
    refine lv_iload_n C0.1 C0.2.1 dX12_isFreeIn_22 rfl (lv_at hl 2 rfl) ?_
    refine y_iaddX C0 dX12_isFreeIn_23 (fun v_28 e_27 => ?_)
    refine lv_aload_n C0.1 C0.2.1 dX12_isFreeIn_24 rfl (lv_at hl 0 rfl) ?_
    refine ng_X12_all C0 h kSM_0 q_1439 dX12_isFreeIn_25 ?_
    refine y_c2 (n := 86) C0 (by decide) dX12_isFreeIn_28 (fun v_29 e_30 => ?_)
    refine lv_iload_n C0.1 C0.2.1 dX12_isFreeIn_30 rfl (lv_at hl 1 rfl) ?_
    refine y_add C0 (o32_211 l1 u1 e_30 (le_min v_29) (le_max v_29) (le_min a1) (le_max a1)) (o32_212 l1 u1 e_30 (le_min v_29) (le_max v_29) (le_min a1) (le_max a1)) dX12_isFreeIn_31 (fun v_31 e_32 => ?_)
    refine y_iald C0 h kSM_1 rfl (by decide) (o32_213 l1 u1 e_30 e_32) (o32_214 l1 u1 e_30 e_32) dX12_isFreeIn_32 (fun v_33 e_34 e_35 e_36 => ?_)
    refine y_icmp_ge (tgt := 40) C0 dX12_isFreeIn_33 (by decide) (fun c_37 => ?_) (fun c_37 => ?_)
    · -- 33
      refine y_c1 (n := 0) C0 (by decide) dX12_isFreeIn_40 (fun v_38 e_39 => ?_)
      rw [hQ]
      exact y_zret C0 h (o32_1 e_39) (o32_2 e_39) u_11 ⟨(o32_1 e_39), (o32_2 e_39), (Or.inr ⟨(o32_8 e_39), fun q => q.elim (fun q => Or.elim e_16 (fun z => ((o32_202 e_14 e_15 c_17 z.1)).elim) (fun z => z.2 (fb_un e_7 e_9 q))) (fun q => ((o32_216 c_37 ((fb_fog (Eq.trans (Eq.symm (Fr.aI u_11 kSM_1 (by decide))) e_26) (o32_215 l1 u1 e_30 e_32) (Eq.trans (Eq.symm (Fr.aI u_11 kSM_1 (by decide))) e_34) e_27).mp q))).elim)⟩)⟩ dX12_isFreeIn_41
    · -- 33
      refine y_c1 (n := 1) C0 (by decide) dX12_isFreeIn_36 (fun v_40 e_41 => ?_)
      refine lv_goto (tgt := 41) C0.1 C0.2.1 dX12_isFreeIn_37 (by decide) ?_
      rw [hQ]
      exact y_zret C0 h (o32_5 e_41) (o32_6 e_41) u_11 ⟨(o32_5 e_41), (o32_6 e_41), (Or.inl ⟨(o32_10 e_41), Or.inr ((fb_fog (Eq.trans (Eq.symm (Fr.aI u_11 kSM_1 (by decide))) e_26) (o32_215 l1 u1 e_30 e_32) (Eq.trans (Eq.symm (Fr.aI u_11 kSM_1 (by decide))) e_34) e_27).mpr (o32_217 c_37))⟩)⟩ dX12_isFreeIn_41
set_option maxHeartbeats 4000000 in
set_option maxRecDepth 100000 in
theorem c_X12_between (l : Launch) (G : GG) (Z : RZ) (ad : Nat → Nat) (ws0 : va_W) (hT : Ty G (SM tt) ad ws0) (a0 : Int32) (a1 : Int32) (a2 : Int32) : Mq l yX12_between cX12_between 5 (some .int) 1 G Z [.int a0, .int a1, .int a2] ws0 (PI G (SM tt) ad [] ws0 (fun r u => True)) := by
  refine Mq.start (by decide) (Nat.le_of_ble_eq_true rfl) ?_
  intro p e s m below meth c A ls C0 hZ h hl
  have hl : lv_has ls 5 [(0, .int a0), (1, .int a1), (2, .int a2)] := hl
  have h : Wt G (SM tt) ad A s s.heap [] ws0 := ⟨h, hT⟩
  obtain ⟨args, hargs⟩ : ∃ z, z = ([.int a0, .int a1, .int a2] : List Value).toArray := ⟨_, rfl⟩
  rw [← hargs] at C0 ⊢
  have C0 : Cx p s m args meth c RX12 cX12_between 5 (some .int) := C0
  obtain ⟨Q, hQ⟩ : ∃ z, z = MQ below ((PI G (SM tt) ad [] ws0 (fun r u => True)) A) args s 0 0 A := ⟨_, rfl⟩
  rw [← hQ]
  refine lv_iload_n C0.1 C0.2.1 dX12_between_0 rfl (lv_at hl 0 rfl) ?_
  refine y_c3 (n := 3002) C0 (by decide) dX12_between_1 (fun v_1 e_2 => ?_)
  refine y_icmp_gt (tgt := 74) C0 dX12_between_4 (by decide) (fun c_3 => ?_) (fun c_3 => ?_)
  · -- 4
    refine lv_iload_n C0.1 C0.2.1 dX12_between_74 rfl (lv_at hl 0 rfl) ?_
    refine y_c3 (n := 3003) C0 (by decide) dX12_between_75 (fun v_4 e_5 => ?_)
    refine y_icmp_ne (tgt := 94) C0 dX12_between_78 (by decide) (fun c_6 => ?_) (fun c_6 => ?_)
    · -- 78
      refine lv_iload_n C0.1 C0.2.1 dX12_between_94 rfl (lv_at hl 0 rfl) ?_
      refine y_c3 (n := 3004) C0 (by decide) dX12_between_95 (fun v_7 e_8 => ?_)
      refine y_icmp_ne (tgt := 114) C0 dX12_between_98 (by decide) (fun c_9 => ?_) (fun c_9 => ?_)
      · -- 98
        refine lv_iload_n C0.1 C0.2.1 dX12_between_114 rfl (lv_at hl 0 rfl) ?_
        refine y_c3 (n := 3005) C0 (by decide) dX12_between_115 (fun v_10 e_11 => ?_)
        refine y_icmp_ne (tgt := 134) C0 dX12_between_118 (by decide) (fun c_12 => ?_) (fun c_12 => ?_)
        · -- 118
          refine lv_iload_n C0.1 C0.2.1 dX12_between_134 rfl (lv_at hl 0 rfl) ?_
          refine y_c3 (n := 3006) C0 (by decide) dX12_between_135 (fun v_13 e_14 => ?_)
          refine y_icmp_ne (tgt := 156) C0 dX12_between_138 (by decide) (fun c_15 => ?_) (fun c_15 => ?_)
          · -- 138
            refine lv_iload_n C0.1 C0.2.1 dX12_between_156 rfl (lv_at hl 1 rfl) ?_
            refine lv_iload_n C0.1 C0.2.1 dX12_between_157 rfl (lv_at hl 2 rfl) ?_
            refine y_iaddU C0 dX12_between_158 (fun v_16 => ?_)
            refine y_if_le (tgt := 166) C0 dX12_between_159 (by decide) (fun c_17 => ?_) (fun c_17 => ?_)
            · -- 159
              refine y_c1 (n := 0) C0 (by decide) dX12_between_166 (fun v_18 e_19 => ?_)
              refine lv_istore_n (lv' := [(3, .int v_18), (0, .int a0), (1, .int a1), (2, .int a2)]) C0.1 C0.2.1 dX12_between_167 rfl hl (by decide) rfl (fun ls hl => ?_)
              refine lv_iload_n C0.1 C0.2.1 dX12_between_168 rfl (lv_at hl 0 rfl) ?_
              refine y_if_eq (tgt := 176) C0 dX12_between_169 (by decide) (fun c_20 => ?_) (fun c_20 => ((o32_218 e_19 c_20)).elim)
              refine y_c1 (n := 0) C0 (by decide) dX12_between_176 (fun v_21 e_22 => ?_)
              rw [hQ]
              exact y_iret C0 h Fr.rf trivial dX12_between_177
            · -- 159
              refine y_c1 (n := 1) C0 (by decide) dX12_between_162 (fun v_23 e_24 => ?_)
              refine lv_goto (tgt := 167) C0.1 C0.2.1 dX12_between_163 (by decide) ?_
              refine lv_istore_n (lv' := [(3, .int v_23), (0, .int a0), (1, .int a1), (2, .int a2)]) C0.1 C0.2.1 dX12_between_167 rfl hl (by decide) rfl (fun ls hl => ?_)
              refine lv_iload_n C0.1 C0.2.1 dX12_between_168 rfl (lv_at hl 0 rfl) ?_
              refine y_if_eq (tgt := 176) C0 dX12_between_169 (by decide) (fun c_25 => ((o32_219 e_24 c_25)).elim) (fun c_25 => ?_)
              refine y_c1 (n := 1) C0 (by decide) dX12_between_172 (fun v_26 e_27 => ?_)
              refine lv_goto (tgt := 177) C0.1 C0.2.1 dX12_between_173 (by decide) ?_
              rw [hQ]
              exact y_iret C0 h Fr.rf trivial dX12_between_177
          · -- 138
            refine lv_iload_n C0.1 C0.2.1 dX12_between_141 rfl (lv_at hl 1 rfl) ?_
            refine lv_iload_n C0.1 C0.2.1 dX12_between_142 rfl (lv_at hl 2 rfl) ?_
            refine y_iaddU C0 dX12_between_143 (fun v_28 => ?_)
            refine y_c1 (n := 2) C0 (by decide) dX12_between_144 (fun v_29 e_30 => ?_)
            refine y_icmp_ne (tgt := 152) C0 dX12_between_145 (by decide) (fun c_31 => ?_) (fun c_31 => ?_)
            · -- 145
              refine y_c1 (n := 0) C0 (by decide) dX12_between_152 (fun v_32 e_33 => ?_)
              refine lv_goto (tgt := 167) C0.1 C0.2.1 dX12_between_153 (by decide) ?_
              refine lv_istore_n (lv' := [(3, .int v_32), (0, .int a0), (1, .int a1), (2, .int a2)]) C0.1 C0.2.1 dX12_between_167 rfl hl (by decide) rfl (fun ls hl => ?_)
              refine lv_iload_n C0.1 C0.2.1 dX12_between_168 rfl (lv_at hl 0 rfl) ?_
              refine y_if_eq (tgt := 176) C0 dX12_between_169 (by decide) (fun c_34 => ?_) (fun c_34 => ((o32_218 e_33 c_34)).elim)
              refine y_c1 (n := 0) C0 (by decide) dX12_between_176 (fun v_35 e_36 => ?_)
              rw [hQ]
              exact y_iret C0 h Fr.rf trivial dX12_between_177
            · -- 145
              refine y_c1 (n := 1) C0 (by decide) dX12_between_148 (fun v_37 e_38 => ?_)
              refine lv_goto (tgt := 167) C0.1 C0.2.1 dX12_between_149 (by decide) ?_
              refine lv_istore_n (lv' := [(3, .int v_37), (0, .int a0), (1, .int a1), (2, .int a2)]) C0.1 C0.2.1 dX12_between_167 rfl hl (by decide) rfl (fun ls hl => ?_)
              refine lv_iload_n C0.1 C0.2.1 dX12_between_168 rfl (lv_at hl 0 rfl) ?_
              refine y_if_eq (tgt := 176) C0 dX12_between_169 (by decide) (fun c_39 => ((o32_219 e_38 c_39)).elim) (fun c_39 => ?_)
              refine y_c1 (n := 1) C0 (by decide) dX12_between_172 (fun v_40 e_41 => ?_)
              refine lv_goto (tgt := 177) C0.1 C0.2.1 dX12_between_173 (by decide) ?_
              rw [hQ]
              exact y_iret C0 h Fr.rf trivial dX12_between_177
        · -- 118
          refine lv_iload_n C0.1 C0.2.1 dX12_between_121 rfl (lv_at hl 1 rfl) ?_
          refine lv_iload_n C0.1 C0.2.1 dX12_between_122 rfl (lv_at hl 2 rfl) ?_
          refine y_icmp_le (tgt := 130) C0 dX12_between_123 (by decide) (fun c_42 => ?_) (fun c_42 => ?_)
          · -- 123
            refine y_c1 (n := 0) C0 (by decide) dX12_between_130 (fun v_43 e_44 => ?_)
            refine lv_goto (tgt := 167) C0.1 C0.2.1 dX12_between_131 (by decide) ?_
            refine lv_istore_n (lv' := [(3, .int v_43), (0, .int a0), (1, .int a1), (2, .int a2)]) C0.1 C0.2.1 dX12_between_167 rfl hl (by decide) rfl (fun ls hl => ?_)
            refine lv_iload_n C0.1 C0.2.1 dX12_between_168 rfl (lv_at hl 0 rfl) ?_
            refine y_if_eq (tgt := 176) C0 dX12_between_169 (by decide) (fun c_45 => ?_) (fun c_45 => ((o32_218 e_44 c_45)).elim)
            refine y_c1 (n := 0) C0 (by decide) dX12_between_176 (fun v_46 e_47 => ?_)
            rw [hQ]
            exact y_iret C0 h Fr.rf trivial dX12_between_177
          · -- 123
            refine y_c1 (n := 1) C0 (by decide) dX12_between_126 (fun v_48 e_49 => ?_)
            refine lv_goto (tgt := 167) C0.1 C0.2.1 dX12_between_127 (by decide) ?_
            refine lv_istore_n (lv' := [(3, .int v_48), (0, .int a0), (1, .int a1), (2, .int a2)]) C0.1 C0.2.1 dX12_between_167 rfl hl (by decide) rfl (fun ls hl => ?_)
            refine lv_iload_n C0.1 C0.2.1 dX12_between_168 rfl (lv_at hl 0 rfl) ?_
            refine y_if_eq (tgt := 176) C0 dX12_between_169 (by decide) (fun c_50 => ((o32_219 e_49 c_50)).elim) (fun c_50 => ?_)
            refine y_c1 (n := 1) C0 (by decide) dX12_between_172 (fun v_51 e_52 => ?_)
            refine lv_goto (tgt := 177) C0.1 C0.2.1 dX12_between_173 (by decide) ?_
            rw [hQ]
            exact y_iret C0 h Fr.rf trivial dX12_between_177
      · -- 98
        refine lv_iload_n C0.1 C0.2.1 dX12_between_101 rfl (lv_at hl 1 rfl) ?_
        refine lv_iload_n C0.1 C0.2.1 dX12_between_102 rfl (lv_at hl 2 rfl) ?_
        refine y_icmp_ge (tgt := 110) C0 dX12_between_103 (by decide) (fun c_53 => ?_) (fun c_53 => ?_)
        · -- 103
          refine y_c1 (n := 0) C0 (by decide) dX12_between_110 (fun v_54 e_55 => ?_)
          refine lv_goto (tgt := 167) C0.1 C0.2.1 dX12_between_111 (by decide) ?_
          refine lv_istore_n (lv' := [(3, .int v_54), (0, .int a0), (1, .int a1), (2, .int a2)]) C0.1 C0.2.1 dX12_between_167 rfl hl (by decide) rfl (fun ls hl => ?_)
          refine lv_iload_n C0.1 C0.2.1 dX12_between_168 rfl (lv_at hl 0 rfl) ?_
          refine y_if_eq (tgt := 176) C0 dX12_between_169 (by decide) (fun c_56 => ?_) (fun c_56 => ((o32_218 e_55 c_56)).elim)
          refine y_c1 (n := 0) C0 (by decide) dX12_between_176 (fun v_57 e_58 => ?_)
          rw [hQ]
          exact y_iret C0 h Fr.rf trivial dX12_between_177
        · -- 103
          refine y_c1 (n := 1) C0 (by decide) dX12_between_106 (fun v_59 e_60 => ?_)
          refine lv_goto (tgt := 167) C0.1 C0.2.1 dX12_between_107 (by decide) ?_
          refine lv_istore_n (lv' := [(3, .int v_59), (0, .int a0), (1, .int a1), (2, .int a2)]) C0.1 C0.2.1 dX12_between_167 rfl hl (by decide) rfl (fun ls hl => ?_)
          refine lv_iload_n C0.1 C0.2.1 dX12_between_168 rfl (lv_at hl 0 rfl) ?_
          refine y_if_eq (tgt := 176) C0 dX12_between_169 (by decide) (fun c_61 => ((o32_219 e_60 c_61)).elim) (fun c_61 => ?_)
          refine y_c1 (n := 1) C0 (by decide) dX12_between_172 (fun v_62 e_63 => ?_)
          refine lv_goto (tgt := 177) C0.1 C0.2.1 dX12_between_173 (by decide) ?_
          rw [hQ]
          exact y_iret C0 h Fr.rf trivial dX12_between_177
    · -- 78
      refine lv_iload_n C0.1 C0.2.1 dX12_between_81 rfl (lv_at hl 1 rfl) ?_
      refine lv_iload_n C0.1 C0.2.1 dX12_between_82 rfl (lv_at hl 2 rfl) ?_
      refine y_icmp_ne (tgt := 90) C0 dX12_between_83 (by decide) (fun c_64 => ?_) (fun c_64 => ?_)
      · -- 83
        refine y_c1 (n := 0) C0 (by decide) dX12_between_90 (fun v_65 e_66 => ?_)
        refine lv_goto (tgt := 167) C0.1 C0.2.1 dX12_between_91 (by decide) ?_
        refine lv_istore_n (lv' := [(3, .int v_65), (0, .int a0), (1, .int a1), (2, .int a2)]) C0.1 C0.2.1 dX12_between_167 rfl hl (by decide) rfl (fun ls hl => ?_)
        refine lv_iload_n C0.1 C0.2.1 dX12_between_168 rfl (lv_at hl 0 rfl) ?_
        refine y_if_eq (tgt := 176) C0 dX12_between_169 (by decide) (fun c_67 => ?_) (fun c_67 => ((o32_218 e_66 c_67)).elim)
        refine y_c1 (n := 0) C0 (by decide) dX12_between_176 (fun v_68 e_69 => ?_)
        rw [hQ]
        exact y_iret C0 h Fr.rf trivial dX12_between_177
      · -- 83
        refine y_c1 (n := 1) C0 (by decide) dX12_between_86 (fun v_70 e_71 => ?_)
        refine lv_goto (tgt := 167) C0.1 C0.2.1 dX12_between_87 (by decide) ?_
        refine lv_istore_n (lv' := [(3, .int v_70), (0, .int a0), (1, .int a1), (2, .int a2)]) C0.1 C0.2.1 dX12_between_167 rfl hl (by decide) rfl (fun ls hl => ?_)
        refine lv_iload_n C0.1 C0.2.1 dX12_between_168 rfl (lv_at hl 0 rfl) ?_
        refine y_if_eq (tgt := 176) C0 dX12_between_169 (by decide) (fun c_72 => ((o32_219 e_71 c_72)).elim) (fun c_72 => ?_)
        refine y_c1 (n := 1) C0 (by decide) dX12_between_172 (fun v_73 e_74 => ?_)
        refine lv_goto (tgt := 177) C0.1 C0.2.1 dX12_between_173 (by decide) ?_
        rw [hQ]
        exact y_iret C0 h Fr.rf trivial dX12_between_177
  · -- 4
    refine lv_iload_n C0.1 C0.2.1 dX12_between_7 rfl (lv_at hl 0 rfl) ?_
    refine y_c3 (n := 3000) C0 (by decide) dX12_between_8 (fun v_75 e_76 => ?_)
    refine y_icmp_ne (tgt := 22) C0 dX12_between_11 (by decide) (fun c_77 => ?_) (fun c_77 => ?_)
    · -- 11
      refine lv_iload_n C0.1 C0.2.1 dX12_between_22 rfl (lv_at hl 0 rfl) ?_
      refine y_c3 (n := 3001) C0 (by decide) dX12_between_23 (fun v_78 e_79 => ?_)
      refine y_icmp_ne (tgt := 37) C0 dX12_between_26 (by decide) (fun c_80 => ?_) (fun c_80 => ?_)
      · -- 26
        refine lv_iload_n C0.1 C0.2.1 dX12_between_37 rfl (lv_at hl 1 rfl) ?_
        refine y_i2l C0 dX12_between_38 (fun w_81 e_82 => ?_)
        refine lv_iload_n C0.1 C0.2.1 dX12_between_39 rfl (lv_at hl 2 rfl) ?_
        refine y_i2l C0 dX12_between_40 (fun w_83 e_84 => ?_)
        refine y_lmulU C0 dX12_between_41 (fun w_85 => ?_)
        refine lv_lstore_n (lv' := [(3, .long w_85), (0, .int a0), (1, .int a1), (2, .int a2)]) C0.1 C0.2.1 dX12_between_42 rfl hl (by decide) rfl (fun ls hl => ?_)
        refine lv_lload_n C0.1 C0.2.1 dX12_between_43 rfl (lv_at hl 0 rfl) ?_
        refine y_lc2 (n := 1000000) C0 q_1737 (by decide) dX12_between_44 (fun w_86 e_87 => ?_)
        refine y_lcmp C0 dX12_between_47 (fun v_88 e_89 => ?_)
        refine y_if_le (tgt := 57) C0 dX12_between_48 (by decide) (fun c_90 => ?_) (fun c_90 => ?_)
        · -- 48
          refine lv_lload_n C0.1 C0.2.1 dX12_between_57 rfl (lv_at hl 0 rfl) ?_
          refine y_lc2 (n := (-1000000)) C0 q_1738 (by decide) dX12_between_58 (fun w_91 e_92 => ?_)
          refine y_lcmp C0 dX12_between_61 (fun v_93 e_94 => ?_)
          refine y_if_ge (tgt := 71) C0 dX12_between_62 (by decide) (fun c_95 => ?_) (fun c_95 => ?_)
          · -- 62
            refine lv_lload_n C0.1 C0.2.1 dX12_between_71 rfl (lv_at hl 0 rfl) ?_
            refine y_l2iU C0 dX12_between_72 (fun v_96 => ?_)
            rw [hQ]
            exact y_iret C0 h Fr.rf trivial dX12_between_73
          · -- 62
            refine y_lc2 (n := (-1000000)) C0 q_1738 (by decide) dX12_between_65 (fun w_97 e_98 => ?_)
            refine lv_goto (tgt := 72) C0.1 C0.2.1 dX12_between_68 (by decide) ?_
            refine y_l2i C0 (o32_220 e_98) (o32_221 e_98) dX12_between_72 (fun v_99 e_100 => ?_)
            rw [hQ]
            exact y_iret C0 h Fr.rf trivial dX12_between_73
        · -- 48
          refine y_lc2 (n := 1000000) C0 q_1737 (by decide) dX12_between_51 (fun w_101 e_102 => ?_)
          refine lv_goto (tgt := 72) C0.1 C0.2.1 dX12_between_54 (by decide) ?_
          refine y_l2i C0 (o32_222 e_102) (o32_223 e_102) dX12_between_72 (fun v_103 e_104 => ?_)
          rw [hQ]
          exact y_iret C0 h Fr.rf trivial dX12_between_73
      · -- 26
        refine lv_iload_n C0.1 C0.2.1 dX12_between_29 rfl (lv_at hl 1 rfl) ?_
        refine y_i2l C0 dX12_between_30 (fun w_105 e_106 => ?_)
        refine lv_iload_n C0.1 C0.2.1 dX12_between_31 rfl (lv_at hl 2 rfl) ?_
        refine y_i2l C0 dX12_between_32 (fun w_107 e_108 => ?_)
        refine y_lsubU C0 dX12_between_33 (fun w_109 => ?_)
        refine lv_goto (tgt := 42) C0.1 C0.2.1 dX12_between_34 (by decide) ?_
        refine lv_lstore_n (lv' := [(3, .long w_109), (0, .int a0), (1, .int a1), (2, .int a2)]) C0.1 C0.2.1 dX12_between_42 rfl hl (by decide) rfl (fun ls hl => ?_)
        refine lv_lload_n C0.1 C0.2.1 dX12_between_43 rfl (lv_at hl 0 rfl) ?_
        refine y_lc2 (n := 1000000) C0 q_1737 (by decide) dX12_between_44 (fun w_110 e_111 => ?_)
        refine y_lcmp C0 dX12_between_47 (fun v_112 e_113 => ?_)
        refine y_if_le (tgt := 57) C0 dX12_between_48 (by decide) (fun c_114 => ?_) (fun c_114 => ?_)
        · -- 48
          refine lv_lload_n C0.1 C0.2.1 dX12_between_57 rfl (lv_at hl 0 rfl) ?_
          refine y_lc2 (n := (-1000000)) C0 q_1738 (by decide) dX12_between_58 (fun w_115 e_116 => ?_)
          refine y_lcmp C0 dX12_between_61 (fun v_117 e_118 => ?_)
          refine y_if_ge (tgt := 71) C0 dX12_between_62 (by decide) (fun c_119 => ?_) (fun c_119 => ?_)
          · -- 62
            refine lv_lload_n C0.1 C0.2.1 dX12_between_71 rfl (lv_at hl 0 rfl) ?_
            refine y_l2iU C0 dX12_between_72 (fun v_120 => ?_)
            rw [hQ]
            exact y_iret C0 h Fr.rf trivial dX12_between_73
          · -- 62
            refine y_lc2 (n := (-1000000)) C0 q_1738 (by decide) dX12_between_65 (fun w_121 e_122 => ?_)
            refine lv_goto (tgt := 72) C0.1 C0.2.1 dX12_between_68 (by decide) ?_
            refine y_l2i C0 (o32_220 e_122) (o32_221 e_122) dX12_between_72 (fun v_123 e_124 => ?_)
            rw [hQ]
            exact y_iret C0 h Fr.rf trivial dX12_between_73
        · -- 48
          refine y_lc2 (n := 1000000) C0 q_1737 (by decide) dX12_between_51 (fun w_125 e_126 => ?_)
          refine lv_goto (tgt := 72) C0.1 C0.2.1 dX12_between_54 (by decide) ?_
          refine y_l2i C0 (o32_222 e_126) (o32_223 e_126) dX12_between_72 (fun v_127 e_128 => ?_)
          rw [hQ]
          exact y_iret C0 h Fr.rf trivial dX12_between_73
    · -- 11
      refine lv_iload_n C0.1 C0.2.1 dX12_between_14 rfl (lv_at hl 1 rfl) ?_
      refine y_i2l C0 dX12_between_15 (fun w_129 e_130 => ?_)
      refine lv_iload_n C0.1 C0.2.1 dX12_between_16 rfl (lv_at hl 2 rfl) ?_
      refine y_i2l C0 dX12_between_17 (fun w_131 e_132 => ?_)
      refine y_laddU C0 dX12_between_18 (fun w_133 => ?_)
      refine lv_goto (tgt := 42) C0.1 C0.2.1 dX12_between_19 (by decide) ?_
      refine lv_lstore_n (lv' := [(3, .long w_133), (0, .int a0), (1, .int a1), (2, .int a2)]) C0.1 C0.2.1 dX12_between_42 rfl hl (by decide) rfl (fun ls hl => ?_)
      refine lv_lload_n C0.1 C0.2.1 dX12_between_43 rfl (lv_at hl 0 rfl) ?_
      refine y_lc2 (n := 1000000) C0 q_1737 (by decide) dX12_between_44 (fun w_134 e_135 => ?_)
      refine y_lcmp C0 dX12_between_47 (fun v_136 e_137 => ?_)
      refine y_if_le (tgt := 57) C0 dX12_between_48 (by decide) (fun c_138 => ?_) (fun c_138 => ?_)
      · -- 48
        refine lv_lload_n C0.1 C0.2.1 dX12_between_57 rfl (lv_at hl 0 rfl) ?_
        refine y_lc2 (n := (-1000000)) C0 q_1738 (by decide) dX12_between_58 (fun w_139 e_140 => ?_)
        refine y_lcmp C0 dX12_between_61 (fun v_141 e_142 => ?_)
        refine y_if_ge (tgt := 71) C0 dX12_between_62 (by decide) (fun c_143 => ?_) (fun c_143 => ?_)
        · -- 62
          refine lv_lload_n C0.1 C0.2.1 dX12_between_71 rfl (lv_at hl 0 rfl) ?_
          refine y_l2iU C0 dX12_between_72 (fun v_144 => ?_)
          rw [hQ]
          exact y_iret C0 h Fr.rf trivial dX12_between_73
        · -- 62
          refine y_lc2 (n := (-1000000)) C0 q_1738 (by decide) dX12_between_65 (fun w_145 e_146 => ?_)
          refine lv_goto (tgt := 72) C0.1 C0.2.1 dX12_between_68 (by decide) ?_
          refine y_l2i C0 (o32_220 e_146) (o32_221 e_146) dX12_between_72 (fun v_147 e_148 => ?_)
          rw [hQ]
          exact y_iret C0 h Fr.rf trivial dX12_between_73
      · -- 48
        refine y_lc2 (n := 1000000) C0 q_1737 (by decide) dX12_between_51 (fun w_149 e_150 => ?_)
        refine lv_goto (tgt := 72) C0.1 C0.2.1 dX12_between_54 (by decide) ?_
        refine y_l2i C0 (o32_222 e_150) (o32_223 e_150) dX12_between_72 (fun v_151 e_152 => ?_)
        rw [hQ]
        exact y_iret C0 h Fr.rf trivial dX12_between_73
set_option maxHeartbeats 4000000 in
set_option maxRecDepth 100000 in
theorem c_X12_wordOf (l : Launch) (G : GG) (Z : RZ) (ad : Nat → Nat) (ws0 : va_W) (hT : Ty G (SM tt) ad ws0) (a1 : Int32) (a2 : Int32) (a3 : Int32) (a4 : Int32) (l2 : 0 ≤ a2.toInt) (u2 : a2.toInt ≤ 24) (hLd : Laid ws0) : Mq l yX12_wordOf cX12_wordOf 6 (some .int) 1 G Z [.ref (ad 0), .int a1, .int a2, .int a3, .int a4] ws0 (PI G (SM tt) ad [] ws0 (fun r u => True)) := by
  refine Mq.start (by decide) (Nat.le_of_ble_eq_true rfl) ?_
  intro p e s m below meth c A ls C0 hZ h hl
  have hl : lv_has ls 6 [(0, .ref (ad 0)), (1, .int a1), (2, .int a2), (3, .int a3), (4, .int a4)] := hl
  have h : Wt G (SM tt) ad A s s.heap [] ws0 := ⟨h, hT⟩
  obtain ⟨args, hargs⟩ : ∃ z, z = ([.ref (ad 0), .int a1, .int a2, .int a3, .int a4] : List Value).toArray := ⟨_, rfl⟩
  rw [← hargs] at C0 ⊢
  have C0 : Cx p s m args meth c RX12 cX12_wordOf 6 (some .int) := C0
  obtain ⟨Q, hQ⟩ : ∃ z, z = MQ below ((PI G (SM tt) ad [] ws0 (fun r u => True)) A) args s 0 0 A := ⟨_, rfl⟩
  rw [← hQ]
  refine lv_aload_n C0.1 C0.2.1 dX12_wordOf_0 rfl (lv_at hl 0 rfl) ?_
  refine ng_X12_all C0 h kSM_0 q_1439 dX12_wordOf_1 ?_
  refine y_c2 (n := 111) C0 (by decide) dX12_wordOf_4 (fun v_1 e_2 => ?_)
  refine y_iald C0 h kSM_1 rfl (by decide) (o32_208 e_2) (o32_209 e_2) dX12_wordOf_6 (fun v_3 e_4 e_5 e_6 => ?_)
  have e_7 : aI ws0 1 111 = v_3 := (congrArg (aI ws0 1) (ix_c (c := 111) (o32_210 e_2))).symm.trans e_4
  refine lv_iload_n C0.1 C0.2.1 dX12_wordOf_7 rfl (lv_at hl 3 rfl) ?_
  refine y_iaddU C0 dX12_wordOf_8 (fun v_8 => ?_)
  refine lv_istore (lv' := [(5, .int v_8), (0, .ref (ad 0)), (1, .int a1), (2, .int a2), (3, .int a3), (4, .int a4)]) C0.1 C0.2.1 dX12_wordOf_9 hl (by decide) rfl (fun ls hl => ?_)
  refine lv_iload_n C0.1 C0.2.1 dX12_wordOf_11 rfl (lv_at hl 2 rfl) ?_
  by_cases sw_9 : a1.toInt < 0 ∨ 4 < a1.toInt
  · refine lv_tableOut (tgt := 88) C0.1 C0.2.1 dX12_wordOf_12 sw_9 (by decide) ?_
    refine lv_iload C0.1 C0.2.1 dX12_wordOf_88 (lv_at hl 5 rfl) ?_
    rw [hQ]
    exact y_iret C0 h Fr.rf trivial dX12_wordOf_90
  · obtain ⟨sw_91, sw_92⟩ := not_or.mp sw_9
    rcases (show a1.toInt = 0 ∨ a1.toInt = 1 ∨ a1.toInt = 2 ∨ a1.toInt = 3 ∨ a1.toInt = 4 by omega) with sw_94 | sw_94 | sw_94 | sw_94 | sw_94
    · refine lv_tableIn (off := 36) (tgt := 48) C0.1 C0.2.1 dX12_wordOf_12 sw_91 sw_92 (by rw [sw_94]; rfl) (by decide) ?_
      refine lv_iload_n C0.1 C0.2.1 dX12_wordOf_48 rfl (lv_at hl 3 rfl) ?_
      refine lv_aload_n C0.1 C0.2.1 dX12_wordOf_49 rfl (lv_at hl 1 rfl) ?_
      refine ng_X12_all C0 h kSM_0 q_1439 dX12_wordOf_50 ?_
      refine y_c1 (n := 1) C0 (by decide) dX12_wordOf_53 (fun v_10 e_11 => ?_)
      refine y_iald C0 h kSM_1 rfl (by decide) (o32_5 e_11) (o32_26 e_11) dX12_wordOf_54 (fun v_12 e_13 e_14 e_15 => ?_)
      have f_16 := o32_27 v_10.toInt.toNat (o32_28 e_11) (o32_29 e_11)
      have e_17 : aI ws0 1 1 = v_12 := (congrArg (aI ws0 1) (ix_c (c := 1) (o32_30 e_11))).symm.trans e_13
      have e_18 := laid_1 (Laid.pa hLd Pa.rf) e_17
      refine y_rem C0 (o32_85 (Int.le_trans f_16.1 e_14) (Int.le_trans e_15 f_16.2) e_18) (o32_86 l2 u2) dX12_wordOf_55 (fun v_19 e_20 e_21 => ?_)
      rw [hQ]
      exact y_iret C0 h Fr.rf trivial dX12_wordOf_56
    · refine lv_tableIn (off := 45) (tgt := 57) C0.1 C0.2.1 dX12_wordOf_12 sw_91 sw_92 (by rw [sw_94]; rfl) (by decide) ?_
      refine lv_iload_n C0.1 C0.2.1 dX12_wordOf_57 rfl (lv_at hl 3 rfl) ?_
      refine lv_aload_n C0.1 C0.2.1 dX12_wordOf_58 rfl (lv_at hl 1 rfl) ?_
      refine ng_X12_all C0 h kSM_0 q_1439 dX12_wordOf_59 ?_
      refine y_c1 (n := 1) C0 (by decide) dX12_wordOf_62 (fun v_22 e_23 => ?_)
      refine y_iald C0 h kSM_1 rfl (by decide) (o32_5 e_23) (o32_26 e_23) dX12_wordOf_63 (fun v_24 e_25 e_26 e_27 => ?_)
      have f_28 := o32_27 v_22.toInt.toNat (o32_28 e_23) (o32_29 e_23)
      have e_29 : aI ws0 1 1 = v_24 := (congrArg (aI ws0 1) (ix_c (c := 1) (o32_30 e_23))).symm.trans e_25
      have e_30 := laid_1 (Laid.pa hLd Pa.rf) e_29
      refine y_div C0 (o32_85 (Int.le_trans f_28.1 e_26) (Int.le_trans e_27 f_28.2) e_30) (o32_86 l2 u2) dX12_wordOf_64 (fun v_31 e_32 e_33 => ?_)
      rw [hQ]
      exact y_iret C0 h Fr.rf trivial dX12_wordOf_65
    · refine lv_tableIn (off := 54) (tgt := 66) C0.1 C0.2.1 dX12_wordOf_12 sw_91 sw_92 (by rw [sw_94]; rfl) (by decide) ?_
      refine lv_iload C0.1 C0.2.1 dX12_wordOf_66 (lv_at hl 0 rfl) ?_
      refine y_c2 (n := 24) C0 (by decide) dX12_wordOf_68 (fun v_34 e_35 => ?_)
      refine y_remU C0 (o32_224 e_35) dX12_wordOf_70 (fun v_36 => ?_)
      rw [hQ]
      exact y_iret C0 h Fr.rf trivial dX12_wordOf_71
    · refine lv_tableIn (off := 60) (tgt := 72) C0.1 C0.2.1 dX12_wordOf_12 sw_91 sw_92 (by rw [sw_94]; rfl) (by decide) ?_
      refine lv_iload C0.1 C0.2.1 dX12_wordOf_72 (lv_at hl 0 rfl) ?_
      refine y_c2 (n := 24) C0 (by decide) dX12_wordOf_74 (fun v_37 e_38 => ?_)
      refine y_divU C0 (o32_224 e_38) dX12_wordOf_76 (fun v_39 => ?_)
      rw [hQ]
      exact y_iret C0 h Fr.rf trivial dX12_wordOf_77
    · refine lv_tableIn (off := 66) (tgt := 78) C0.1 C0.2.1 dX12_wordOf_12 sw_91 sw_92 (by rw [sw_94]; rfl) (by decide) ?_
      refine lv_aload_n C0.1 C0.2.1 dX12_wordOf_78 rfl (lv_at hl 1 rfl) ?_
      refine ng_X12_all C0 h kSM_0 q_1439 dX12_wordOf_79 ?_
      refine y_c2 (n := 61) C0 (by decide) dX12_wordOf_82 (fun v_40 e_41 => ?_)
      refine lv_iload_n C0.1 C0.2.1 dX12_wordOf_84 rfl (lv_at hl 3 rfl) ?_
      refine y_add C0 (o32_225 l2 u2 e_41 (le_min v_40) (le_max v_40) (le_min a2) (le_max a2)) (o32_226 l2 u2 e_41 (le_min v_40) (le_max v_40) (le_min a2) (le_max a2)) dX12_wordOf_85 (fun v_42 e_43 => ?_)
      refine y_iald C0 h kSM_1 rfl (by decide) (o32_227 l2 u2 e_41 e_43) (o32_228 l2 u2 e_41 e_43) dX12_wordOf_86 (fun v_44 e_45 e_46 e_47 => ?_)
      rw [hQ]
      exact y_iret C0 h Fr.rf trivial dX12_wordOf_87
set_option maxHeartbeats 4000000 in
set_option maxRecDepth 100000 in
theorem c_X12_lesser (l : Launch) (G : GG) (Z : RZ) (ad : Nat → Nat) (ws0 : va_W) (hT : Ty G (SM tt) ad ws0) (a0 : Int32) (a1 : Int32) : Mq l yX12_lesser cX12_lesser 2 (some .int) 1 G Z [.int a0, .int a1] ws0 (PI G (SM tt) ad [] ws0 (fun r u => ((r.toInt = a0.toInt ∨ r.toInt = a1.toInt)) ∧ (r.toInt ≤ a0.toInt ∧ r.toInt ≤ a1.toInt))) := by
  refine Mq.start (by decide) (Nat.le_of_ble_eq_true rfl) ?_
  intro p e s m below meth c A ls C0 hZ h hl
  have hl : lv_has ls 2 [(0, .int a0), (1, .int a1)] := hl
  have h : Wt G (SM tt) ad A s s.heap [] ws0 := ⟨h, hT⟩
  obtain ⟨args, hargs⟩ : ∃ z, z = ([.int a0, .int a1] : List Value).toArray := ⟨_, rfl⟩
  rw [← hargs] at C0 ⊢
  have C0 : Cx p s m args meth c RX12 cX12_lesser 2 (some .int) := C0
  obtain ⟨Q, hQ⟩ : ∃ z, z = MQ below ((PI G (SM tt) ad [] ws0 (fun r u => ((r.toInt = a0.toInt ∨ r.toInt = a1.toInt)) ∧ (r.toInt ≤ a0.toInt ∧ r.toInt ≤ a1.toInt))) A) args s 0 0 A := ⟨_, rfl⟩
  rw [← hQ]
  refine lv_iload_n C0.1 C0.2.1 dX12_lesser_0 rfl (lv_at hl 0 rfl) ?_
  refine lv_iload_n C0.1 C0.2.1 dX12_lesser_1 rfl (lv_at hl 1 rfl) ?_
  refine y_icmp_ge (tgt := 9) C0 dX12_lesser_2 (by decide) (fun c_1 => ?_) (fun c_1 => ?_)
  · -- 2
    refine lv_iload_n C0.1 C0.2.1 dX12_lesser_9 rfl (lv_at hl 1 rfl) ?_
    rw [hQ]
    exact y_iret C0 h Fr.rf ⟨(o32_229 c_1), (o32_230 c_1)⟩ dX12_lesser_10
  · -- 2
    refine lv_iload_n C0.1 C0.2.1 dX12_lesser_5 rfl (lv_at hl 0 rfl) ?_
    refine lv_goto (tgt := 10) C0.1 C0.2.1 dX12_lesser_6 (by decide) ?_
    rw [hQ]
    exact y_iret C0 h Fr.rf ⟨(o32_231 c_1), (o32_232 c_1)⟩ dX12_lesser_10
set_option maxHeartbeats 4000000 in
set_option maxRecDepth 100000 in
theorem c_X12_orNone (l : Launch) (G : GG) (Z : RZ) (ad : Nat → Nat) (ws0 : va_W) (hT : Ty G (SM tt) ad ws0) (a0 : Int32) : Mq l yX12_orNone cX12_orNone 1 (some .int) 1 G Z [.int a0] ws0 (PI G (SM tt) ad [] ws0 (fun r u => True)) := by
  refine Mq.start (by decide) (Nat.le_of_ble_eq_true rfl) ?_
  intro p e s m below meth c A ls C0 hZ h hl
  have hl : lv_has ls 1 [(0, .int a0)] := hl
  have h : Wt G (SM tt) ad A s s.heap [] ws0 := ⟨h, hT⟩
  obtain ⟨args, hargs⟩ : ∃ z, z = ([.int a0] : List Value).toArray := ⟨_, rfl⟩
  rw [← hargs] at C0 ⊢
  have C0 : Cx p s m args meth c RX12 cX12_orNone 1 (some .int) := C0
  obtain ⟨Q, hQ⟩ : ∃ z, z = MQ below ((PI G (SM tt) ad [] ws0 (fun r u => True)) A) args s 0 0 A := ⟨_, rfl⟩
  rw [← hQ]
  refine lv_iload_n C0.1 C0.2.1 dX12_orNone_0 rfl (lv_at hl 0 rfl) ?_
  refine y_c5 (n := 1000000000) C0 q_1887 (by decide) dX12_orNone_1 (fun v_1 e_2 => ?_)
  refine y_icmp_ne (tgt := 11) C0 dX12_orNone_4 (by decide) (fun c_3 => ?_) (fun c_3 => ?_)
  · -- 4
    refine lv_iload_n C0.1 C0.2.1 dX12_orNone_11 rfl (lv_at hl 0 rfl) ?_
    rw [hQ]
    exact y_iret C0 h Fr.rf trivial dX12_orNone_12
  · -- 4
    refine y_c1 (n := (-1)) C0 (by decide) dX12_orNone_7 (fun v_4 e_5 => ?_)
    refine lv_goto (tgt := 12) C0.1 C0.2.1 dX12_orNone_8 (by decide) ?_
    rw [hQ]
    exact y_iret C0 h Fr.rf trivial dX12_orNone_12
set_option maxHeartbeats 4000000 in
set_option maxRecDepth 100000 in
theorem c_X12_cut (l : Launch) (G : GG) (Z : RZ) (ad : Nat → Nat) (ws0 : va_W) (hT : Ty G (SM tt) ad ws0) (a0 : Int64) (a1 : Int32) : Mq l yX12_cut cX12_cut 3 (some .long) 1 G Z [.long a0, .int a1] ws0 (PL G (SM tt) ad [] ws0 (fun r u => True)) := by
  refine Mq.start (by decide) (Nat.le_of_ble_eq_true rfl) ?_
  intro p e s m below meth c A ls C0 hZ h hl
  have hl : lv_has ls 3 [(0, .long a0), (2, .int a1)] := hl
  have h : Wt G (SM tt) ad A s s.heap [] ws0 := ⟨h, hT⟩
  obtain ⟨args, hargs⟩ : ∃ z, z = ([.long a0, .int a1] : List Value).toArray := ⟨_, rfl⟩
  rw [← hargs] at C0 ⊢
  have C0 : Cx p s m args meth c RX12 cX12_cut 3 (some .long) := C0
  obtain ⟨Q, hQ⟩ : ∃ z, z = MQ below ((PL G (SM tt) ad [] ws0 (fun r u => True)) A) args s 0 0 A := ⟨_, rfl⟩
  rw [← hQ]
  refine lv_iload_n C0.1 C0.2.1 dX12_cut_0 rfl (lv_at hl 1 rfl) ?_
  refine y_if_ne (tgt := 11) C0 dX12_cut_1 (by decide) (fun c_1 => ?_) (fun c_1 => ?_)
  · -- 1
    refine lv_iload_n C0.1 C0.2.1 dX12_cut_11 rfl (lv_at hl 1 rfl) ?_
    refine y_c1 (n := 1) C0 (by decide) dX12_cut_12 (fun v_2 e_3 => ?_)
    refine y_icmp_ne (tgt := 23) C0 dX12_cut_13 (by decide) (fun c_4 => ?_) (fun c_4 => ?_)
    · -- 13
      refine lv_iload_n C0.1 C0.2.1 dX12_cut_23 rfl (lv_at hl 1 rfl) ?_
      refine y_c1 (n := 2) C0 (by decide) dX12_cut_24 (fun v_5 e_6 => ?_)
      refine y_icmp_ne (tgt := 34) C0 dX12_cut_25 (by decide) (fun c_7 => ?_) (fun c_7 => ?_)
      · -- 25
        refine lv_lload_n C0.1 C0.2.1 dX12_cut_34 rfl (lv_at hl 0 rfl) ?_
        rw [hQ]
        exact y_lret C0 h Fr.rf trivial dX12_cut_35
      · -- 25
        refine lv_lload_n C0.1 C0.2.1 dX12_cut_28 rfl (lv_at hl 0 rfl) ?_
        refine y_l2iU C0 dX12_cut_29 (fun v_8 => ?_)
        refine y_i2l C0 dX12_cut_30 (fun w_9 e_10 => ?_)
        refine lv_goto (tgt := 35) C0.1 C0.2.1 dX12_cut_31 (by decide) ?_
        rw [hQ]
        exact y_lret C0 h Fr.rf trivial dX12_cut_35
    · -- 13
      refine lv_lload_n C0.1 C0.2.1 dX12_cut_16 rfl (lv_at hl 0 rfl) ?_
      refine y_l2iU C0 dX12_cut_17 (fun v_11 => ?_)
      refine y_i2sU C0 dX12_cut_18 (fun v_12 => ?_)
      refine y_i2l C0 dX12_cut_19 (fun w_13 e_14 => ?_)
      refine lv_goto (tgt := 35) C0.1 C0.2.1 dX12_cut_20 (by decide) ?_
      rw [hQ]
      exact y_lret C0 h Fr.rf trivial dX12_cut_35
  · -- 1
    refine lv_lload_n C0.1 C0.2.1 dX12_cut_4 rfl (lv_at hl 0 rfl) ?_
    refine y_l2iU C0 dX12_cut_5 (fun v_15 => ?_)
    refine y_i2b C0 dX12_cut_6 (fun v_16 e_17 e_18 => ?_)
    refine y_i2l C0 dX12_cut_7 (fun w_19 e_20 => ?_)
    refine lv_goto (tgt := 35) C0.1 C0.2.1 dX12_cut_8 (by decide) ?_
    rw [hQ]
    exact y_lret C0 h Fr.rf trivial dX12_cut_35
