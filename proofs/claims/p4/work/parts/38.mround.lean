variable {tt : QQ}
theorem dX12_goesRound_0 : decode cX12_goesRound 0 = .ok (.iload_n 2, 1) := by decide +kernel
theorem dX12_goesRound_1 : decode cX12_goesRound 1 = .ok (.aload_n 0, 1) := by decide +kernel
theorem dX12_goesRound_2 : decode cX12_goesRound 2 = .ok (.getfield 89, 3) := by decide +kernel
theorem dX12_goesRound_5 : decode cX12_goesRound 5 = .ok (.iload_n 1, 1) := by decide +kernel
theorem dX12_goesRound_6 : decode cX12_goesRound 6 = .ok (.iaload, 1) := by decide +kernel
theorem dX12_goesRound_7 : decode cX12_goesRound 7 = .ok (.if_icmp .ne 81, 3) := by decide +kernel
theorem dX12_goesRound_10 : decode cX12_goesRound 10 = .ok (.aload_n 0, 1) := by decide +kernel
theorem dX12_goesRound_11 : decode cX12_goesRound 11 = .ok (.getfield 417, 3) := by decide +kernel
theorem dX12_goesRound_14 : decode cX12_goesRound 14 = .ok (.iconst (-1), 1) := by decide +kernel
theorem dX12_goesRound_15 : decode cX12_goesRound 15 = .ok (.if_icmp .eq 31, 3) := by decide +kernel
theorem dX12_goesRound_18 : decode cX12_goesRound 18 = .ok (.iload 5, 2) := by decide +kernel
theorem dX12_goesRound_20 : decode cX12_goesRound 20 = .ok (.aload_n 0, 1) := by decide +kernel
theorem dX12_goesRound_21 : decode cX12_goesRound 21 = .ok (.getfield 417, 3) := by decide +kernel
theorem dX12_goesRound_24 : decode cX12_goesRound 24 = .ok (.if_icmp .gt 21, 3) := by decide +kernel
theorem dX12_goesRound_27 : decode cX12_goesRound 27 = .ok (.iload 5, 2) := by decide +kernel
theorem dX12_goesRound_29 : decode cX12_goesRound 29 = .ok (.aload_n 0, 1) := by decide +kernel
theorem dX12_goesRound_30 : decode cX12_goesRound 30 = .ok (.getfield 417, 3) := by decide +kernel
theorem dX12_goesRound_33 : decode cX12_goesRound 33 = .ok (.if_icmp .ne 13, 3) := by decide +kernel
theorem dX12_goesRound_36 : decode cX12_goesRound 36 = .ok (.iload 6, 2) := by decide +kernel
theorem dX12_goesRound_38 : decode cX12_goesRound 38 = .ok (.aload_n 0, 1) := by decide +kernel
theorem dX12_goesRound_39 : decode cX12_goesRound 39 = .ok (.getfield 420, 3) := by decide +kernel
theorem dX12_goesRound_42 : decode cX12_goesRound 42 = .ok (.if_icmp .lt 4, 3) := by decide +kernel
theorem dX12_goesRound_45 : decode cX12_goesRound 45 = .ok (.return_, 1) := by decide +kernel
theorem dX12_goesRound_46 : decode cX12_goesRound 46 = .ok (.aload_n 0, 1) := by decide +kernel
theorem dX12_goesRound_47 : decode cX12_goesRound 47 = .ok (.iload 5, 2) := by decide +kernel
theorem dX12_goesRound_49 : decode cX12_goesRound 49 = .ok (.putfield 417, 3) := by decide +kernel
theorem dX12_goesRound_52 : decode cX12_goesRound 52 = .ok (.aload_n 0, 1) := by decide +kernel
theorem dX12_goesRound_53 : decode cX12_goesRound 53 = .ok (.iload 6, 2) := by decide +kernel
theorem dX12_goesRound_55 : decode cX12_goesRound 55 = .ok (.putfield 420, 3) := by decide +kernel
theorem dX12_goesRound_58 : decode cX12_goesRound 58 = .ok (.iconst 0, 1) := by decide +kernel
theorem dX12_goesRound_59 : decode cX12_goesRound 59 = .ok (.istore 7, 2) := by decide +kernel
theorem dX12_goesRound_61 : decode cX12_goesRound 61 = .ok (.iload 7, 2) := by decide +kernel
theorem dX12_goesRound_63 : decode cX12_goesRound 63 = .ok (.iload_n 2, 1) := by decide +kernel
theorem dX12_goesRound_64 : decode cX12_goesRound 64 = .ok (.if_icmp .ge 23, 3) := by decide +kernel
theorem dX12_goesRound_67 : decode cX12_goesRound 67 = .ok (.aload_n 0, 1) := by decide +kernel
theorem dX12_goesRound_68 : decode cX12_goesRound 68 = .ok (.getfield 73, 3) := by decide +kernel
theorem dX12_goesRound_71 : decode cX12_goesRound 71 = .ok (.iload 7, 2) := by decide +kernel
theorem dX12_goesRound_73 : decode cX12_goesRound 73 = .ok (.aload_n 0, 1) := by decide +kernel
theorem dX12_goesRound_74 : decode cX12_goesRound 74 = .ok (.getfield 70, 3) := by decide +kernel
theorem dX12_goesRound_77 : decode cX12_goesRound 77 = .ok (.iload 7, 2) := by decide +kernel
theorem dX12_goesRound_79 : decode cX12_goesRound 79 = .ok (.iaload, 1) := by decide +kernel
theorem dX12_goesRound_80 : decode cX12_goesRound 80 = .ok (.iastore, 1) := by decide +kernel
theorem dX12_goesRound_81 : decode cX12_goesRound 81 = .ok (.iinc 7 1, 3) := by decide +kernel
theorem dX12_goesRound_84 : decode cX12_goesRound 84 = .ok (.goto (-23), 3) := by decide +kernel
theorem dX12_goesRound_87 : decode cX12_goesRound 87 = .ok (.return_, 1) := by decide +kernel
theorem dX12_goesRound_88 : decode cX12_goesRound 88 = .ok (.iconst 0, 1) := by decide +kernel
theorem dX12_goesRound_89 : decode cX12_goesRound 89 = .ok (.istore 7, 2) := by decide +kernel
theorem dX12_goesRound_91 : decode cX12_goesRound 91 = .ok (.iload 7, 2) := by decide +kernel
theorem dX12_goesRound_93 : decode cX12_goesRound 93 = .ok (.aload_n 0, 1) := by decide +kernel
theorem dX12_goesRound_94 : decode cX12_goesRound 94 = .ok (.getfield 89, 3) := by decide +kernel
theorem dX12_goesRound_97 : decode cX12_goesRound 97 = .ok (.iload_n 1, 1) := by decide +kernel
theorem dX12_goesRound_98 : decode cX12_goesRound 98 = .ok (.iaload, 1) := by decide +kernel
theorem dX12_goesRound_99 : decode cX12_goesRound 99 = .ok (.if_icmp .ge 98, 3) := by decide +kernel
theorem dX12_goesRound_102 : decode cX12_goesRound 102 = .ok (.iload_n 3, 1) := by decide +kernel
theorem dX12_goesRound_103 : decode cX12_goesRound 103 = .ok (.i2l, 1) := by decide +kernel
theorem dX12_goesRound_104 : decode cX12_goesRound 104 = .ok (.iload 7, 2) := by decide +kernel
theorem dX12_goesRound_106 : decode cX12_goesRound 106 = .ok (.invokestatic 229, 3) := by decide +kernel
theorem dX12_goesRound_109 : decode cX12_goesRound 109 = .ok (.ifCond .eq 6, 3) := by decide +kernel
theorem dX12_goesRound_112 : decode cX12_goesRound 112 = .ok (.goto 79, 3) := by decide +kernel
theorem dX12_goesRound_115 : decode cX12_goesRound 115 = .ok (.aload_n 0, 1) := by decide +kernel
theorem dX12_goesRound_116 : decode cX12_goesRound 116 = .ok (.getfield 92, 3) := by decide +kernel
theorem dX12_goesRound_119 : decode cX12_goesRound 119 = .ok (.bipush 40, 2) := by decide +kernel
theorem dX12_goesRound_121 : decode cX12_goesRound 121 = .ok (.iload_n 1, 1) := by decide +kernel
theorem dX12_goesRound_122 : decode cX12_goesRound 122 = .ok (.imul, 1) := by decide +kernel
theorem dX12_goesRound_123 : decode cX12_goesRound 123 = .ok (.iload 7, 2) := by decide +kernel
theorem dX12_goesRound_125 : decode cX12_goesRound 125 = .ok (.iadd, 1) := by decide +kernel
theorem dX12_goesRound_126 : decode cX12_goesRound 126 = .ok (.laload, 1) := by decide +kernel
theorem dX12_goesRound_127 : decode cX12_goesRound 127 = .ok (.l2i, 1) := by decide +kernel
theorem dX12_goesRound_128 : decode cX12_goesRound 128 = .ok (.istore 8, 2) := by decide +kernel
theorem dX12_goesRound_130 : decode cX12_goesRound 130 = .ok (.aload_n 0, 1) := by decide +kernel
theorem dX12_goesRound_131 : decode cX12_goesRound 131 = .ok (.iload 4, 2) := by decide +kernel
theorem dX12_goesRound_133 : decode cX12_goesRound 133 = .ok (.iload 6, 2) := by decide +kernel
theorem dX12_goesRound_135 : decode cX12_goesRound 135 = .ok (.iload 8, 2) := by decide +kernel
theorem dX12_goesRound_137 : decode cX12_goesRound 137 = .ok (.invokevirtual 423, 3) := by decide +kernel
theorem dX12_goesRound_140 : decode cX12_goesRound 140 = .ok (.istore 9, 2) := by decide +kernel
theorem dX12_goesRound_142 : decode cX12_goesRound 142 = .ok (.iload 9, 2) := by decide +kernel
theorem dX12_goesRound_144 : decode cX12_goesRound 144 = .ok (.ldc_w 351, 3) := by decide +kernel
theorem dX12_goesRound_147 : decode cX12_goesRound 147 = .ok (.if_icmp .ne 6, 3) := by decide +kernel
theorem dX12_goesRound_150 : decode cX12_goesRound 150 = .ok (.goto 41, 3) := by decide +kernel
theorem dX12_goesRound_153 : decode cX12_goesRound 153 = .ok (.aload_n 0, 1) := by decide +kernel
theorem dX12_goesRound_154 : decode cX12_goesRound 154 = .ok (.getfield 70, 3) := by decide +kernel
theorem dX12_goesRound_157 : decode cX12_goesRound 157 = .ok (.iload_n 2, 1) := by decide +kernel
theorem dX12_goesRound_158 : decode cX12_goesRound 158 = .ok (.iload 8, 2) := by decide +kernel
theorem dX12_goesRound_160 : decode cX12_goesRound 160 = .ok (.iastore, 1) := by decide +kernel
theorem dX12_goesRound_161 : decode cX12_goesRound 161 = .ok (.aload_n 0, 1) := by decide +kernel
theorem dX12_goesRound_162 : decode cX12_goesRound 162 = .ok (.iload_n 1, 1) := by decide +kernel
theorem dX12_goesRound_163 : decode cX12_goesRound 163 = .ok (.iload_n 2, 1) := by decide +kernel
theorem dX12_goesRound_164 : decode cX12_goesRound 164 = .ok (.iconst 1, 1) := by decide +kernel
theorem dX12_goesRound_165 : decode cX12_goesRound 165 = .ok (.iadd, 1) := by decide +kernel
theorem dX12_goesRound_166 : decode cX12_goesRound 166 = .ok (.iload_n 3, 1) := by decide +kernel
theorem dX12_goesRound_167 : decode cX12_goesRound 167 = .ok (.iconst 1, 1) := by decide +kernel
theorem dX12_goesRound_168 : decode cX12_goesRound 168 = .ok (.iload 7, 2) := by decide +kernel
theorem dX12_goesRound_170 : decode cX12_goesRound 170 = .ok (.ishl, 1) := by decide +kernel
theorem dX12_goesRound_171 : decode cX12_goesRound 171 = .ok (.ior, 1) := by decide +kernel
theorem dX12_goesRound_172 : decode cX12_goesRound 172 = .ok (.aload_n 0, 1) := by decide +kernel
theorem dX12_goesRound_173 : decode cX12_goesRound 173 = .ok (.getfield 388, 3) := by decide +kernel
theorem dX12_goesRound_176 : decode cX12_goesRound 176 = .ok (.iload 5, 2) := by decide +kernel
theorem dX12_goesRound_178 : decode cX12_goesRound 178 = .ok (.iload 9, 2) := by decide +kernel
theorem dX12_goesRound_180 : decode cX12_goesRound 180 = .ok (.iadd, 1) := by decide +kernel
theorem dX12_goesRound_181 : decode cX12_goesRound 181 = .ok (.iload 6, 2) := by decide +kernel
theorem dX12_goesRound_183 : decode cX12_goesRound 183 = .ok (.aload_n 0, 1) := by decide +kernel
theorem dX12_goesRound_184 : decode cX12_goesRound 184 = .ok (.getfield 414, 3) := by decide +kernel
theorem dX12_goesRound_187 : decode cX12_goesRound 187 = .ok (.iadd, 1) := by decide +kernel
theorem dX12_goesRound_188 : decode cX12_goesRound 188 = .ok (.invokevirtual 426, 3) := by decide +kernel
theorem dX12_goesRound_191 : decode cX12_goesRound 191 = .ok (.iinc 7 1, 3) := by decide +kernel
theorem dX12_goesRound_194 : decode cX12_goesRound 194 = .ok (.goto (-103), 3) := by decide +kernel
theorem dX12_goesRound_197 : decode cX12_goesRound 197 = .ok (.return_, 1) := by decide +kernel
theorem dX12_round_0 : decode cX12_round 0 = .ok (.aload_n 0, 1) := by decide +kernel
theorem dX12_round_1 : decode cX12_round 1 = .ok (.iconst 0, 1) := by decide +kernel
theorem dX12_round_2 : decode cX12_round 2 = .ok (.putfield 1, 3) := by decide +kernel
theorem dX12_round_5 : decode cX12_round 5 = .ok (.aload_n 0, 1) := by decide +kernel
theorem dX12_round_6 : decode cX12_round 6 = .ok (.iload_n 1, 1) := by decide +kernel
theorem dX12_round_7 : decode cX12_round 7 = .ok (.i2l, 1) := by decide +kernel
theorem dX12_round_8 : decode cX12_round 8 = .ok (.invokevirtual 253, 3) := by decide +kernel
theorem dX12_round_11 : decode cX12_round 11 = .ok (.ifCond .eq 39, 3) := by decide +kernel
theorem dX12_round_14 : decode cX12_round 14 = .ok (.iload_n 2, 1) := by decide +kernel
theorem dX12_round_15 : decode cX12_round 15 = .ok (.i2l, 1) := by decide +kernel
theorem dX12_round_16 : decode cX12_round 16 = .ok (.lconst 0, 1) := by decide +kernel
theorem dX12_round_17 : decode cX12_round 17 = .ok (.ldc2_w 236, 3) := by decide +kernel
theorem dX12_round_20 : decode cX12_round 20 = .ok (.invokestatic 161, 3) := by decide +kernel
theorem dX12_round_23 : decode cX12_round 23 = .ok (.ifCond .eq 27, 3) := by decide +kernel
theorem dX12_round_26 : decode cX12_round 26 = .ok (.iload_n 3, 1) := by decide +kernel
theorem dX12_round_27 : decode cX12_round 27 = .ok (.i2l, 1) := by decide +kernel
theorem dX12_round_28 : decode cX12_round 28 = .ok (.lconst 0, 1) := by decide +kernel
theorem dX12_round_29 : decode cX12_round 29 = .ok (.lconst 1, 1) := by decide +kernel
theorem dX12_round_30 : decode cX12_round 30 = .ok (.invokestatic 161, 3) := by decide +kernel
theorem dX12_round_33 : decode cX12_round 33 = .ok (.ifCond .ne 20, 3) := by decide +kernel
theorem dX12_round_36 : decode cX12_round 36 = .ok (.iload_n 3, 1) := by decide +kernel
theorem dX12_round_37 : decode cX12_round 37 = .ok (.i2l, 1) := by decide +kernel
theorem dX12_round_38 : decode cX12_round 38 = .ok (.ldc2_w 333, 3) := by decide +kernel
theorem dX12_round_41 : decode cX12_round 41 = .ok (.ldc2_w 430, 3) := by decide +kernel
theorem dX12_round_44 : decode cX12_round 44 = .ok (.invokestatic 161, 3) := by decide +kernel
theorem dX12_round_47 : decode cX12_round 47 = .ok (.ifCond .ne 6, 3) := by decide +kernel
theorem dX12_round_50 : decode cX12_round 50 = .ok (.bipush (-2), 2) := by decide +kernel
theorem dX12_round_52 : decode cX12_round 52 = .ok (.ireturn, 1) := by decide +kernel
theorem dX12_round_53 : decode cX12_round 53 = .ok (.aload_n 0, 1) := by decide +kernel
theorem dX12_round_54 : decode cX12_round 54 = .ok (.iload_n 2, 1) := by decide +kernel
theorem dX12_round_55 : decode cX12_round 55 = .ok (.invokevirtual 312, 3) := by decide +kernel
theorem dX12_round_58 : decode cX12_round 58 = .ok (.istore 4, 2) := by decide +kernel
theorem dX12_round_60 : decode cX12_round 60 = .ok (.iload 4, 2) := by decide +kernel
theorem dX12_round_62 : decode cX12_round 62 = .ok (.ifCond .eq 6, 3) := by decide +kernel
theorem dX12_round_65 : decode cX12_round 65 = .ok (.iload 4, 2) := by decide +kernel
theorem dX12_round_67 : decode cX12_round 67 = .ok (.ireturn, 1) := by decide +kernel
theorem dX12_round_68 : decode cX12_round 68 = .ok (.aload_n 0, 1) := by decide +kernel
theorem dX12_round_69 : decode cX12_round 69 = .ok (.getfield 89, 3) := by decide +kernel
theorem dX12_round_72 : decode cX12_round 72 = .ok (.iload_n 2, 1) := by decide +kernel
theorem dX12_round_73 : decode cX12_round 73 = .ok (.iaload, 1) := by decide +kernel
theorem dX12_round_74 : decode cX12_round 74 = .ok (.i2l, 1) := by decide +kernel
theorem dX12_round_75 : decode cX12_round 75 = .ok (.lconst 1, 1) := by decide +kernel
theorem dX12_round_76 : decode cX12_round 76 = .ok (.ldc2_w 432, 3) := by decide +kernel
theorem dX12_round_79 : decode cX12_round 79 = .ok (.invokestatic 161, 3) := by decide +kernel
theorem dX12_round_82 : decode cX12_round 82 = .ok (.ifCond .ne 6, 3) := by decide +kernel
theorem dX12_round_85 : decode cX12_round 85 = .ok (.bipush (-4), 2) := by decide +kernel
theorem dX12_round_87 : decode cX12_round 87 = .ok (.ireturn, 1) := by decide +kernel
theorem dX12_round_88 : decode cX12_round 88 = .ok (.iconst 0, 1) := by decide +kernel
theorem dX12_round_89 : decode cX12_round 89 = .ok (.istore 5, 2) := by decide +kernel
theorem dX12_round_91 : decode cX12_round 91 = .ok (.iload 5, 2) := by decide +kernel
theorem dX12_round_93 : decode cX12_round 93 = .ok (.aload_n 0, 1) := by decide +kernel
theorem dX12_round_94 : decode cX12_round 94 = .ok (.getfield 89, 3) := by decide +kernel
theorem dX12_round_97 : decode cX12_round 97 = .ok (.iload_n 2, 1) := by decide +kernel
theorem dX12_round_98 : decode cX12_round 98 = .ok (.iaload, 1) := by decide +kernel
theorem dX12_round_99 : decode cX12_round 99 = .ok (.if_icmp .ge 31, 3) := by decide +kernel
theorem dX12_round_102 : decode cX12_round 102 = .ok (.aload_n 0, 1) := by decide +kernel
theorem dX12_round_103 : decode cX12_round 103 = .ok (.aload_n 0, 1) := by decide +kernel
theorem dX12_round_104 : decode cX12_round 104 = .ok (.getfield 92, 3) := by decide +kernel
theorem dX12_round_107 : decode cX12_round 107 = .ok (.bipush 40, 2) := by decide +kernel
theorem dX12_round_109 : decode cX12_round 109 = .ok (.iload_n 2, 1) := by decide +kernel
theorem dX12_round_110 : decode cX12_round 110 = .ok (.imul, 1) := by decide +kernel
theorem dX12_round_111 : decode cX12_round 111 = .ok (.iload 5, 2) := by decide +kernel
theorem dX12_round_113 : decode cX12_round 113 = .ok (.iadd, 1) := by decide +kernel
theorem dX12_round_114 : decode cX12_round 114 = .ok (.laload, 1) := by decide +kernel
theorem dX12_round_115 : decode cX12_round 115 = .ok (.invokevirtual 257, 3) := by decide +kernel
theorem dX12_round_118 : decode cX12_round 118 = .ok (.ifCond .ne 6, 3) := by decide +kernel
theorem dX12_round_121 : decode cX12_round 121 = .ok (.bipush (-3), 2) := by decide +kernel
theorem dX12_round_123 : decode cX12_round 123 = .ok (.ireturn, 1) := by decide +kernel
theorem dX12_round_124 : decode cX12_round 124 = .ok (.iinc 5 1, 3) := by decide +kernel
theorem dX12_round_127 : decode cX12_round 127 = .ok (.goto (-36), 3) := by decide +kernel
theorem dX12_round_130 : decode cX12_round 130 = .ok (.aload_n 0, 1) := by decide +kernel
theorem dX12_round_131 : decode cX12_round 131 = .ok (.iconst (-1), 1) := by decide +kernel
theorem dX12_round_132 : decode cX12_round 132 = .ok (.putfield 417, 3) := by decide +kernel
theorem dX12_round_135 : decode cX12_round 135 = .ok (.aload_n 0, 1) := by decide +kernel
theorem dX12_round_136 : decode cX12_round 136 = .ok (.iload_n 2, 1) := by decide +kernel
theorem dX12_round_137 : decode cX12_round 137 = .ok (.iconst 0, 1) := by decide +kernel
theorem dX12_round_138 : decode cX12_round 138 = .ok (.iconst 0, 1) := by decide +kernel
theorem dX12_round_139 : decode cX12_round 139 = .ok (.iconst 4, 1) := by decide +kernel
theorem dX12_round_140 : decode cX12_round 140 = .ok (.aload_n 0, 1) := by decide +kernel
theorem dX12_round_141 : decode cX12_round 141 = .ok (.getfield 13, 3) := by decide +kernel
theorem dX12_round_144 : decode cX12_round 144 = .ok (.bipush 36, 2) := by decide +kernel
theorem dX12_round_146 : decode cX12_round 146 = .ok (.iload_n 1, 1) := by decide +kernel
theorem dX12_round_147 : decode cX12_round 147 = .ok (.iadd, 1) := by decide +kernel
theorem dX12_round_148 : decode cX12_round 148 = .ok (.iaload, 1) := by decide +kernel
theorem dX12_round_149 : decode cX12_round 149 = .ok (.imul, 1) := by decide +kernel
theorem dX12_round_150 : decode cX12_round 150 = .ok (.aload_n 0, 1) := by decide +kernel
theorem dX12_round_151 : decode cX12_round 151 = .ok (.getfield 13, 3) := by decide +kernel
theorem dX12_round_154 : decode cX12_round 154 = .ok (.bipush 41, 2) := by decide +kernel
theorem dX12_round_156 : decode cX12_round 156 = .ok (.iload_n 1, 1) := by decide +kernel
theorem dX12_round_157 : decode cX12_round 157 = .ok (.iadd, 1) := by decide +kernel
theorem dX12_round_158 : decode cX12_round 158 = .ok (.iaload, 1) := by decide +kernel
theorem dX12_round_159 : decode cX12_round 159 = .ok (.iadd, 1) := by decide +kernel
theorem dX12_round_160 : decode cX12_round 160 = .ok (.iconst 0, 1) := by decide +kernel
theorem dX12_round_161 : decode cX12_round 161 = .ok (.iconst 0, 1) := by decide +kernel
theorem dX12_round_162 : decode cX12_round 162 = .ok (.invokevirtual 426, 3) := by decide +kernel
theorem dX12_round_165 : decode cX12_round 165 = .ok (.aload_n 0, 1) := by decide +kernel
theorem dX12_round_166 : decode cX12_round 166 = .ok (.getfield 417, 3) := by decide +kernel
theorem dX12_round_169 : decode cX12_round 169 = .ok (.iconst (-1), 1) := by decide +kernel
theorem dX12_round_170 : decode cX12_round 170 = .ok (.if_icmp .ne 5, 3) := by decide +kernel
theorem dX12_round_173 : decode cX12_round 173 = .ok (.iconst (-1), 1) := by decide +kernel
theorem dX12_round_174 : decode cX12_round 174 = .ok (.ireturn, 1) := by decide +kernel
theorem dX12_round_175 : decode cX12_round 175 = .ok (.iload_n 3, 1) := by decide +kernel
theorem dX12_round_176 : decode cX12_round 176 = .ok (.ifCond .ne 10, 3) := by decide +kernel
theorem dX12_round_179 : decode cX12_round 179 = .ok (.aload_n 0, 1) := by decide +kernel
theorem dX12_round_180 : decode cX12_round 180 = .ok (.getfield 417, 3) := by decide +kernel
theorem dX12_round_183 : decode cX12_round 183 = .ok (.goto 41, 3) := by decide +kernel
theorem dX12_round_186 : decode cX12_round 186 = .ok (.iload_n 3, 1) := by decide +kernel
theorem dX12_round_187 : decode cX12_round 187 = .ok (.iconst 1, 1) := by decide +kernel
theorem dX12_round_188 : decode cX12_round 188 = .ok (.if_icmp .ne 10, 3) := by decide +kernel
theorem dX12_round_191 : decode cX12_round 191 = .ok (.aload_n 0, 1) := by decide +kernel
theorem dX12_round_192 : decode cX12_round 192 = .ok (.getfield 420, 3) := by decide +kernel
theorem dX12_round_195 : decode cX12_round 195 = .ok (.goto 29, 3) := by decide +kernel
theorem dX12_round_198 : decode cX12_round 198 = .ok (.iload_n 3, 1) := by decide +kernel
theorem dX12_round_199 : decode cX12_round 199 = .ok (.bipush 10, 2) := by decide +kernel
theorem dX12_round_201 : decode cX12_round 201 = .ok (.isub, 1) := by decide +kernel
theorem dX12_round_202 : decode cX12_round 202 = .ok (.aload_n 0, 1) := by decide +kernel
theorem dX12_round_203 : decode cX12_round 203 = .ok (.getfield 89, 3) := by decide +kernel
theorem dX12_round_206 : decode cX12_round 206 = .ok (.iload_n 2, 1) := by decide +kernel
theorem dX12_round_207 : decode cX12_round 207 = .ok (.iaload, 1) := by decide +kernel
theorem dX12_round_208 : decode cX12_round 208 = .ok (.if_icmp .ge 15, 3) := by decide +kernel
theorem dX12_round_211 : decode cX12_round 211 = .ok (.aload_n 0, 1) := by decide +kernel
theorem dX12_round_212 : decode cX12_round 212 = .ok (.getfield 73, 3) := by decide +kernel
theorem dX12_round_215 : decode cX12_round 215 = .ok (.iload_n 3, 1) := by decide +kernel
theorem dX12_round_216 : decode cX12_round 216 = .ok (.bipush 10, 2) := by decide +kernel
theorem dX12_round_218 : decode cX12_round 218 = .ok (.isub, 1) := by decide +kernel
theorem dX12_round_219 : decode cX12_round 219 = .ok (.iaload, 1) := by decide +kernel
theorem dX12_round_220 : decode cX12_round 220 = .ok (.goto 4, 3) := by decide +kernel
theorem dX12_round_223 : decode cX12_round 223 = .ok (.iconst (-1), 1) := by decide +kernel
theorem dX12_round_224 : decode cX12_round 224 = .ok (.ireturn, 1) := by decide +kernel
theorem o38_1 {x0 : Int} (h0 : 0 ≤ x0) (h1 : x0 ≤ 3) : 0 ≤ x0 := by omega
theorem o38_2 {x0 : Int} (h0 : 0 ≤ x0) (h1 : x0 ≤ 3) : x0 < (4 : Nat) := by omega
theorem o38_3 {x0 x1 x2 : Int} (h0 : 4 ≤ x0) (h1 : x0 ≤ 4) (h2 : 4 ≤ x2) (h3 : x2 ≤ 4) (h4 : 0 ≤ x1) (h5 : x1 ≤ 40) (h6 : x1 = x2) (h7 : ¬ x0 = x1) : False := by omega
theorem o38_4 {x0 : Int} (h0 : 0 ≤ x0) (h1 : x0 ≤ 4) (h2 : 4 - x0 < 0) : False := by omega
theorem o38_5 {x0 x1 x2 x3 : Int} {x4 : Nat} (h0 : 4 ≤ x1) (h1 : x1 ≤ 4) (h2 : 4 ≤ x2) (h3 : x2 ≤ 4) (h4 : 0 ≤ x3) (h5 : x3 ≤ 40) (h6 : x3 = x2) (h7 : x1 = x3) (h8 : 0 ≤ x0) (h9 : x0 ≤ 4) (h10 : 4 - x0 < ((x4 + 1 : Nat) : Int)) (h11 : x0 < x1) : 0 ≤ x0 := by omega
theorem o38_6 {x0 x1 x2 x3 : Int} {x4 : Nat} (h0 : 4 ≤ x1) (h1 : x1 ≤ 4) (h2 : 4 ≤ x2) (h3 : x2 ≤ 4) (h4 : 0 ≤ x3) (h5 : x3 ≤ 40) (h6 : x3 = x2) (h7 : x1 = x3) (h8 : 0 ≤ x0) (h9 : x0 ≤ 4) (h10 : 4 - x0 < ((x4 + 1 : Nat) : Int)) (h11 : x0 < x1) : x0 < (4 : Nat) := by omega
theorem o38_7 {x0 x1 x2 x3 : Int} {x4 : Nat} (h0 : 4 ≤ x1) (h1 : x1 ≤ 4) (h2 : 4 ≤ x2) (h3 : x2 ≤ 4) (h4 : 0 ≤ x3) (h5 : x3 ≤ 40) (h6 : x3 = x2) (h7 : x1 = x3) (h8 : 0 ≤ x0) (h9 : x0 ≤ 4) (h10 : 4 - x0 < ((x4 + 1 : Nat) : Int)) (h11 : x0 < x1) (h12 : -2147483648 ≤ x0) (h13 : x0 ≤ 2147483647) (h14 : -2147483648 ≤ x1) (h15 : x1 ≤ 2147483647) (h16 : -2147483648 ≤ x2) (h17 : x2 ≤ 2147483647) (h18 : -2147483648 ≤ x3) (h19 : x3 ≤ 2147483647) : -2147483648 ≤ x0 + 1 := by omega
theorem o38_8 {x0 x1 x2 x3 : Int} {x4 : Nat} (h0 : 4 ≤ x1) (h1 : x1 ≤ 4) (h2 : 4 ≤ x2) (h3 : x2 ≤ 4) (h4 : 0 ≤ x3) (h5 : x3 ≤ 40) (h6 : x3 = x2) (h7 : x1 = x3) (h8 : 0 ≤ x0) (h9 : x0 ≤ 4) (h10 : 4 - x0 < ((x4 + 1 : Nat) : Int)) (h11 : x0 < x1) (h12 : -2147483648 ≤ x0) (h13 : x0 ≤ 2147483647) (h14 : -2147483648 ≤ x1) (h15 : x1 ≤ 2147483647) (h16 : -2147483648 ≤ x2) (h17 : x2 ≤ 2147483647) (h18 : -2147483648 ≤ x3) (h19 : x3 ≤ 2147483647) : x0 + 1 ≤ 2147483647 := by omega
theorem o38_9 {x0 x2 x3 x4 x5 : Int} {x1 : Nat} (h0 : 4 ≤ x2) (h1 : x2 ≤ 4) (h2 : 4 ≤ x3) (h3 : x3 ≤ 4) (h4 : 0 ≤ x4) (h5 : x4 ≤ 40) (h6 : x4 = x3) (h7 : x2 = x4) (h8 : 0 ≤ x5) (h9 : x5 ≤ 4) (h10 : 4 - x5 < ((x1 + 1 : Nat) : Int)) (h11 : x5 < x2) (h12 : x0 = x5 + 1) : 4 - x0 < (x1 : Int) := by omega
theorem o38_10 {x0 x1 x2 x3 x4 : Int} {x5 : Nat} (h0 : 4 ≤ x1) (h1 : x1 ≤ 4) (h2 : 4 ≤ x2) (h3 : x2 ≤ 4) (h4 : 0 ≤ x3) (h5 : x3 ≤ 40) (h6 : x3 = x2) (h7 : x1 = x3) (h8 : 0 ≤ x4) (h9 : x4 ≤ 4) (h10 : 4 - x4 < ((x5 + 1 : Nat) : Int)) (h11 : x4 < x1) (h12 : x0 = x4 + 1) : 0 ≤ x0 := by omega
theorem o38_11 {x0 x1 x2 x3 x4 : Int} {x5 : Nat} (h0 : 4 ≤ x1) (h1 : x1 ≤ 4) (h2 : 4 ≤ x2) (h3 : x2 ≤ 4) (h4 : 0 ≤ x3) (h5 : x3 ≤ 40) (h6 : x3 = x2) (h7 : x1 = x3) (h8 : 0 ≤ x4) (h9 : x4 ≤ 4) (h10 : 4 - x4 < ((x5 + 1 : Nat) : Int)) (h11 : x4 < x1) (h12 : x0 = x4 + 1) : x0 ≤ 4 := by omega
theorem o38_12 {x0 : Int} (h0 : x0 = 0) : 4 - x0 < (((4 - x0 + 1).toNat : Nat) : Int) := by omega
theorem o38_13 {x0 : Int} (h0 : x0 = 0) : 0 ≤ x0 := by omega
theorem o38_14 {x0 : Int} (h0 : x0 = 0) : x0 ≤ 4 := by omega
theorem o38_15 {x0 : Int} (h0 : x0 = 40) : x0 = 40 := by omega
theorem o38_16 {x0 : Int} (h0 : 0 ≤ x0) (h1 : x0 ≤ 3) (h2 : -2147483648 ≤ x0) (h3 : x0 ≤ 2147483647) : -2147483648 ≤ 40 * x0 := by omega
theorem o38_17 {x0 : Int} (h0 : 0 ≤ x0) (h1 : x0 ≤ 3) (h2 : -2147483648 ≤ x0) (h3 : x0 ≤ 2147483647) : 40 * x0 ≤ 2147483647 := by omega
theorem o38_18 {x0 x1 x2 x3 x4 x5 x7 : Int} {x6 : Nat} (h0 : 0 ≤ x2) (h1 : x2 ≤ 3) (h2 : 3 ≤ x3) (h3 : x3 ≤ 3) (h4 : 3 ≤ x4) (h5 : x4 ≤ 4) (h6 : 0 ≤ x5) (h7 : x5 ≤ 40) (h8 : x5 = x4) (h9 : ¬ x3 = x5) (h10 : 0 ≤ x1) (h11 : x1 ≤ 4) (h12 : 4 - x1 < ((x6 + 1 : Nat) : Int)) (h13 : 0 ≤ x7) (h14 : x7 ≤ 40) (h15 : x7 = x4) (h16 : x1 < x7) (h17 : x0 = 40 * x2) (h18 : -2147483648 ≤ x0) (h19 : x0 ≤ 2147483647) (h20 : -2147483648 ≤ x1) (h21 : x1 ≤ 2147483647) (h22 : -2147483648 ≤ x2) (h23 : x2 ≤ 2147483647) (h24 : -2147483648 ≤ x3) (h25 : x3 ≤ 2147483647) (h26 : -2147483648 ≤ x4) (h27 : x4 ≤ 2147483647) (h28 : -2147483648 ≤ x5) (h29 : x5 ≤ 2147483647) (h30 : -2147483648 ≤ x7) (h31 : x7 ≤ 2147483647) : -2147483648 ≤ x0 + x1 := by omega
theorem o38_19 {x0 x1 x2 x3 x4 x5 x7 : Int} {x6 : Nat} (h0 : 0 ≤ x2) (h1 : x2 ≤ 3) (h2 : 3 ≤ x3) (h3 : x3 ≤ 3) (h4 : 3 ≤ x4) (h5 : x4 ≤ 4) (h6 : 0 ≤ x5) (h7 : x5 ≤ 40) (h8 : x5 = x4) (h9 : ¬ x3 = x5) (h10 : 0 ≤ x1) (h11 : x1 ≤ 4) (h12 : 4 - x1 < ((x6 + 1 : Nat) : Int)) (h13 : 0 ≤ x7) (h14 : x7 ≤ 40) (h15 : x7 = x4) (h16 : x1 < x7) (h17 : x0 = 40 * x2) (h18 : -2147483648 ≤ x0) (h19 : x0 ≤ 2147483647) (h20 : -2147483648 ≤ x1) (h21 : x1 ≤ 2147483647) (h22 : -2147483648 ≤ x2) (h23 : x2 ≤ 2147483647) (h24 : -2147483648 ≤ x3) (h25 : x3 ≤ 2147483647) (h26 : -2147483648 ≤ x4) (h27 : x4 ≤ 2147483647) (h28 : -2147483648 ≤ x5) (h29 : x5 ≤ 2147483647) (h30 : -2147483648 ≤ x7) (h31 : x7 ≤ 2147483647) : x0 + x1 ≤ 2147483647 := by omega
theorem o38_20 {x0 x1 x2 x3 x4 x5 x7 x8 : Int} {x6 : Nat} (h0 : 0 ≤ x1) (h1 : x1 ≤ 3) (h2 : 3 ≤ x2) (h3 : x2 ≤ 3) (h4 : 3 ≤ x3) (h5 : x3 ≤ 4) (h6 : 0 ≤ x4) (h7 : x4 ≤ 40) (h8 : x4 = x3) (h9 : ¬ x2 = x4) (h10 : 0 ≤ x5) (h11 : x5 ≤ 4) (h12 : 4 - x5 < ((x6 + 1 : Nat) : Int)) (h13 : 0 ≤ x7) (h14 : x7 ≤ 40) (h15 : x7 = x3) (h16 : x5 < x7) (h17 : x8 = 40 * x1) (h18 : x0 = x8 + x5) : 0 ≤ x0 := by omega
theorem o38_21 {x0 x1 x2 x3 x4 x5 x7 x8 : Int} {x6 : Nat} (h0 : 0 ≤ x1) (h1 : x1 ≤ 3) (h2 : 3 ≤ x2) (h3 : x2 ≤ 3) (h4 : 3 ≤ x3) (h5 : x3 ≤ 4) (h6 : 0 ≤ x4) (h7 : x4 ≤ 40) (h8 : x4 = x3) (h9 : ¬ x2 = x4) (h10 : 0 ≤ x5) (h11 : x5 ≤ 4) (h12 : 4 - x5 < ((x6 + 1 : Nat) : Int)) (h13 : 0 ≤ x7) (h14 : x7 ≤ 40) (h15 : x7 = x3) (h16 : x5 < x7) (h17 : x8 = 40 * x1) (h18 : x0 = x8 + x5) : x0 < (160 : Nat) := by omega
theorem o38_22 {x0 x1 x2 x3 x4 x6 x7 x8 : Int} {x5 : Nat} (h0 : 0 ≤ x2) (h1 : x2 ≤ 3) (h2 : 3 ≤ x3) (h3 : x3 ≤ 3) (h4 : 3 ≤ x1) (h5 : x1 ≤ 4) (h6 : 0 ≤ x4) (h7 : x4 ≤ 40) (h8 : x4 = x1) (h9 : ¬ x3 = x4) (h10 : 0 ≤ x0) (h11 : x0 ≤ 4) (h12 : 4 - x0 < ((x5 + 1 : Nat) : Int)) (h13 : 0 ≤ x6) (h14 : x6 ≤ 40) (h15 : x6 = x1) (h16 : x0 < x6) (h17 : x7 = 40 * x2) (h18 : x8 = x7 + x0) : (x0).toNat < (x1).toNat := by omega
theorem o38_23 {x0 x1 x2 x3 x4 x5 x7 x8 : Int} {x6 : Nat} (h0 : 0 ≤ x1) (h1 : x1 ≤ 3) (h2 : 3 ≤ x3) (h3 : x3 ≤ 3) (h4 : 3 ≤ x4) (h5 : x4 ≤ 4) (h6 : 0 ≤ x5) (h7 : x5 ≤ 40) (h8 : x5 = x4) (h9 : ¬ x3 = x5) (h10 : 0 ≤ x2) (h11 : x2 ≤ 4) (h12 : 4 - x2 < ((x6 + 1 : Nat) : Int)) (h13 : 0 ≤ x7) (h14 : x7 ≤ 40) (h15 : x7 = x4) (h16 : x2 < x7) (h17 : x8 = 40 * x1) (h18 : x0 = x8 + x2) : (x0).toNat = 40 * (x1).toNat + (x2).toNat := by omega
theorem o38_24 {x0 : Int} (h0 : 0 ≤ x0) (h1 : x0 ≤ 24) : -2147483648 ≤ x0 := by omega
theorem o38_25 {x0 : Int} (h0 : 0 ≤ x0) (h1 : x0 ≤ 24) : x0 ≤ 2147483647 := by omega
theorem o38_26 {x0 : Int} (h0 : 0 ≤ x0) (h1 : x0 ≤ 99) : 0 ≤ x0 := by omega
theorem o38_27 {x0 : Int} (h0 : 0 ≤ x0) (h1 : x0 ≤ 99) : x0 ≤ 99 := by omega
theorem o38_28 {x0 x1 : Int} (h0 : 0 ≤ x1) (h1 : x1 ≤ 24) (h2 : x0 = x1) : 0 ≤ x0 := by omega
theorem o38_29 {x0 x1 : Int} (h0 : 0 ≤ x1) (h1 : x1 ≤ 24) (h2 : x0 = x1) : x0 ≤ 24 := by omega
theorem o38_30 {x0 x1 x2 x3 x4 x6 x7 x8 : Int} {x5 : Nat} (h0 : 0 ≤ x1) (h1 : x1 ≤ 3) (h2 : 3 ≤ x0) (h3 : x0 ≤ 3) (h4 : 3 ≤ x2) (h5 : x2 ≤ 4) (h6 : 0 ≤ x3) (h7 : x3 ≤ 40) (h8 : x3 = x2) (h9 : ¬ x0 = x3) (h10 : 0 ≤ x4) (h11 : x4 ≤ 4) (h12 : 4 - x4 < ((x5 + 1 : Nat) : Int)) (h13 : 0 ≤ x6) (h14 : x6 ≤ 40) (h15 : x6 = x2) (h16 : x4 < x6) (h17 : x7 = 40 * x1) (h18 : x8 = x7 + x4) : 0 ≤ x0 := by omega
theorem o38_31 {x0 x1 x2 x3 x4 x6 x7 x8 : Int} {x5 : Nat} (h0 : 0 ≤ x1) (h1 : x1 ≤ 3) (h2 : 3 ≤ x0) (h3 : x0 ≤ 3) (h4 : 3 ≤ x2) (h5 : x2 ≤ 4) (h6 : 0 ≤ x3) (h7 : x3 ≤ 40) (h8 : x3 = x2) (h9 : ¬ x0 = x3) (h10 : 0 ≤ x4) (h11 : x4 ≤ 4) (h12 : 4 - x4 < ((x5 + 1 : Nat) : Int)) (h13 : 0 ≤ x6) (h14 : x6 ≤ 40) (h15 : x6 = x2) (h16 : x4 < x6) (h17 : x7 = 40 * x1) (h18 : x8 = x7 + x4) : x0 < (4 : Nat) := by omega
theorem o38_32 {x0 x1 x2 x3 x4 x6 x7 x8 : Int} {x5 : Nat} (h0 : 0 ≤ x1) (h1 : x1 ≤ 3) (h2 : 3 ≤ x0) (h3 : x0 ≤ 3) (h4 : 3 ≤ x2) (h5 : x2 ≤ 4) (h6 : 0 ≤ x3) (h7 : x3 ≤ 40) (h8 : x3 = x2) (h9 : ¬ x0 = x3) (h10 : 0 ≤ x4) (h11 : x4 ≤ 4) (h12 : 4 - x4 < ((x5 + 1 : Nat) : Int)) (h13 : 0 ≤ x6) (h14 : x6 ≤ 40) (h15 : x6 = x2) (h16 : x4 < x6) (h17 : x7 = 40 * x1) (h18 : x8 = x7 + x4) : x0 = ((3 : Nat) : Int) := by omega
theorem o38_33 {x0 x1 x2 x3 x4 x5 x7 x8 x9 : Int} {x6 : Nat} (h0 : 0 ≤ x2) (h1 : x2 ≤ 3) (h2 : 3 ≤ x0) (h3 : x0 ≤ 3) (h4 : 3 ≤ x3) (h5 : x3 ≤ 4) (h6 : 0 ≤ x4) (h7 : x4 ≤ 40) (h8 : x4 = x3) (h9 : ¬ x0 = x4) (h10 : 0 ≤ x5) (h11 : x5 ≤ 4) (h12 : 4 - x5 < ((x6 + 1 : Nat) : Int)) (h13 : 0 ≤ x7) (h14 : x7 ≤ 40) (h15 : x7 = x3) (h16 : x5 < x7) (h17 : x8 = 40 * x2) (h18 : x9 = x8 + x5) (h19 : x1 = 1) (h20 : -2147483648 ≤ x0) (h21 : x0 ≤ 2147483647) (h22 : -2147483648 ≤ x1) (h23 : x1 ≤ 2147483647) (h24 : -2147483648 ≤ x2) (h25 : x2 ≤ 2147483647) (h26 : -2147483648 ≤ x3) (h27 : x3 ≤ 2147483647) (h28 : -2147483648 ≤ x4) (h29 : x4 ≤ 2147483647) (h30 : -2147483648 ≤ x5) (h31 : x5 ≤ 2147483647) (h32 : -2147483648 ≤ x7) (h33 : x7 ≤ 2147483647) (h34 : -2147483648 ≤ x8) (h35 : x8 ≤ 2147483647) (h36 : -2147483648 ≤ x9) (h37 : x9 ≤ 2147483647) : -2147483648 ≤ x0 + x1 := by omega
theorem o38_34 {x0 x1 x2 x3 x4 x5 x7 x8 x9 : Int} {x6 : Nat} (h0 : 0 ≤ x2) (h1 : x2 ≤ 3) (h2 : 3 ≤ x0) (h3 : x0 ≤ 3) (h4 : 3 ≤ x3) (h5 : x3 ≤ 4) (h6 : 0 ≤ x4) (h7 : x4 ≤ 40) (h8 : x4 = x3) (h9 : ¬ x0 = x4) (h10 : 0 ≤ x5) (h11 : x5 ≤ 4) (h12 : 4 - x5 < ((x6 + 1 : Nat) : Int)) (h13 : 0 ≤ x7) (h14 : x7 ≤ 40) (h15 : x7 = x3) (h16 : x5 < x7) (h17 : x8 = 40 * x2) (h18 : x9 = x8 + x5) (h19 : x1 = 1) (h20 : -2147483648 ≤ x0) (h21 : x0 ≤ 2147483647) (h22 : -2147483648 ≤ x1) (h23 : x1 ≤ 2147483647) (h24 : -2147483648 ≤ x2) (h25 : x2 ≤ 2147483647) (h26 : -2147483648 ≤ x3) (h27 : x3 ≤ 2147483647) (h28 : -2147483648 ≤ x4) (h29 : x4 ≤ 2147483647) (h30 : -2147483648 ≤ x5) (h31 : x5 ≤ 2147483647) (h32 : -2147483648 ≤ x7) (h33 : x7 ≤ 2147483647) (h34 : -2147483648 ≤ x8) (h35 : x8 ≤ 2147483647) (h36 : -2147483648 ≤ x9) (h37 : x9 ≤ 2147483647) : x0 + x1 ≤ 2147483647 := by omega
theorem o38_35 {x0 x1 x2 x3 x4 x6 x7 x8 x9 x10 : Int} {x5 : Nat} (h0 : 0 ≤ x0) (h1 : x0 ≤ 3) (h2 : 3 ≤ x1) (h3 : x1 ≤ 3) (h4 : 3 ≤ x2) (h5 : x2 ≤ 4) (h6 : 0 ≤ x3) (h7 : x3 ≤ 40) (h8 : x3 = x2) (h9 : ¬ x1 = x3) (h10 : 0 ≤ x4) (h11 : x4 ≤ 4) (h12 : 4 - x4 < ((x5 + 1 : Nat) : Int)) (h13 : 0 ≤ x6) (h14 : x6 ≤ 40) (h15 : x6 = x2) (h16 : x4 < x6) (h17 : x7 = 40 * x0) (h18 : x8 = x7 + x4) (h19 : x9 = 1) (h20 : x10 = x1 + x9) : 0 ≤ x0 := by omega
theorem o38_36 {x0 x1 x2 x3 x4 x6 x7 x8 x9 x10 : Int} {x5 : Nat} (h0 : 0 ≤ x0) (h1 : x0 ≤ 3) (h2 : 3 ≤ x1) (h3 : x1 ≤ 3) (h4 : 3 ≤ x2) (h5 : x2 ≤ 4) (h6 : 0 ≤ x3) (h7 : x3 ≤ 40) (h8 : x3 = x2) (h9 : ¬ x1 = x3) (h10 : 0 ≤ x4) (h11 : x4 ≤ 4) (h12 : 4 - x4 < ((x5 + 1 : Nat) : Int)) (h13 : 0 ≤ x6) (h14 : x6 ≤ 40) (h15 : x6 = x2) (h16 : x4 < x6) (h17 : x7 = 40 * x0) (h18 : x8 = x7 + x4) (h19 : x9 = 1) (h20 : x10 = x1 + x9) : x0 ≤ 3 := by omega
theorem o38_37 {x0 x1 x2 x3 x4 x5 x7 x8 x9 x10 : Int} {x6 : Nat} (h0 : 0 ≤ x1) (h1 : x1 ≤ 3) (h2 : 3 ≤ x2) (h3 : x2 ≤ 3) (h4 : 3 ≤ x3) (h5 : x3 ≤ 4) (h6 : 0 ≤ x4) (h7 : x4 ≤ 40) (h8 : x4 = x3) (h9 : ¬ x2 = x4) (h10 : 0 ≤ x5) (h11 : x5 ≤ 4) (h12 : 4 - x5 < ((x6 + 1 : Nat) : Int)) (h13 : 0 ≤ x7) (h14 : x7 ≤ 40) (h15 : x7 = x3) (h16 : x5 < x7) (h17 : x8 = 40 * x1) (h18 : x9 = x8 + x5) (h19 : x10 = 1) (h20 : x0 = x2 + x10) : 4 ≤ x0 := by omega
theorem o38_38 {x0 x1 x2 x3 x4 x5 x7 x8 x9 x10 : Int} {x6 : Nat} (h0 : 0 ≤ x1) (h1 : x1 ≤ 3) (h2 : 3 ≤ x2) (h3 : x2 ≤ 3) (h4 : 3 ≤ x3) (h5 : x3 ≤ 4) (h6 : 0 ≤ x4) (h7 : x4 ≤ 40) (h8 : x4 = x3) (h9 : ¬ x2 = x4) (h10 : 0 ≤ x5) (h11 : x5 ≤ 4) (h12 : 4 - x5 < ((x6 + 1 : Nat) : Int)) (h13 : 0 ≤ x7) (h14 : x7 ≤ 40) (h15 : x7 = x3) (h16 : x5 < x7) (h17 : x8 = 40 * x1) (h18 : x9 = x8 + x5) (h19 : x10 = 1) (h20 : x0 = x2 + x10) : x0 ≤ 4 := by omega
theorem o38_39 {x0 x1 x2 x3 x4 x6 x7 x8 x9 x10 : Int} {x5 : Nat} (h0 : 0 ≤ x1) (h1 : x1 ≤ 3) (h2 : 3 ≤ x2) (h3 : x2 ≤ 3) (h4 : 3 ≤ x0) (h5 : x0 ≤ 4) (h6 : 0 ≤ x3) (h7 : x3 ≤ 40) (h8 : x3 = x0) (h9 : ¬ x2 = x3) (h10 : 0 ≤ x4) (h11 : x4 ≤ 4) (h12 : 4 - x4 < ((x5 + 1 : Nat) : Int)) (h13 : 0 ≤ x6) (h14 : x6 ≤ 40) (h15 : x6 = x0) (h16 : x4 < x6) (h17 : x7 = 40 * x1) (h18 : x8 = x7 + x4) (h19 : x9 = 1) (h20 : x10 = x2 + x9) : 4 ≤ x0 := by omega
theorem o38_40 {x0 x1 x2 x3 x4 x6 x7 x8 x9 x10 : Int} {x5 : Nat} (h0 : 0 ≤ x1) (h1 : x1 ≤ 3) (h2 : 3 ≤ x2) (h3 : x2 ≤ 3) (h4 : 3 ≤ x0) (h5 : x0 ≤ 4) (h6 : 0 ≤ x3) (h7 : x3 ≤ 40) (h8 : x3 = x0) (h9 : ¬ x2 = x3) (h10 : 0 ≤ x4) (h11 : x4 ≤ 4) (h12 : 4 - x4 < ((x5 + 1 : Nat) : Int)) (h13 : 0 ≤ x6) (h14 : x6 ≤ 40) (h15 : x6 = x0) (h16 : x4 < x6) (h17 : x7 = 40 * x1) (h18 : x8 = x7 + x4) (h19 : x9 = 1) (h20 : x10 = x2 + x9) : x0 ≤ 4 := by omega
theorem o38_41 {x0 x1 x2 x3 x4 x6 x7 x8 x9 x10 : Int} {x5 : Nat} (h0 : 0 ≤ x1) (h1 : x1 ≤ 3) (h2 : 3 ≤ x2) (h3 : x2 ≤ 3) (h4 : 3 ≤ x3) (h5 : x3 ≤ 4) (h6 : 0 ≤ x4) (h7 : x4 ≤ 40) (h8 : x4 = x3) (h9 : ¬ x2 = x4) (h10 : 0 ≤ x0) (h11 : x0 ≤ 4) (h12 : 4 - x0 < ((x5 + 1 : Nat) : Int)) (h13 : 0 ≤ x6) (h14 : x6 ≤ 40) (h15 : x6 = x3) (h16 : x0 < x6) (h17 : x7 = 40 * x1) (h18 : x8 = x7 + x0) (h19 : x9 = 1) (h20 : x10 = x2 + x9) (h21 : -2147483648 ≤ x0) (h22 : x0 ≤ 2147483647) (h23 : -2147483648 ≤ x1) (h24 : x1 ≤ 2147483647) (h25 : -2147483648 ≤ x2) (h26 : x2 ≤ 2147483647) (h27 : -2147483648 ≤ x3) (h28 : x3 ≤ 2147483647) (h29 : -2147483648 ≤ x4) (h30 : x4 ≤ 2147483647) (h31 : -2147483648 ≤ x6) (h32 : x6 ≤ 2147483647) (h33 : -2147483648 ≤ x7) (h34 : x7 ≤ 2147483647) (h35 : -2147483648 ≤ x8) (h36 : x8 ≤ 2147483647) (h37 : -2147483648 ≤ x9) (h38 : x9 ≤ 2147483647) (h39 : -2147483648 ≤ x10) (h40 : x10 ≤ 2147483647) : -2147483648 ≤ x0 + 1 := by omega
theorem o38_42 {x0 x1 x2 x3 x4 x6 x7 x8 x9 x10 : Int} {x5 : Nat} (h0 : 0 ≤ x1) (h1 : x1 ≤ 3) (h2 : 3 ≤ x2) (h3 : x2 ≤ 3) (h4 : 3 ≤ x3) (h5 : x3 ≤ 4) (h6 : 0 ≤ x4) (h7 : x4 ≤ 40) (h8 : x4 = x3) (h9 : ¬ x2 = x4) (h10 : 0 ≤ x0) (h11 : x0 ≤ 4) (h12 : 4 - x0 < ((x5 + 1 : Nat) : Int)) (h13 : 0 ≤ x6) (h14 : x6 ≤ 40) (h15 : x6 = x3) (h16 : x0 < x6) (h17 : x7 = 40 * x1) (h18 : x8 = x7 + x0) (h19 : x9 = 1) (h20 : x10 = x2 + x9) (h21 : -2147483648 ≤ x0) (h22 : x0 ≤ 2147483647) (h23 : -2147483648 ≤ x1) (h24 : x1 ≤ 2147483647) (h25 : -2147483648 ≤ x2) (h26 : x2 ≤ 2147483647) (h27 : -2147483648 ≤ x3) (h28 : x3 ≤ 2147483647) (h29 : -2147483648 ≤ x4) (h30 : x4 ≤ 2147483647) (h31 : -2147483648 ≤ x6) (h32 : x6 ≤ 2147483647) (h33 : -2147483648 ≤ x7) (h34 : x7 ≤ 2147483647) (h35 : -2147483648 ≤ x8) (h36 : x8 ≤ 2147483647) (h37 : -2147483648 ≤ x9) (h38 : x9 ≤ 2147483647) (h39 : -2147483648 ≤ x10) (h40 : x10 ≤ 2147483647) : x0 + 1 ≤ 2147483647 := by omega
theorem o38_43 {x0 x2 x3 x4 x5 x6 x7 x8 x9 x10 x11 : Int} {x1 : Nat} (h0 : 0 ≤ x2) (h1 : x2 ≤ 3) (h2 : 3 ≤ x3) (h3 : x3 ≤ 3) (h4 : 3 ≤ x4) (h5 : x4 ≤ 4) (h6 : 0 ≤ x5) (h7 : x5 ≤ 40) (h8 : x5 = x4) (h9 : ¬ x3 = x5) (h10 : 0 ≤ x6) (h11 : x6 ≤ 4) (h12 : 4 - x6 < ((x1 + 1 : Nat) : Int)) (h13 : 0 ≤ x7) (h14 : x7 ≤ 40) (h15 : x7 = x4) (h16 : x6 < x7) (h17 : x8 = 40 * x2) (h18 : x9 = x8 + x6) (h19 : x10 = 1) (h20 : x11 = x3 + x10) (h21 : x0 = x6 + 1) : 4 - x0 < (x1 : Int) := by omega
theorem o38_44 {x0 x1 x2 x3 x4 x5 x7 x8 x9 x10 x11 : Int} {x6 : Nat} (h0 : 0 ≤ x1) (h1 : x1 ≤ 3) (h2 : 3 ≤ x2) (h3 : x2 ≤ 3) (h4 : 3 ≤ x3) (h5 : x3 ≤ 4) (h6 : 0 ≤ x4) (h7 : x4 ≤ 40) (h8 : x4 = x3) (h9 : ¬ x2 = x4) (h10 : 0 ≤ x5) (h11 : x5 ≤ 4) (h12 : 4 - x5 < ((x6 + 1 : Nat) : Int)) (h13 : 0 ≤ x7) (h14 : x7 ≤ 40) (h15 : x7 = x3) (h16 : x5 < x7) (h17 : x8 = 40 * x1) (h18 : x9 = x8 + x5) (h19 : x10 = 1) (h20 : x11 = x2 + x10) (h21 : x0 = x5 + 1) : 0 ≤ x0 := by omega
theorem o38_45 {x0 x1 x2 x3 x4 x5 x7 x8 x9 x10 x11 : Int} {x6 : Nat} (h0 : 0 ≤ x1) (h1 : x1 ≤ 3) (h2 : 3 ≤ x2) (h3 : x2 ≤ 3) (h4 : 3 ≤ x3) (h5 : x3 ≤ 4) (h6 : 0 ≤ x4) (h7 : x4 ≤ 40) (h8 : x4 = x3) (h9 : ¬ x2 = x4) (h10 : 0 ≤ x5) (h11 : x5 ≤ 4) (h12 : 4 - x5 < ((x6 + 1 : Nat) : Int)) (h13 : 0 ≤ x7) (h14 : x7 ≤ 40) (h15 : x7 = x3) (h16 : x5 < x7) (h17 : x8 = 40 * x1) (h18 : x9 = x8 + x5) (h19 : x10 = 1) (h20 : x11 = x2 + x10) (h21 : x0 = x5 + 1) : x0 ≤ 4 := by omega
theorem o38_46 {x0 x1 x2 x3 x4 x6 x7 x8 : Int} {x5 : Nat} (h0 : 0 ≤ x1) (h1 : x1 ≤ 3) (h2 : 3 ≤ x2) (h3 : x2 ≤ 3) (h4 : 3 ≤ x3) (h5 : x3 ≤ 4) (h6 : 0 ≤ x4) (h7 : x4 ≤ 40) (h8 : x4 = x3) (h9 : ¬ x2 = x4) (h10 : 0 ≤ x0) (h11 : x0 ≤ 4) (h12 : 4 - x0 < ((x5 + 1 : Nat) : Int)) (h13 : 0 ≤ x6) (h14 : x6 ≤ 40) (h15 : x6 = x3) (h16 : x0 < x6) (h17 : x7 = 40 * x1) (h18 : x8 = x7 + x0) (h19 : -2147483648 ≤ x0) (h20 : x0 ≤ 2147483647) (h21 : -2147483648 ≤ x1) (h22 : x1 ≤ 2147483647) (h23 : -2147483648 ≤ x2) (h24 : x2 ≤ 2147483647) (h25 : -2147483648 ≤ x3) (h26 : x3 ≤ 2147483647) (h27 : -2147483648 ≤ x4) (h28 : x4 ≤ 2147483647) (h29 : -2147483648 ≤ x6) (h30 : x6 ≤ 2147483647) (h31 : -2147483648 ≤ x7) (h32 : x7 ≤ 2147483647) (h33 : -2147483648 ≤ x8) (h34 : x8 ≤ 2147483647) : -2147483648 ≤ x0 + 1 := by omega
theorem o38_47 {x0 x1 x2 x3 x4 x6 x7 x8 : Int} {x5 : Nat} (h0 : 0 ≤ x1) (h1 : x1 ≤ 3) (h2 : 3 ≤ x2) (h3 : x2 ≤ 3) (h4 : 3 ≤ x3) (h5 : x3 ≤ 4) (h6 : 0 ≤ x4) (h7 : x4 ≤ 40) (h8 : x4 = x3) (h9 : ¬ x2 = x4) (h10 : 0 ≤ x0) (h11 : x0 ≤ 4) (h12 : 4 - x0 < ((x5 + 1 : Nat) : Int)) (h13 : 0 ≤ x6) (h14 : x6 ≤ 40) (h15 : x6 = x3) (h16 : x0 < x6) (h17 : x7 = 40 * x1) (h18 : x8 = x7 + x0) (h19 : -2147483648 ≤ x0) (h20 : x0 ≤ 2147483647) (h21 : -2147483648 ≤ x1) (h22 : x1 ≤ 2147483647) (h23 : -2147483648 ≤ x2) (h24 : x2 ≤ 2147483647) (h25 : -2147483648 ≤ x3) (h26 : x3 ≤ 2147483647) (h27 : -2147483648 ≤ x4) (h28 : x4 ≤ 2147483647) (h29 : -2147483648 ≤ x6) (h30 : x6 ≤ 2147483647) (h31 : -2147483648 ≤ x7) (h32 : x7 ≤ 2147483647) (h33 : -2147483648 ≤ x8) (h34 : x8 ≤ 2147483647) : x0 + 1 ≤ 2147483647 := by omega
theorem o38_48 {x0 x2 x3 x4 x5 x6 x7 x8 x9 : Int} {x1 : Nat} (h0 : 0 ≤ x2) (h1 : x2 ≤ 3) (h2 : 3 ≤ x3) (h3 : x3 ≤ 3) (h4 : 3 ≤ x4) (h5 : x4 ≤ 4) (h6 : 0 ≤ x5) (h7 : x5 ≤ 40) (h8 : x5 = x4) (h9 : ¬ x3 = x5) (h10 : 0 ≤ x6) (h11 : x6 ≤ 4) (h12 : 4 - x6 < ((x1 + 1 : Nat) : Int)) (h13 : 0 ≤ x7) (h14 : x7 ≤ 40) (h15 : x7 = x4) (h16 : x6 < x7) (h17 : x8 = 40 * x2) (h18 : x9 = x8 + x6) (h19 : x0 = x6 + 1) : 4 - x0 < (x1 : Int) := by omega
theorem o38_49 {x0 x1 x2 x3 x4 x5 x7 x8 x9 : Int} {x6 : Nat} (h0 : 0 ≤ x1) (h1 : x1 ≤ 3) (h2 : 3 ≤ x2) (h3 : x2 ≤ 3) (h4 : 3 ≤ x3) (h5 : x3 ≤ 4) (h6 : 0 ≤ x4) (h7 : x4 ≤ 40) (h8 : x4 = x3) (h9 : ¬ x2 = x4) (h10 : 0 ≤ x5) (h11 : x5 ≤ 4) (h12 : 4 - x5 < ((x6 + 1 : Nat) : Int)) (h13 : 0 ≤ x7) (h14 : x7 ≤ 40) (h15 : x7 = x3) (h16 : x5 < x7) (h17 : x8 = 40 * x1) (h18 : x9 = x8 + x5) (h19 : x0 = x5 + 1) : 0 ≤ x0 := by omega
theorem o38_50 {x0 x1 x2 x3 x4 x5 x7 x8 x9 : Int} {x6 : Nat} (h0 : 0 ≤ x1) (h1 : x1 ≤ 3) (h2 : 3 ≤ x2) (h3 : x2 ≤ 3) (h4 : 3 ≤ x3) (h5 : x3 ≤ 4) (h6 : 0 ≤ x4) (h7 : x4 ≤ 40) (h8 : x4 = x3) (h9 : ¬ x2 = x4) (h10 : 0 ≤ x5) (h11 : x5 ≤ 4) (h12 : 4 - x5 < ((x6 + 1 : Nat) : Int)) (h13 : 0 ≤ x7) (h14 : x7 ≤ 40) (h15 : x7 = x3) (h16 : x5 < x7) (h17 : x8 = 40 * x1) (h18 : x9 = x8 + x5) (h19 : x0 = x5 + 1) : x0 ≤ 4 := by omega
theorem o38_51 {x0 x1 x2 x3 x5 : Int} {x4 : Nat} (h0 : 3 ≤ x1) (h1 : x1 ≤ 3) (h2 : 3 ≤ x2) (h3 : x2 ≤ 4) (h4 : 0 ≤ x3) (h5 : x3 ≤ 40) (h6 : x3 = x2) (h7 : ¬ x1 = x3) (h8 : 0 ≤ x0) (h9 : x0 ≤ 4) (h10 : 4 - x0 < ((x4 + 1 : Nat) : Int)) (h11 : 0 ≤ x5) (h12 : x5 ≤ 40) (h13 : x5 = x2) (h14 : x0 < x5) (h15 : -2147483648 ≤ x0) (h16 : x0 ≤ 2147483647) (h17 : -2147483648 ≤ x1) (h18 : x1 ≤ 2147483647) (h19 : -2147483648 ≤ x2) (h20 : x2 ≤ 2147483647) (h21 : -2147483648 ≤ x3) (h22 : x3 ≤ 2147483647) (h23 : -2147483648 ≤ x5) (h24 : x5 ≤ 2147483647) : -2147483648 ≤ x0 + 1 := by omega
theorem o38_52 {x0 x1 x2 x3 x5 : Int} {x4 : Nat} (h0 : 3 ≤ x1) (h1 : x1 ≤ 3) (h2 : 3 ≤ x2) (h3 : x2 ≤ 4) (h4 : 0 ≤ x3) (h5 : x3 ≤ 40) (h6 : x3 = x2) (h7 : ¬ x1 = x3) (h8 : 0 ≤ x0) (h9 : x0 ≤ 4) (h10 : 4 - x0 < ((x4 + 1 : Nat) : Int)) (h11 : 0 ≤ x5) (h12 : x5 ≤ 40) (h13 : x5 = x2) (h14 : x0 < x5) (h15 : -2147483648 ≤ x0) (h16 : x0 ≤ 2147483647) (h17 : -2147483648 ≤ x1) (h18 : x1 ≤ 2147483647) (h19 : -2147483648 ≤ x2) (h20 : x2 ≤ 2147483647) (h21 : -2147483648 ≤ x3) (h22 : x3 ≤ 2147483647) (h23 : -2147483648 ≤ x5) (h24 : x5 ≤ 2147483647) : x0 + 1 ≤ 2147483647 := by omega
theorem o38_53 {x0 x2 x3 x4 x5 x6 : Int} {x1 : Nat} (h0 : 3 ≤ x2) (h1 : x2 ≤ 3) (h2 : 3 ≤ x3) (h3 : x3 ≤ 4) (h4 : 0 ≤ x4) (h5 : x4 ≤ 40) (h6 : x4 = x3) (h7 : ¬ x2 = x4) (h8 : 0 ≤ x5) (h9 : x5 ≤ 4) (h10 : 4 - x5 < ((x1 + 1 : Nat) : Int)) (h11 : 0 ≤ x6) (h12 : x6 ≤ 40) (h13 : x6 = x3) (h14 : x5 < x6) (h15 : x0 = x5 + 1) : 4 - x0 < (x1 : Int) := by omega
theorem o38_54 {x0 x1 x2 x3 x4 x6 : Int} {x5 : Nat} (h0 : 3 ≤ x1) (h1 : x1 ≤ 3) (h2 : 3 ≤ x2) (h3 : x2 ≤ 4) (h4 : 0 ≤ x3) (h5 : x3 ≤ 40) (h6 : x3 = x2) (h7 : ¬ x1 = x3) (h8 : 0 ≤ x4) (h9 : x4 ≤ 4) (h10 : 4 - x4 < ((x5 + 1 : Nat) : Int)) (h11 : 0 ≤ x6) (h12 : x6 ≤ 40) (h13 : x6 = x2) (h14 : x4 < x6) (h15 : x0 = x4 + 1) : 0 ≤ x0 := by omega
theorem o38_55 {x0 x1 x2 x3 x4 x6 : Int} {x5 : Nat} (h0 : 3 ≤ x1) (h1 : x1 ≤ 3) (h2 : 3 ≤ x2) (h3 : x2 ≤ 4) (h4 : 0 ≤ x3) (h5 : x3 ≤ 40) (h6 : x3 = x2) (h7 : ¬ x1 = x3) (h8 : 0 ≤ x4) (h9 : x4 ≤ 4) (h10 : 4 - x4 < ((x5 + 1 : Nat) : Int)) (h11 : 0 ≤ x6) (h12 : x6 ≤ 40) (h13 : x6 = x2) (h14 : x4 < x6) (h15 : x0 = x4 + 1) : x0 ≤ 4 := by omega
theorem o38_56 {x0 : Int} (h0 : 0 ≤ x0) (h1 : x0 ≤ 3) (h2 : 3 - x0 < 0) : False := by omega
theorem o38_57 {x0 x1 x2 x3 : Int} {x4 : Nat} (h0 : 3 ≤ x1) (h1 : x1 ≤ 3) (h2 : 3 ≤ x2) (h3 : x2 ≤ 4) (h4 : 0 ≤ x3) (h5 : x3 ≤ 40) (h6 : x3 = x2) (h7 : x1 = x3) (h8 : 0 ≤ x0) (h9 : x0 ≤ 3) (h10 : 3 - x0 < ((x4 + 1 : Nat) : Int)) (h11 : x0 < x1) : 0 ≤ x0 := by omega
theorem o38_58 {x0 x1 x2 x3 : Int} {x4 : Nat} (h0 : 3 ≤ x1) (h1 : x1 ≤ 3) (h2 : 3 ≤ x2) (h3 : x2 ≤ 4) (h4 : 0 ≤ x3) (h5 : x3 ≤ 40) (h6 : x3 = x2) (h7 : x1 = x3) (h8 : 0 ≤ x0) (h9 : x0 ≤ 3) (h10 : 3 - x0 < ((x4 + 1 : Nat) : Int)) (h11 : x0 < x1) : x0 < (4 : Nat) := by omega
theorem o38_59 {x0 x1 x2 x3 : Int} {x4 : Nat} (h0 : 3 ≤ x1) (h1 : x1 ≤ 3) (h2 : 3 ≤ x2) (h3 : x2 ≤ 4) (h4 : 0 ≤ x3) (h5 : x3 ≤ 40) (h6 : x3 = x2) (h7 : x1 = x3) (h8 : 0 ≤ x0) (h9 : x0 ≤ 3) (h10 : 3 - x0 < ((x4 + 1 : Nat) : Int)) (h11 : x0 < x1) (h12 : -2147483648 ≤ x0) (h13 : x0 ≤ 2147483647) (h14 : -2147483648 ≤ x1) (h15 : x1 ≤ 2147483647) (h16 : -2147483648 ≤ x2) (h17 : x2 ≤ 2147483647) (h18 : -2147483648 ≤ x3) (h19 : x3 ≤ 2147483647) : -2147483648 ≤ x0 + 1 := by omega
theorem o38_60 {x0 x1 x2 x3 : Int} {x4 : Nat} (h0 : 3 ≤ x1) (h1 : x1 ≤ 3) (h2 : 3 ≤ x2) (h3 : x2 ≤ 4) (h4 : 0 ≤ x3) (h5 : x3 ≤ 40) (h6 : x3 = x2) (h7 : x1 = x3) (h8 : 0 ≤ x0) (h9 : x0 ≤ 3) (h10 : 3 - x0 < ((x4 + 1 : Nat) : Int)) (h11 : x0 < x1) (h12 : -2147483648 ≤ x0) (h13 : x0 ≤ 2147483647) (h14 : -2147483648 ≤ x1) (h15 : x1 ≤ 2147483647) (h16 : -2147483648 ≤ x2) (h17 : x2 ≤ 2147483647) (h18 : -2147483648 ≤ x3) (h19 : x3 ≤ 2147483647) : x0 + 1 ≤ 2147483647 := by omega
theorem o38_61 {x0 x2 x3 x4 x5 : Int} {x1 : Nat} (h0 : 3 ≤ x2) (h1 : x2 ≤ 3) (h2 : 3 ≤ x3) (h3 : x3 ≤ 4) (h4 : 0 ≤ x4) (h5 : x4 ≤ 40) (h6 : x4 = x3) (h7 : x2 = x4) (h8 : 0 ≤ x5) (h9 : x5 ≤ 3) (h10 : 3 - x5 < ((x1 + 1 : Nat) : Int)) (h11 : x5 < x2) (h12 : x0 = x5 + 1) : 3 - x0 < (x1 : Int) := by omega
theorem o38_62 {x0 x1 x2 x3 x4 : Int} {x5 : Nat} (h0 : 3 ≤ x1) (h1 : x1 ≤ 3) (h2 : 3 ≤ x2) (h3 : x2 ≤ 4) (h4 : 0 ≤ x3) (h5 : x3 ≤ 40) (h6 : x3 = x2) (h7 : x1 = x3) (h8 : 0 ≤ x4) (h9 : x4 ≤ 3) (h10 : 3 - x4 < ((x5 + 1 : Nat) : Int)) (h11 : x4 < x1) (h12 : x0 = x4 + 1) : 0 ≤ x0 := by omega
theorem o38_63 {x0 x1 x2 x3 x4 : Int} {x5 : Nat} (h0 : 3 ≤ x1) (h1 : x1 ≤ 3) (h2 : 3 ≤ x2) (h3 : x2 ≤ 4) (h4 : 0 ≤ x3) (h5 : x3 ≤ 40) (h6 : x3 = x2) (h7 : x1 = x3) (h8 : 0 ≤ x4) (h9 : x4 ≤ 3) (h10 : 3 - x4 < ((x5 + 1 : Nat) : Int)) (h11 : x4 < x1) (h12 : x0 = x4 + 1) : x0 ≤ 3 := by omega
theorem o38_64 {x0 : Int} (h0 : x0 = 0) : 3 - x0 < (((3 - x0 + 1).toNat : Nat) : Int) := by omega
theorem o38_65 {x0 : Int} (h0 : x0 = 0) : x0 ≤ 3 := by omega
theorem o38_66 {x0 x1 x2 x3 x4 x5 x7 : Int} {x6 : Nat} (h0 : 0 ≤ x2) (h1 : x2 ≤ 3) (h2 : 2 ≤ x3) (h3 : x3 ≤ 2) (h4 : 2 ≤ x4) (h5 : x4 ≤ 4) (h6 : 0 ≤ x5) (h7 : x5 ≤ 40) (h8 : x5 = x4) (h9 : ¬ x3 = x5) (h10 : 0 ≤ x1) (h11 : x1 ≤ 4) (h12 : 4 - x1 < ((x6 + 1 : Nat) : Int)) (h13 : 0 ≤ x7) (h14 : x7 ≤ 40) (h15 : x7 = x4) (h16 : x1 < x7) (h17 : x0 = 40 * x2) (h18 : -2147483648 ≤ x0) (h19 : x0 ≤ 2147483647) (h20 : -2147483648 ≤ x1) (h21 : x1 ≤ 2147483647) (h22 : -2147483648 ≤ x2) (h23 : x2 ≤ 2147483647) (h24 : -2147483648 ≤ x3) (h25 : x3 ≤ 2147483647) (h26 : -2147483648 ≤ x4) (h27 : x4 ≤ 2147483647) (h28 : -2147483648 ≤ x5) (h29 : x5 ≤ 2147483647) (h30 : -2147483648 ≤ x7) (h31 : x7 ≤ 2147483647) : -2147483648 ≤ x0 + x1 := by omega
theorem o38_67 {x0 x1 x2 x3 x4 x5 x7 : Int} {x6 : Nat} (h0 : 0 ≤ x2) (h1 : x2 ≤ 3) (h2 : 2 ≤ x3) (h3 : x3 ≤ 2) (h4 : 2 ≤ x4) (h5 : x4 ≤ 4) (h6 : 0 ≤ x5) (h7 : x5 ≤ 40) (h8 : x5 = x4) (h9 : ¬ x3 = x5) (h10 : 0 ≤ x1) (h11 : x1 ≤ 4) (h12 : 4 - x1 < ((x6 + 1 : Nat) : Int)) (h13 : 0 ≤ x7) (h14 : x7 ≤ 40) (h15 : x7 = x4) (h16 : x1 < x7) (h17 : x0 = 40 * x2) (h18 : -2147483648 ≤ x0) (h19 : x0 ≤ 2147483647) (h20 : -2147483648 ≤ x1) (h21 : x1 ≤ 2147483647) (h22 : -2147483648 ≤ x2) (h23 : x2 ≤ 2147483647) (h24 : -2147483648 ≤ x3) (h25 : x3 ≤ 2147483647) (h26 : -2147483648 ≤ x4) (h27 : x4 ≤ 2147483647) (h28 : -2147483648 ≤ x5) (h29 : x5 ≤ 2147483647) (h30 : -2147483648 ≤ x7) (h31 : x7 ≤ 2147483647) : x0 + x1 ≤ 2147483647 := by omega
theorem o38_68 {x0 x1 x2 x3 x4 x5 x7 x8 : Int} {x6 : Nat} (h0 : 0 ≤ x1) (h1 : x1 ≤ 3) (h2 : 2 ≤ x2) (h3 : x2 ≤ 2) (h4 : 2 ≤ x3) (h5 : x3 ≤ 4) (h6 : 0 ≤ x4) (h7 : x4 ≤ 40) (h8 : x4 = x3) (h9 : ¬ x2 = x4) (h10 : 0 ≤ x5) (h11 : x5 ≤ 4) (h12 : 4 - x5 < ((x6 + 1 : Nat) : Int)) (h13 : 0 ≤ x7) (h14 : x7 ≤ 40) (h15 : x7 = x3) (h16 : x5 < x7) (h17 : x8 = 40 * x1) (h18 : x0 = x8 + x5) : 0 ≤ x0 := by omega
theorem o38_69 {x0 x1 x2 x3 x4 x5 x7 x8 : Int} {x6 : Nat} (h0 : 0 ≤ x1) (h1 : x1 ≤ 3) (h2 : 2 ≤ x2) (h3 : x2 ≤ 2) (h4 : 2 ≤ x3) (h5 : x3 ≤ 4) (h6 : 0 ≤ x4) (h7 : x4 ≤ 40) (h8 : x4 = x3) (h9 : ¬ x2 = x4) (h10 : 0 ≤ x5) (h11 : x5 ≤ 4) (h12 : 4 - x5 < ((x6 + 1 : Nat) : Int)) (h13 : 0 ≤ x7) (h14 : x7 ≤ 40) (h15 : x7 = x3) (h16 : x5 < x7) (h17 : x8 = 40 * x1) (h18 : x0 = x8 + x5) : x0 < (160 : Nat) := by omega
theorem o38_70 {x0 x1 x2 x3 x4 x6 x7 x8 : Int} {x5 : Nat} (h0 : 0 ≤ x2) (h1 : x2 ≤ 3) (h2 : 2 ≤ x3) (h3 : x3 ≤ 2) (h4 : 2 ≤ x1) (h5 : x1 ≤ 4) (h6 : 0 ≤ x4) (h7 : x4 ≤ 40) (h8 : x4 = x1) (h9 : ¬ x3 = x4) (h10 : 0 ≤ x0) (h11 : x0 ≤ 4) (h12 : 4 - x0 < ((x5 + 1 : Nat) : Int)) (h13 : 0 ≤ x6) (h14 : x6 ≤ 40) (h15 : x6 = x1) (h16 : x0 < x6) (h17 : x7 = 40 * x2) (h18 : x8 = x7 + x0) : (x0).toNat < (x1).toNat := by omega
theorem o38_71 {x0 x1 x2 x3 x4 x5 x7 x8 : Int} {x6 : Nat} (h0 : 0 ≤ x1) (h1 : x1 ≤ 3) (h2 : 2 ≤ x3) (h3 : x3 ≤ 2) (h4 : 2 ≤ x4) (h5 : x4 ≤ 4) (h6 : 0 ≤ x5) (h7 : x5 ≤ 40) (h8 : x5 = x4) (h9 : ¬ x3 = x5) (h10 : 0 ≤ x2) (h11 : x2 ≤ 4) (h12 : 4 - x2 < ((x6 + 1 : Nat) : Int)) (h13 : 0 ≤ x7) (h14 : x7 ≤ 40) (h15 : x7 = x4) (h16 : x2 < x7) (h17 : x8 = 40 * x1) (h18 : x0 = x8 + x2) : (x0).toNat = 40 * (x1).toNat + (x2).toNat := by omega
theorem o38_72 {x0 x1 x2 x3 x4 x6 x7 x8 : Int} {x5 : Nat} (h0 : 0 ≤ x1) (h1 : x1 ≤ 3) (h2 : 2 ≤ x0) (h3 : x0 ≤ 2) (h4 : 2 ≤ x2) (h5 : x2 ≤ 4) (h6 : 0 ≤ x3) (h7 : x3 ≤ 40) (h8 : x3 = x2) (h9 : ¬ x0 = x3) (h10 : 0 ≤ x4) (h11 : x4 ≤ 4) (h12 : 4 - x4 < ((x5 + 1 : Nat) : Int)) (h13 : 0 ≤ x6) (h14 : x6 ≤ 40) (h15 : x6 = x2) (h16 : x4 < x6) (h17 : x7 = 40 * x1) (h18 : x8 = x7 + x4) : 0 ≤ x0 := by omega
theorem o38_73 {x0 x1 x2 x3 x4 x6 x7 x8 : Int} {x5 : Nat} (h0 : 0 ≤ x1) (h1 : x1 ≤ 3) (h2 : 2 ≤ x0) (h3 : x0 ≤ 2) (h4 : 2 ≤ x2) (h5 : x2 ≤ 4) (h6 : 0 ≤ x3) (h7 : x3 ≤ 40) (h8 : x3 = x2) (h9 : ¬ x0 = x3) (h10 : 0 ≤ x4) (h11 : x4 ≤ 4) (h12 : 4 - x4 < ((x5 + 1 : Nat) : Int)) (h13 : 0 ≤ x6) (h14 : x6 ≤ 40) (h15 : x6 = x2) (h16 : x4 < x6) (h17 : x7 = 40 * x1) (h18 : x8 = x7 + x4) : x0 < (4 : Nat) := by omega
theorem o38_74 {x0 x1 x2 x3 x4 x6 x7 x8 : Int} {x5 : Nat} (h0 : 0 ≤ x1) (h1 : x1 ≤ 3) (h2 : 2 ≤ x0) (h3 : x0 ≤ 2) (h4 : 2 ≤ x2) (h5 : x2 ≤ 4) (h6 : 0 ≤ x3) (h7 : x3 ≤ 40) (h8 : x3 = x2) (h9 : ¬ x0 = x3) (h10 : 0 ≤ x4) (h11 : x4 ≤ 4) (h12 : 4 - x4 < ((x5 + 1 : Nat) : Int)) (h13 : 0 ≤ x6) (h14 : x6 ≤ 40) (h15 : x6 = x2) (h16 : x4 < x6) (h17 : x7 = 40 * x1) (h18 : x8 = x7 + x4) : x0 = ((2 : Nat) : Int) := by omega
theorem o38_75 {x0 x1 x2 x3 x4 x5 x7 x8 x9 : Int} {x6 : Nat} (h0 : 0 ≤ x2) (h1 : x2 ≤ 3) (h2 : 2 ≤ x0) (h3 : x0 ≤ 2) (h4 : 2 ≤ x3) (h5 : x3 ≤ 4) (h6 : 0 ≤ x4) (h7 : x4 ≤ 40) (h8 : x4 = x3) (h9 : ¬ x0 = x4) (h10 : 0 ≤ x5) (h11 : x5 ≤ 4) (h12 : 4 - x5 < ((x6 + 1 : Nat) : Int)) (h13 : 0 ≤ x7) (h14 : x7 ≤ 40) (h15 : x7 = x3) (h16 : x5 < x7) (h17 : x8 = 40 * x2) (h18 : x9 = x8 + x5) (h19 : x1 = 1) (h20 : -2147483648 ≤ x0) (h21 : x0 ≤ 2147483647) (h22 : -2147483648 ≤ x1) (h23 : x1 ≤ 2147483647) (h24 : -2147483648 ≤ x2) (h25 : x2 ≤ 2147483647) (h26 : -2147483648 ≤ x3) (h27 : x3 ≤ 2147483647) (h28 : -2147483648 ≤ x4) (h29 : x4 ≤ 2147483647) (h30 : -2147483648 ≤ x5) (h31 : x5 ≤ 2147483647) (h32 : -2147483648 ≤ x7) (h33 : x7 ≤ 2147483647) (h34 : -2147483648 ≤ x8) (h35 : x8 ≤ 2147483647) (h36 : -2147483648 ≤ x9) (h37 : x9 ≤ 2147483647) : -2147483648 ≤ x0 + x1 := by omega
theorem o38_76 {x0 x1 x2 x3 x4 x5 x7 x8 x9 : Int} {x6 : Nat} (h0 : 0 ≤ x2) (h1 : x2 ≤ 3) (h2 : 2 ≤ x0) (h3 : x0 ≤ 2) (h4 : 2 ≤ x3) (h5 : x3 ≤ 4) (h6 : 0 ≤ x4) (h7 : x4 ≤ 40) (h8 : x4 = x3) (h9 : ¬ x0 = x4) (h10 : 0 ≤ x5) (h11 : x5 ≤ 4) (h12 : 4 - x5 < ((x6 + 1 : Nat) : Int)) (h13 : 0 ≤ x7) (h14 : x7 ≤ 40) (h15 : x7 = x3) (h16 : x5 < x7) (h17 : x8 = 40 * x2) (h18 : x9 = x8 + x5) (h19 : x1 = 1) (h20 : -2147483648 ≤ x0) (h21 : x0 ≤ 2147483647) (h22 : -2147483648 ≤ x1) (h23 : x1 ≤ 2147483647) (h24 : -2147483648 ≤ x2) (h25 : x2 ≤ 2147483647) (h26 : -2147483648 ≤ x3) (h27 : x3 ≤ 2147483647) (h28 : -2147483648 ≤ x4) (h29 : x4 ≤ 2147483647) (h30 : -2147483648 ≤ x5) (h31 : x5 ≤ 2147483647) (h32 : -2147483648 ≤ x7) (h33 : x7 ≤ 2147483647) (h34 : -2147483648 ≤ x8) (h35 : x8 ≤ 2147483647) (h36 : -2147483648 ≤ x9) (h37 : x9 ≤ 2147483647) : x0 + x1 ≤ 2147483647 := by omega
theorem o38_77 {x0 x1 x2 x3 x4 x6 x7 x8 x9 x10 : Int} {x5 : Nat} (h0 : 0 ≤ x0) (h1 : x0 ≤ 3) (h2 : 2 ≤ x1) (h3 : x1 ≤ 2) (h4 : 2 ≤ x2) (h5 : x2 ≤ 4) (h6 : 0 ≤ x3) (h7 : x3 ≤ 40) (h8 : x3 = x2) (h9 : ¬ x1 = x3) (h10 : 0 ≤ x4) (h11 : x4 ≤ 4) (h12 : 4 - x4 < ((x5 + 1 : Nat) : Int)) (h13 : 0 ≤ x6) (h14 : x6 ≤ 40) (h15 : x6 = x2) (h16 : x4 < x6) (h17 : x7 = 40 * x0) (h18 : x8 = x7 + x4) (h19 : x9 = 1) (h20 : x10 = x1 + x9) : 0 ≤ x0 := by omega
theorem o38_78 {x0 x1 x2 x3 x4 x6 x7 x8 x9 x10 : Int} {x5 : Nat} (h0 : 0 ≤ x0) (h1 : x0 ≤ 3) (h2 : 2 ≤ x1) (h3 : x1 ≤ 2) (h4 : 2 ≤ x2) (h5 : x2 ≤ 4) (h6 : 0 ≤ x3) (h7 : x3 ≤ 40) (h8 : x3 = x2) (h9 : ¬ x1 = x3) (h10 : 0 ≤ x4) (h11 : x4 ≤ 4) (h12 : 4 - x4 < ((x5 + 1 : Nat) : Int)) (h13 : 0 ≤ x6) (h14 : x6 ≤ 40) (h15 : x6 = x2) (h16 : x4 < x6) (h17 : x7 = 40 * x0) (h18 : x8 = x7 + x4) (h19 : x9 = 1) (h20 : x10 = x1 + x9) : x0 ≤ 3 := by omega
theorem o38_79 {x0 x1 x2 x3 x4 x5 x7 x8 x9 x10 : Int} {x6 : Nat} (h0 : 0 ≤ x1) (h1 : x1 ≤ 3) (h2 : 2 ≤ x2) (h3 : x2 ≤ 2) (h4 : 2 ≤ x3) (h5 : x3 ≤ 4) (h6 : 0 ≤ x4) (h7 : x4 ≤ 40) (h8 : x4 = x3) (h9 : ¬ x2 = x4) (h10 : 0 ≤ x5) (h11 : x5 ≤ 4) (h12 : 4 - x5 < ((x6 + 1 : Nat) : Int)) (h13 : 0 ≤ x7) (h14 : x7 ≤ 40) (h15 : x7 = x3) (h16 : x5 < x7) (h17 : x8 = 40 * x1) (h18 : x9 = x8 + x5) (h19 : x10 = 1) (h20 : x0 = x2 + x10) : 3 ≤ x0 := by omega
theorem o38_80 {x0 x1 x2 x3 x4 x5 x7 x8 x9 x10 : Int} {x6 : Nat} (h0 : 0 ≤ x1) (h1 : x1 ≤ 3) (h2 : 2 ≤ x2) (h3 : x2 ≤ 2) (h4 : 2 ≤ x3) (h5 : x3 ≤ 4) (h6 : 0 ≤ x4) (h7 : x4 ≤ 40) (h8 : x4 = x3) (h9 : ¬ x2 = x4) (h10 : 0 ≤ x5) (h11 : x5 ≤ 4) (h12 : 4 - x5 < ((x6 + 1 : Nat) : Int)) (h13 : 0 ≤ x7) (h14 : x7 ≤ 40) (h15 : x7 = x3) (h16 : x5 < x7) (h17 : x8 = 40 * x1) (h18 : x9 = x8 + x5) (h19 : x10 = 1) (h20 : x0 = x2 + x10) : x0 ≤ 3 := by omega
theorem o38_81 {x0 x1 x2 x3 x4 x6 x7 x8 x9 x10 : Int} {x5 : Nat} (h0 : 0 ≤ x1) (h1 : x1 ≤ 3) (h2 : 2 ≤ x2) (h3 : x2 ≤ 2) (h4 : 2 ≤ x0) (h5 : x0 ≤ 4) (h6 : 0 ≤ x3) (h7 : x3 ≤ 40) (h8 : x3 = x0) (h9 : ¬ x2 = x3) (h10 : 0 ≤ x4) (h11 : x4 ≤ 4) (h12 : 4 - x4 < ((x5 + 1 : Nat) : Int)) (h13 : 0 ≤ x6) (h14 : x6 ≤ 40) (h15 : x6 = x0) (h16 : x4 < x6) (h17 : x7 = 40 * x1) (h18 : x8 = x7 + x4) (h19 : x9 = 1) (h20 : x10 = x2 + x9) : 3 ≤ x0 := by omega
theorem o38_82 {x0 x1 x2 x3 x4 x6 x7 x8 x9 x10 : Int} {x5 : Nat} (h0 : 0 ≤ x1) (h1 : x1 ≤ 3) (h2 : 2 ≤ x2) (h3 : x2 ≤ 2) (h4 : 2 ≤ x0) (h5 : x0 ≤ 4) (h6 : 0 ≤ x3) (h7 : x3 ≤ 40) (h8 : x3 = x0) (h9 : ¬ x2 = x3) (h10 : 0 ≤ x4) (h11 : x4 ≤ 4) (h12 : 4 - x4 < ((x5 + 1 : Nat) : Int)) (h13 : 0 ≤ x6) (h14 : x6 ≤ 40) (h15 : x6 = x0) (h16 : x4 < x6) (h17 : x7 = 40 * x1) (h18 : x8 = x7 + x4) (h19 : x9 = 1) (h20 : x10 = x2 + x9) : x0 ≤ 4 := by omega
theorem o38_83 {x0 x1 x2 x3 x4 x6 x7 x8 x9 x10 : Int} {x5 : Nat} (h0 : 0 ≤ x1) (h1 : x1 ≤ 3) (h2 : 2 ≤ x2) (h3 : x2 ≤ 2) (h4 : 2 ≤ x3) (h5 : x3 ≤ 4) (h6 : 0 ≤ x4) (h7 : x4 ≤ 40) (h8 : x4 = x3) (h9 : ¬ x2 = x4) (h10 : 0 ≤ x0) (h11 : x0 ≤ 4) (h12 : 4 - x0 < ((x5 + 1 : Nat) : Int)) (h13 : 0 ≤ x6) (h14 : x6 ≤ 40) (h15 : x6 = x3) (h16 : x0 < x6) (h17 : x7 = 40 * x1) (h18 : x8 = x7 + x0) (h19 : x9 = 1) (h20 : x10 = x2 + x9) (h21 : -2147483648 ≤ x0) (h22 : x0 ≤ 2147483647) (h23 : -2147483648 ≤ x1) (h24 : x1 ≤ 2147483647) (h25 : -2147483648 ≤ x2) (h26 : x2 ≤ 2147483647) (h27 : -2147483648 ≤ x3) (h28 : x3 ≤ 2147483647) (h29 : -2147483648 ≤ x4) (h30 : x4 ≤ 2147483647) (h31 : -2147483648 ≤ x6) (h32 : x6 ≤ 2147483647) (h33 : -2147483648 ≤ x7) (h34 : x7 ≤ 2147483647) (h35 : -2147483648 ≤ x8) (h36 : x8 ≤ 2147483647) (h37 : -2147483648 ≤ x9) (h38 : x9 ≤ 2147483647) (h39 : -2147483648 ≤ x10) (h40 : x10 ≤ 2147483647) : -2147483648 ≤ x0 + 1 := by omega
theorem o38_84 {x0 x1 x2 x3 x4 x6 x7 x8 x9 x10 : Int} {x5 : Nat} (h0 : 0 ≤ x1) (h1 : x1 ≤ 3) (h2 : 2 ≤ x2) (h3 : x2 ≤ 2) (h4 : 2 ≤ x3) (h5 : x3 ≤ 4) (h6 : 0 ≤ x4) (h7 : x4 ≤ 40) (h8 : x4 = x3) (h9 : ¬ x2 = x4) (h10 : 0 ≤ x0) (h11 : x0 ≤ 4) (h12 : 4 - x0 < ((x5 + 1 : Nat) : Int)) (h13 : 0 ≤ x6) (h14 : x6 ≤ 40) (h15 : x6 = x3) (h16 : x0 < x6) (h17 : x7 = 40 * x1) (h18 : x8 = x7 + x0) (h19 : x9 = 1) (h20 : x10 = x2 + x9) (h21 : -2147483648 ≤ x0) (h22 : x0 ≤ 2147483647) (h23 : -2147483648 ≤ x1) (h24 : x1 ≤ 2147483647) (h25 : -2147483648 ≤ x2) (h26 : x2 ≤ 2147483647) (h27 : -2147483648 ≤ x3) (h28 : x3 ≤ 2147483647) (h29 : -2147483648 ≤ x4) (h30 : x4 ≤ 2147483647) (h31 : -2147483648 ≤ x6) (h32 : x6 ≤ 2147483647) (h33 : -2147483648 ≤ x7) (h34 : x7 ≤ 2147483647) (h35 : -2147483648 ≤ x8) (h36 : x8 ≤ 2147483647) (h37 : -2147483648 ≤ x9) (h38 : x9 ≤ 2147483647) (h39 : -2147483648 ≤ x10) (h40 : x10 ≤ 2147483647) : x0 + 1 ≤ 2147483647 := by omega
theorem o38_85 {x0 x2 x3 x4 x5 x6 x7 x8 x9 x10 x11 : Int} {x1 : Nat} (h0 : 0 ≤ x2) (h1 : x2 ≤ 3) (h2 : 2 ≤ x3) (h3 : x3 ≤ 2) (h4 : 2 ≤ x4) (h5 : x4 ≤ 4) (h6 : 0 ≤ x5) (h7 : x5 ≤ 40) (h8 : x5 = x4) (h9 : ¬ x3 = x5) (h10 : 0 ≤ x6) (h11 : x6 ≤ 4) (h12 : 4 - x6 < ((x1 + 1 : Nat) : Int)) (h13 : 0 ≤ x7) (h14 : x7 ≤ 40) (h15 : x7 = x4) (h16 : x6 < x7) (h17 : x8 = 40 * x2) (h18 : x9 = x8 + x6) (h19 : x10 = 1) (h20 : x11 = x3 + x10) (h21 : x0 = x6 + 1) : 4 - x0 < (x1 : Int) := by omega
theorem o38_86 {x0 x1 x2 x3 x4 x5 x7 x8 x9 x10 x11 : Int} {x6 : Nat} (h0 : 0 ≤ x1) (h1 : x1 ≤ 3) (h2 : 2 ≤ x2) (h3 : x2 ≤ 2) (h4 : 2 ≤ x3) (h5 : x3 ≤ 4) (h6 : 0 ≤ x4) (h7 : x4 ≤ 40) (h8 : x4 = x3) (h9 : ¬ x2 = x4) (h10 : 0 ≤ x5) (h11 : x5 ≤ 4) (h12 : 4 - x5 < ((x6 + 1 : Nat) : Int)) (h13 : 0 ≤ x7) (h14 : x7 ≤ 40) (h15 : x7 = x3) (h16 : x5 < x7) (h17 : x8 = 40 * x1) (h18 : x9 = x8 + x5) (h19 : x10 = 1) (h20 : x11 = x2 + x10) (h21 : x0 = x5 + 1) : 0 ≤ x0 := by omega
theorem o38_87 {x0 x1 x2 x3 x4 x5 x7 x8 x9 x10 x11 : Int} {x6 : Nat} (h0 : 0 ≤ x1) (h1 : x1 ≤ 3) (h2 : 2 ≤ x2) (h3 : x2 ≤ 2) (h4 : 2 ≤ x3) (h5 : x3 ≤ 4) (h6 : 0 ≤ x4) (h7 : x4 ≤ 40) (h8 : x4 = x3) (h9 : ¬ x2 = x4) (h10 : 0 ≤ x5) (h11 : x5 ≤ 4) (h12 : 4 - x5 < ((x6 + 1 : Nat) : Int)) (h13 : 0 ≤ x7) (h14 : x7 ≤ 40) (h15 : x7 = x3) (h16 : x5 < x7) (h17 : x8 = 40 * x1) (h18 : x9 = x8 + x5) (h19 : x10 = 1) (h20 : x11 = x2 + x10) (h21 : x0 = x5 + 1) : x0 ≤ 4 := by omega
theorem o38_88 {x0 x1 x2 x3 x4 x6 x7 x8 : Int} {x5 : Nat} (h0 : 0 ≤ x1) (h1 : x1 ≤ 3) (h2 : 2 ≤ x2) (h3 : x2 ≤ 2) (h4 : 2 ≤ x3) (h5 : x3 ≤ 4) (h6 : 0 ≤ x4) (h7 : x4 ≤ 40) (h8 : x4 = x3) (h9 : ¬ x2 = x4) (h10 : 0 ≤ x0) (h11 : x0 ≤ 4) (h12 : 4 - x0 < ((x5 + 1 : Nat) : Int)) (h13 : 0 ≤ x6) (h14 : x6 ≤ 40) (h15 : x6 = x3) (h16 : x0 < x6) (h17 : x7 = 40 * x1) (h18 : x8 = x7 + x0) (h19 : -2147483648 ≤ x0) (h20 : x0 ≤ 2147483647) (h21 : -2147483648 ≤ x1) (h22 : x1 ≤ 2147483647) (h23 : -2147483648 ≤ x2) (h24 : x2 ≤ 2147483647) (h25 : -2147483648 ≤ x3) (h26 : x3 ≤ 2147483647) (h27 : -2147483648 ≤ x4) (h28 : x4 ≤ 2147483647) (h29 : -2147483648 ≤ x6) (h30 : x6 ≤ 2147483647) (h31 : -2147483648 ≤ x7) (h32 : x7 ≤ 2147483647) (h33 : -2147483648 ≤ x8) (h34 : x8 ≤ 2147483647) : -2147483648 ≤ x0 + 1 := by omega
theorem o38_89 {x0 x1 x2 x3 x4 x6 x7 x8 : Int} {x5 : Nat} (h0 : 0 ≤ x1) (h1 : x1 ≤ 3) (h2 : 2 ≤ x2) (h3 : x2 ≤ 2) (h4 : 2 ≤ x3) (h5 : x3 ≤ 4) (h6 : 0 ≤ x4) (h7 : x4 ≤ 40) (h8 : x4 = x3) (h9 : ¬ x2 = x4) (h10 : 0 ≤ x0) (h11 : x0 ≤ 4) (h12 : 4 - x0 < ((x5 + 1 : Nat) : Int)) (h13 : 0 ≤ x6) (h14 : x6 ≤ 40) (h15 : x6 = x3) (h16 : x0 < x6) (h17 : x7 = 40 * x1) (h18 : x8 = x7 + x0) (h19 : -2147483648 ≤ x0) (h20 : x0 ≤ 2147483647) (h21 : -2147483648 ≤ x1) (h22 : x1 ≤ 2147483647) (h23 : -2147483648 ≤ x2) (h24 : x2 ≤ 2147483647) (h25 : -2147483648 ≤ x3) (h26 : x3 ≤ 2147483647) (h27 : -2147483648 ≤ x4) (h28 : x4 ≤ 2147483647) (h29 : -2147483648 ≤ x6) (h30 : x6 ≤ 2147483647) (h31 : -2147483648 ≤ x7) (h32 : x7 ≤ 2147483647) (h33 : -2147483648 ≤ x8) (h34 : x8 ≤ 2147483647) : x0 + 1 ≤ 2147483647 := by omega
theorem o38_90 {x0 x2 x3 x4 x5 x6 x7 x8 x9 : Int} {x1 : Nat} (h0 : 0 ≤ x2) (h1 : x2 ≤ 3) (h2 : 2 ≤ x3) (h3 : x3 ≤ 2) (h4 : 2 ≤ x4) (h5 : x4 ≤ 4) (h6 : 0 ≤ x5) (h7 : x5 ≤ 40) (h8 : x5 = x4) (h9 : ¬ x3 = x5) (h10 : 0 ≤ x6) (h11 : x6 ≤ 4) (h12 : 4 - x6 < ((x1 + 1 : Nat) : Int)) (h13 : 0 ≤ x7) (h14 : x7 ≤ 40) (h15 : x7 = x4) (h16 : x6 < x7) (h17 : x8 = 40 * x2) (h18 : x9 = x8 + x6) (h19 : x0 = x6 + 1) : 4 - x0 < (x1 : Int) := by omega
theorem o38_91 {x0 x1 x2 x3 x4 x5 x7 x8 x9 : Int} {x6 : Nat} (h0 : 0 ≤ x1) (h1 : x1 ≤ 3) (h2 : 2 ≤ x2) (h3 : x2 ≤ 2) (h4 : 2 ≤ x3) (h5 : x3 ≤ 4) (h6 : 0 ≤ x4) (h7 : x4 ≤ 40) (h8 : x4 = x3) (h9 : ¬ x2 = x4) (h10 : 0 ≤ x5) (h11 : x5 ≤ 4) (h12 : 4 - x5 < ((x6 + 1 : Nat) : Int)) (h13 : 0 ≤ x7) (h14 : x7 ≤ 40) (h15 : x7 = x3) (h16 : x5 < x7) (h17 : x8 = 40 * x1) (h18 : x9 = x8 + x5) (h19 : x0 = x5 + 1) : 0 ≤ x0 := by omega
theorem o38_92 {x0 x1 x2 x3 x4 x5 x7 x8 x9 : Int} {x6 : Nat} (h0 : 0 ≤ x1) (h1 : x1 ≤ 3) (h2 : 2 ≤ x2) (h3 : x2 ≤ 2) (h4 : 2 ≤ x3) (h5 : x3 ≤ 4) (h6 : 0 ≤ x4) (h7 : x4 ≤ 40) (h8 : x4 = x3) (h9 : ¬ x2 = x4) (h10 : 0 ≤ x5) (h11 : x5 ≤ 4) (h12 : 4 - x5 < ((x6 + 1 : Nat) : Int)) (h13 : 0 ≤ x7) (h14 : x7 ≤ 40) (h15 : x7 = x3) (h16 : x5 < x7) (h17 : x8 = 40 * x1) (h18 : x9 = x8 + x5) (h19 : x0 = x5 + 1) : x0 ≤ 4 := by omega
theorem o38_93 {x0 x1 x2 x3 x5 : Int} {x4 : Nat} (h0 : 2 ≤ x1) (h1 : x1 ≤ 2) (h2 : 2 ≤ x2) (h3 : x2 ≤ 4) (h4 : 0 ≤ x3) (h5 : x3 ≤ 40) (h6 : x3 = x2) (h7 : ¬ x1 = x3) (h8 : 0 ≤ x0) (h9 : x0 ≤ 4) (h10 : 4 - x0 < ((x4 + 1 : Nat) : Int)) (h11 : 0 ≤ x5) (h12 : x5 ≤ 40) (h13 : x5 = x2) (h14 : x0 < x5) (h15 : -2147483648 ≤ x0) (h16 : x0 ≤ 2147483647) (h17 : -2147483648 ≤ x1) (h18 : x1 ≤ 2147483647) (h19 : -2147483648 ≤ x2) (h20 : x2 ≤ 2147483647) (h21 : -2147483648 ≤ x3) (h22 : x3 ≤ 2147483647) (h23 : -2147483648 ≤ x5) (h24 : x5 ≤ 2147483647) : -2147483648 ≤ x0 + 1 := by omega
theorem o38_94 {x0 x1 x2 x3 x5 : Int} {x4 : Nat} (h0 : 2 ≤ x1) (h1 : x1 ≤ 2) (h2 : 2 ≤ x2) (h3 : x2 ≤ 4) (h4 : 0 ≤ x3) (h5 : x3 ≤ 40) (h6 : x3 = x2) (h7 : ¬ x1 = x3) (h8 : 0 ≤ x0) (h9 : x0 ≤ 4) (h10 : 4 - x0 < ((x4 + 1 : Nat) : Int)) (h11 : 0 ≤ x5) (h12 : x5 ≤ 40) (h13 : x5 = x2) (h14 : x0 < x5) (h15 : -2147483648 ≤ x0) (h16 : x0 ≤ 2147483647) (h17 : -2147483648 ≤ x1) (h18 : x1 ≤ 2147483647) (h19 : -2147483648 ≤ x2) (h20 : x2 ≤ 2147483647) (h21 : -2147483648 ≤ x3) (h22 : x3 ≤ 2147483647) (h23 : -2147483648 ≤ x5) (h24 : x5 ≤ 2147483647) : x0 + 1 ≤ 2147483647 := by omega
theorem o38_95 {x0 x2 x3 x4 x5 x6 : Int} {x1 : Nat} (h0 : 2 ≤ x2) (h1 : x2 ≤ 2) (h2 : 2 ≤ x3) (h3 : x3 ≤ 4) (h4 : 0 ≤ x4) (h5 : x4 ≤ 40) (h6 : x4 = x3) (h7 : ¬ x2 = x4) (h8 : 0 ≤ x5) (h9 : x5 ≤ 4) (h10 : 4 - x5 < ((x1 + 1 : Nat) : Int)) (h11 : 0 ≤ x6) (h12 : x6 ≤ 40) (h13 : x6 = x3) (h14 : x5 < x6) (h15 : x0 = x5 + 1) : 4 - x0 < (x1 : Int) := by omega
theorem o38_96 {x0 x1 x2 x3 x4 x6 : Int} {x5 : Nat} (h0 : 2 ≤ x1) (h1 : x1 ≤ 2) (h2 : 2 ≤ x2) (h3 : x2 ≤ 4) (h4 : 0 ≤ x3) (h5 : x3 ≤ 40) (h6 : x3 = x2) (h7 : ¬ x1 = x3) (h8 : 0 ≤ x4) (h9 : x4 ≤ 4) (h10 : 4 - x4 < ((x5 + 1 : Nat) : Int)) (h11 : 0 ≤ x6) (h12 : x6 ≤ 40) (h13 : x6 = x2) (h14 : x4 < x6) (h15 : x0 = x4 + 1) : 0 ≤ x0 := by omega
theorem o38_97 {x0 x1 x2 x3 x4 x6 : Int} {x5 : Nat} (h0 : 2 ≤ x1) (h1 : x1 ≤ 2) (h2 : 2 ≤ x2) (h3 : x2 ≤ 4) (h4 : 0 ≤ x3) (h5 : x3 ≤ 40) (h6 : x3 = x2) (h7 : ¬ x1 = x3) (h8 : 0 ≤ x4) (h9 : x4 ≤ 4) (h10 : 4 - x4 < ((x5 + 1 : Nat) : Int)) (h11 : 0 ≤ x6) (h12 : x6 ≤ 40) (h13 : x6 = x2) (h14 : x4 < x6) (h15 : x0 = x4 + 1) : x0 ≤ 4 := by omega
theorem o38_98 {x0 : Int} (h0 : 0 ≤ x0) (h1 : x0 ≤ 2) (h2 : 2 - x0 < 0) : False := by omega
theorem o38_99 {x0 x1 x2 x3 : Int} {x4 : Nat} (h0 : 2 ≤ x1) (h1 : x1 ≤ 2) (h2 : 2 ≤ x2) (h3 : x2 ≤ 4) (h4 : 0 ≤ x3) (h5 : x3 ≤ 40) (h6 : x3 = x2) (h7 : x1 = x3) (h8 : 0 ≤ x0) (h9 : x0 ≤ 2) (h10 : 2 - x0 < ((x4 + 1 : Nat) : Int)) (h11 : x0 < x1) : 0 ≤ x0 := by omega
theorem o38_100 {x0 x1 x2 x3 : Int} {x4 : Nat} (h0 : 2 ≤ x1) (h1 : x1 ≤ 2) (h2 : 2 ≤ x2) (h3 : x2 ≤ 4) (h4 : 0 ≤ x3) (h5 : x3 ≤ 40) (h6 : x3 = x2) (h7 : x1 = x3) (h8 : 0 ≤ x0) (h9 : x0 ≤ 2) (h10 : 2 - x0 < ((x4 + 1 : Nat) : Int)) (h11 : x0 < x1) : x0 < (4 : Nat) := by omega
theorem o38_101 {x0 x1 x2 x3 : Int} {x4 : Nat} (h0 : 2 ≤ x1) (h1 : x1 ≤ 2) (h2 : 2 ≤ x2) (h3 : x2 ≤ 4) (h4 : 0 ≤ x3) (h5 : x3 ≤ 40) (h6 : x3 = x2) (h7 : x1 = x3) (h8 : 0 ≤ x0) (h9 : x0 ≤ 2) (h10 : 2 - x0 < ((x4 + 1 : Nat) : Int)) (h11 : x0 < x1) (h12 : -2147483648 ≤ x0) (h13 : x0 ≤ 2147483647) (h14 : -2147483648 ≤ x1) (h15 : x1 ≤ 2147483647) (h16 : -2147483648 ≤ x2) (h17 : x2 ≤ 2147483647) (h18 : -2147483648 ≤ x3) (h19 : x3 ≤ 2147483647) : -2147483648 ≤ x0 + 1 := by omega
theorem o38_102 {x0 x1 x2 x3 : Int} {x4 : Nat} (h0 : 2 ≤ x1) (h1 : x1 ≤ 2) (h2 : 2 ≤ x2) (h3 : x2 ≤ 4) (h4 : 0 ≤ x3) (h5 : x3 ≤ 40) (h6 : x3 = x2) (h7 : x1 = x3) (h8 : 0 ≤ x0) (h9 : x0 ≤ 2) (h10 : 2 - x0 < ((x4 + 1 : Nat) : Int)) (h11 : x0 < x1) (h12 : -2147483648 ≤ x0) (h13 : x0 ≤ 2147483647) (h14 : -2147483648 ≤ x1) (h15 : x1 ≤ 2147483647) (h16 : -2147483648 ≤ x2) (h17 : x2 ≤ 2147483647) (h18 : -2147483648 ≤ x3) (h19 : x3 ≤ 2147483647) : x0 + 1 ≤ 2147483647 := by omega
theorem o38_103 {x0 x2 x3 x4 x5 : Int} {x1 : Nat} (h0 : 2 ≤ x2) (h1 : x2 ≤ 2) (h2 : 2 ≤ x3) (h3 : x3 ≤ 4) (h4 : 0 ≤ x4) (h5 : x4 ≤ 40) (h6 : x4 = x3) (h7 : x2 = x4) (h8 : 0 ≤ x5) (h9 : x5 ≤ 2) (h10 : 2 - x5 < ((x1 + 1 : Nat) : Int)) (h11 : x5 < x2) (h12 : x0 = x5 + 1) : 2 - x0 < (x1 : Int) := by omega
theorem o38_104 {x0 x1 x2 x3 x4 : Int} {x5 : Nat} (h0 : 2 ≤ x1) (h1 : x1 ≤ 2) (h2 : 2 ≤ x2) (h3 : x2 ≤ 4) (h4 : 0 ≤ x3) (h5 : x3 ≤ 40) (h6 : x3 = x2) (h7 : x1 = x3) (h8 : 0 ≤ x4) (h9 : x4 ≤ 2) (h10 : 2 - x4 < ((x5 + 1 : Nat) : Int)) (h11 : x4 < x1) (h12 : x0 = x4 + 1) : 0 ≤ x0 := by omega
theorem o38_105 {x0 x1 x2 x3 x4 : Int} {x5 : Nat} (h0 : 2 ≤ x1) (h1 : x1 ≤ 2) (h2 : 2 ≤ x2) (h3 : x2 ≤ 4) (h4 : 0 ≤ x3) (h5 : x3 ≤ 40) (h6 : x3 = x2) (h7 : x1 = x3) (h8 : 0 ≤ x4) (h9 : x4 ≤ 2) (h10 : 2 - x4 < ((x5 + 1 : Nat) : Int)) (h11 : x4 < x1) (h12 : x0 = x4 + 1) : x0 ≤ 2 := by omega
theorem o38_106 {x0 : Int} (h0 : x0 = 0) : 2 - x0 < (((2 - x0 + 1).toNat : Nat) : Int) := by omega
theorem o38_107 {x0 : Int} (h0 : x0 = 0) : x0 ≤ 2 := by omega
theorem o38_108 {x0 x1 x2 x3 x4 x5 x7 : Int} {x6 : Nat} (h0 : 0 ≤ x2) (h1 : x2 ≤ 3) (h2 : 1 ≤ x3) (h3 : x3 ≤ 1) (h4 : 1 ≤ x4) (h5 : x4 ≤ 4) (h6 : 0 ≤ x5) (h7 : x5 ≤ 40) (h8 : x5 = x4) (h9 : ¬ x3 = x5) (h10 : 0 ≤ x1) (h11 : x1 ≤ 4) (h12 : 4 - x1 < ((x6 + 1 : Nat) : Int)) (h13 : 0 ≤ x7) (h14 : x7 ≤ 40) (h15 : x7 = x4) (h16 : x1 < x7) (h17 : x0 = 40 * x2) (h18 : -2147483648 ≤ x0) (h19 : x0 ≤ 2147483647) (h20 : -2147483648 ≤ x1) (h21 : x1 ≤ 2147483647) (h22 : -2147483648 ≤ x2) (h23 : x2 ≤ 2147483647) (h24 : -2147483648 ≤ x3) (h25 : x3 ≤ 2147483647) (h26 : -2147483648 ≤ x4) (h27 : x4 ≤ 2147483647) (h28 : -2147483648 ≤ x5) (h29 : x5 ≤ 2147483647) (h30 : -2147483648 ≤ x7) (h31 : x7 ≤ 2147483647) : -2147483648 ≤ x0 + x1 := by omega
theorem o38_109 {x0 x1 x2 x3 x4 x5 x7 : Int} {x6 : Nat} (h0 : 0 ≤ x2) (h1 : x2 ≤ 3) (h2 : 1 ≤ x3) (h3 : x3 ≤ 1) (h4 : 1 ≤ x4) (h5 : x4 ≤ 4) (h6 : 0 ≤ x5) (h7 : x5 ≤ 40) (h8 : x5 = x4) (h9 : ¬ x3 = x5) (h10 : 0 ≤ x1) (h11 : x1 ≤ 4) (h12 : 4 - x1 < ((x6 + 1 : Nat) : Int)) (h13 : 0 ≤ x7) (h14 : x7 ≤ 40) (h15 : x7 = x4) (h16 : x1 < x7) (h17 : x0 = 40 * x2) (h18 : -2147483648 ≤ x0) (h19 : x0 ≤ 2147483647) (h20 : -2147483648 ≤ x1) (h21 : x1 ≤ 2147483647) (h22 : -2147483648 ≤ x2) (h23 : x2 ≤ 2147483647) (h24 : -2147483648 ≤ x3) (h25 : x3 ≤ 2147483647) (h26 : -2147483648 ≤ x4) (h27 : x4 ≤ 2147483647) (h28 : -2147483648 ≤ x5) (h29 : x5 ≤ 2147483647) (h30 : -2147483648 ≤ x7) (h31 : x7 ≤ 2147483647) : x0 + x1 ≤ 2147483647 := by omega
theorem o38_110 {x0 x1 x2 x3 x4 x5 x7 x8 : Int} {x6 : Nat} (h0 : 0 ≤ x1) (h1 : x1 ≤ 3) (h2 : 1 ≤ x2) (h3 : x2 ≤ 1) (h4 : 1 ≤ x3) (h5 : x3 ≤ 4) (h6 : 0 ≤ x4) (h7 : x4 ≤ 40) (h8 : x4 = x3) (h9 : ¬ x2 = x4) (h10 : 0 ≤ x5) (h11 : x5 ≤ 4) (h12 : 4 - x5 < ((x6 + 1 : Nat) : Int)) (h13 : 0 ≤ x7) (h14 : x7 ≤ 40) (h15 : x7 = x3) (h16 : x5 < x7) (h17 : x8 = 40 * x1) (h18 : x0 = x8 + x5) : 0 ≤ x0 := by omega
theorem o38_111 {x0 x1 x2 x3 x4 x5 x7 x8 : Int} {x6 : Nat} (h0 : 0 ≤ x1) (h1 : x1 ≤ 3) (h2 : 1 ≤ x2) (h3 : x2 ≤ 1) (h4 : 1 ≤ x3) (h5 : x3 ≤ 4) (h6 : 0 ≤ x4) (h7 : x4 ≤ 40) (h8 : x4 = x3) (h9 : ¬ x2 = x4) (h10 : 0 ≤ x5) (h11 : x5 ≤ 4) (h12 : 4 - x5 < ((x6 + 1 : Nat) : Int)) (h13 : 0 ≤ x7) (h14 : x7 ≤ 40) (h15 : x7 = x3) (h16 : x5 < x7) (h17 : x8 = 40 * x1) (h18 : x0 = x8 + x5) : x0 < (160 : Nat) := by omega
theorem o38_112 {x0 x1 x2 x3 x4 x6 x7 x8 : Int} {x5 : Nat} (h0 : 0 ≤ x2) (h1 : x2 ≤ 3) (h2 : 1 ≤ x3) (h3 : x3 ≤ 1) (h4 : 1 ≤ x1) (h5 : x1 ≤ 4) (h6 : 0 ≤ x4) (h7 : x4 ≤ 40) (h8 : x4 = x1) (h9 : ¬ x3 = x4) (h10 : 0 ≤ x0) (h11 : x0 ≤ 4) (h12 : 4 - x0 < ((x5 + 1 : Nat) : Int)) (h13 : 0 ≤ x6) (h14 : x6 ≤ 40) (h15 : x6 = x1) (h16 : x0 < x6) (h17 : x7 = 40 * x2) (h18 : x8 = x7 + x0) : (x0).toNat < (x1).toNat := by omega
theorem o38_113 {x0 x1 x2 x3 x4 x5 x7 x8 : Int} {x6 : Nat} (h0 : 0 ≤ x1) (h1 : x1 ≤ 3) (h2 : 1 ≤ x3) (h3 : x3 ≤ 1) (h4 : 1 ≤ x4) (h5 : x4 ≤ 4) (h6 : 0 ≤ x5) (h7 : x5 ≤ 40) (h8 : x5 = x4) (h9 : ¬ x3 = x5) (h10 : 0 ≤ x2) (h11 : x2 ≤ 4) (h12 : 4 - x2 < ((x6 + 1 : Nat) : Int)) (h13 : 0 ≤ x7) (h14 : x7 ≤ 40) (h15 : x7 = x4) (h16 : x2 < x7) (h17 : x8 = 40 * x1) (h18 : x0 = x8 + x2) : (x0).toNat = 40 * (x1).toNat + (x2).toNat := by omega
theorem o38_114 {x0 x1 x2 x3 x4 x6 x7 x8 : Int} {x5 : Nat} (h0 : 0 ≤ x1) (h1 : x1 ≤ 3) (h2 : 1 ≤ x0) (h3 : x0 ≤ 1) (h4 : 1 ≤ x2) (h5 : x2 ≤ 4) (h6 : 0 ≤ x3) (h7 : x3 ≤ 40) (h8 : x3 = x2) (h9 : ¬ x0 = x3) (h10 : 0 ≤ x4) (h11 : x4 ≤ 4) (h12 : 4 - x4 < ((x5 + 1 : Nat) : Int)) (h13 : 0 ≤ x6) (h14 : x6 ≤ 40) (h15 : x6 = x2) (h16 : x4 < x6) (h17 : x7 = 40 * x1) (h18 : x8 = x7 + x4) : 0 ≤ x0 := by omega
theorem o38_115 {x0 x1 x2 x3 x4 x6 x7 x8 : Int} {x5 : Nat} (h0 : 0 ≤ x1) (h1 : x1 ≤ 3) (h2 : 1 ≤ x0) (h3 : x0 ≤ 1) (h4 : 1 ≤ x2) (h5 : x2 ≤ 4) (h6 : 0 ≤ x3) (h7 : x3 ≤ 40) (h8 : x3 = x2) (h9 : ¬ x0 = x3) (h10 : 0 ≤ x4) (h11 : x4 ≤ 4) (h12 : 4 - x4 < ((x5 + 1 : Nat) : Int)) (h13 : 0 ≤ x6) (h14 : x6 ≤ 40) (h15 : x6 = x2) (h16 : x4 < x6) (h17 : x7 = 40 * x1) (h18 : x8 = x7 + x4) : x0 < (4 : Nat) := by omega
theorem o38_116 {x0 x1 x2 x3 x4 x6 x7 x8 : Int} {x5 : Nat} (h0 : 0 ≤ x1) (h1 : x1 ≤ 3) (h2 : 1 ≤ x0) (h3 : x0 ≤ 1) (h4 : 1 ≤ x2) (h5 : x2 ≤ 4) (h6 : 0 ≤ x3) (h7 : x3 ≤ 40) (h8 : x3 = x2) (h9 : ¬ x0 = x3) (h10 : 0 ≤ x4) (h11 : x4 ≤ 4) (h12 : 4 - x4 < ((x5 + 1 : Nat) : Int)) (h13 : 0 ≤ x6) (h14 : x6 ≤ 40) (h15 : x6 = x2) (h16 : x4 < x6) (h17 : x7 = 40 * x1) (h18 : x8 = x7 + x4) : x0 = ((1 : Nat) : Int) := by omega
theorem o38_117 {x0 x1 x2 x3 x4 x5 x7 x8 x9 : Int} {x6 : Nat} (h0 : 0 ≤ x2) (h1 : x2 ≤ 3) (h2 : 1 ≤ x0) (h3 : x0 ≤ 1) (h4 : 1 ≤ x3) (h5 : x3 ≤ 4) (h6 : 0 ≤ x4) (h7 : x4 ≤ 40) (h8 : x4 = x3) (h9 : ¬ x0 = x4) (h10 : 0 ≤ x5) (h11 : x5 ≤ 4) (h12 : 4 - x5 < ((x6 + 1 : Nat) : Int)) (h13 : 0 ≤ x7) (h14 : x7 ≤ 40) (h15 : x7 = x3) (h16 : x5 < x7) (h17 : x8 = 40 * x2) (h18 : x9 = x8 + x5) (h19 : x1 = 1) (h20 : -2147483648 ≤ x0) (h21 : x0 ≤ 2147483647) (h22 : -2147483648 ≤ x1) (h23 : x1 ≤ 2147483647) (h24 : -2147483648 ≤ x2) (h25 : x2 ≤ 2147483647) (h26 : -2147483648 ≤ x3) (h27 : x3 ≤ 2147483647) (h28 : -2147483648 ≤ x4) (h29 : x4 ≤ 2147483647) (h30 : -2147483648 ≤ x5) (h31 : x5 ≤ 2147483647) (h32 : -2147483648 ≤ x7) (h33 : x7 ≤ 2147483647) (h34 : -2147483648 ≤ x8) (h35 : x8 ≤ 2147483647) (h36 : -2147483648 ≤ x9) (h37 : x9 ≤ 2147483647) : -2147483648 ≤ x0 + x1 := by omega
theorem o38_118 {x0 x1 x2 x3 x4 x5 x7 x8 x9 : Int} {x6 : Nat} (h0 : 0 ≤ x2) (h1 : x2 ≤ 3) (h2 : 1 ≤ x0) (h3 : x0 ≤ 1) (h4 : 1 ≤ x3) (h5 : x3 ≤ 4) (h6 : 0 ≤ x4) (h7 : x4 ≤ 40) (h8 : x4 = x3) (h9 : ¬ x0 = x4) (h10 : 0 ≤ x5) (h11 : x5 ≤ 4) (h12 : 4 - x5 < ((x6 + 1 : Nat) : Int)) (h13 : 0 ≤ x7) (h14 : x7 ≤ 40) (h15 : x7 = x3) (h16 : x5 < x7) (h17 : x8 = 40 * x2) (h18 : x9 = x8 + x5) (h19 : x1 = 1) (h20 : -2147483648 ≤ x0) (h21 : x0 ≤ 2147483647) (h22 : -2147483648 ≤ x1) (h23 : x1 ≤ 2147483647) (h24 : -2147483648 ≤ x2) (h25 : x2 ≤ 2147483647) (h26 : -2147483648 ≤ x3) (h27 : x3 ≤ 2147483647) (h28 : -2147483648 ≤ x4) (h29 : x4 ≤ 2147483647) (h30 : -2147483648 ≤ x5) (h31 : x5 ≤ 2147483647) (h32 : -2147483648 ≤ x7) (h33 : x7 ≤ 2147483647) (h34 : -2147483648 ≤ x8) (h35 : x8 ≤ 2147483647) (h36 : -2147483648 ≤ x9) (h37 : x9 ≤ 2147483647) : x0 + x1 ≤ 2147483647 := by omega
theorem o38_119 {x0 x1 x2 x3 x4 x6 x7 x8 x9 x10 : Int} {x5 : Nat} (h0 : 0 ≤ x0) (h1 : x0 ≤ 3) (h2 : 1 ≤ x1) (h3 : x1 ≤ 1) (h4 : 1 ≤ x2) (h5 : x2 ≤ 4) (h6 : 0 ≤ x3) (h7 : x3 ≤ 40) (h8 : x3 = x2) (h9 : ¬ x1 = x3) (h10 : 0 ≤ x4) (h11 : x4 ≤ 4) (h12 : 4 - x4 < ((x5 + 1 : Nat) : Int)) (h13 : 0 ≤ x6) (h14 : x6 ≤ 40) (h15 : x6 = x2) (h16 : x4 < x6) (h17 : x7 = 40 * x0) (h18 : x8 = x7 + x4) (h19 : x9 = 1) (h20 : x10 = x1 + x9) : 0 ≤ x0 := by omega
theorem o38_120 {x0 x1 x2 x3 x4 x6 x7 x8 x9 x10 : Int} {x5 : Nat} (h0 : 0 ≤ x0) (h1 : x0 ≤ 3) (h2 : 1 ≤ x1) (h3 : x1 ≤ 1) (h4 : 1 ≤ x2) (h5 : x2 ≤ 4) (h6 : 0 ≤ x3) (h7 : x3 ≤ 40) (h8 : x3 = x2) (h9 : ¬ x1 = x3) (h10 : 0 ≤ x4) (h11 : x4 ≤ 4) (h12 : 4 - x4 < ((x5 + 1 : Nat) : Int)) (h13 : 0 ≤ x6) (h14 : x6 ≤ 40) (h15 : x6 = x2) (h16 : x4 < x6) (h17 : x7 = 40 * x0) (h18 : x8 = x7 + x4) (h19 : x9 = 1) (h20 : x10 = x1 + x9) : x0 ≤ 3 := by omega
theorem o38_121 {x0 x1 x2 x3 x4 x5 x7 x8 x9 x10 : Int} {x6 : Nat} (h0 : 0 ≤ x1) (h1 : x1 ≤ 3) (h2 : 1 ≤ x2) (h3 : x2 ≤ 1) (h4 : 1 ≤ x3) (h5 : x3 ≤ 4) (h6 : 0 ≤ x4) (h7 : x4 ≤ 40) (h8 : x4 = x3) (h9 : ¬ x2 = x4) (h10 : 0 ≤ x5) (h11 : x5 ≤ 4) (h12 : 4 - x5 < ((x6 + 1 : Nat) : Int)) (h13 : 0 ≤ x7) (h14 : x7 ≤ 40) (h15 : x7 = x3) (h16 : x5 < x7) (h17 : x8 = 40 * x1) (h18 : x9 = x8 + x5) (h19 : x10 = 1) (h20 : x0 = x2 + x10) : 2 ≤ x0 := by omega
theorem o38_122 {x0 x1 x2 x3 x4 x5 x7 x8 x9 x10 : Int} {x6 : Nat} (h0 : 0 ≤ x1) (h1 : x1 ≤ 3) (h2 : 1 ≤ x2) (h3 : x2 ≤ 1) (h4 : 1 ≤ x3) (h5 : x3 ≤ 4) (h6 : 0 ≤ x4) (h7 : x4 ≤ 40) (h8 : x4 = x3) (h9 : ¬ x2 = x4) (h10 : 0 ≤ x5) (h11 : x5 ≤ 4) (h12 : 4 - x5 < ((x6 + 1 : Nat) : Int)) (h13 : 0 ≤ x7) (h14 : x7 ≤ 40) (h15 : x7 = x3) (h16 : x5 < x7) (h17 : x8 = 40 * x1) (h18 : x9 = x8 + x5) (h19 : x10 = 1) (h20 : x0 = x2 + x10) : x0 ≤ 2 := by omega
theorem o38_123 {x0 x1 x2 x3 x4 x6 x7 x8 x9 x10 : Int} {x5 : Nat} (h0 : 0 ≤ x1) (h1 : x1 ≤ 3) (h2 : 1 ≤ x2) (h3 : x2 ≤ 1) (h4 : 1 ≤ x0) (h5 : x0 ≤ 4) (h6 : 0 ≤ x3) (h7 : x3 ≤ 40) (h8 : x3 = x0) (h9 : ¬ x2 = x3) (h10 : 0 ≤ x4) (h11 : x4 ≤ 4) (h12 : 4 - x4 < ((x5 + 1 : Nat) : Int)) (h13 : 0 ≤ x6) (h14 : x6 ≤ 40) (h15 : x6 = x0) (h16 : x4 < x6) (h17 : x7 = 40 * x1) (h18 : x8 = x7 + x4) (h19 : x9 = 1) (h20 : x10 = x2 + x9) : 2 ≤ x0 := by omega
theorem o38_124 {x0 x1 x2 x3 x4 x6 x7 x8 x9 x10 : Int} {x5 : Nat} (h0 : 0 ≤ x1) (h1 : x1 ≤ 3) (h2 : 1 ≤ x2) (h3 : x2 ≤ 1) (h4 : 1 ≤ x0) (h5 : x0 ≤ 4) (h6 : 0 ≤ x3) (h7 : x3 ≤ 40) (h8 : x3 = x0) (h9 : ¬ x2 = x3) (h10 : 0 ≤ x4) (h11 : x4 ≤ 4) (h12 : 4 - x4 < ((x5 + 1 : Nat) : Int)) (h13 : 0 ≤ x6) (h14 : x6 ≤ 40) (h15 : x6 = x0) (h16 : x4 < x6) (h17 : x7 = 40 * x1) (h18 : x8 = x7 + x4) (h19 : x9 = 1) (h20 : x10 = x2 + x9) : x0 ≤ 4 := by omega
theorem o38_125 {x0 x1 x2 x3 x4 x6 x7 x8 x9 x10 : Int} {x5 : Nat} (h0 : 0 ≤ x1) (h1 : x1 ≤ 3) (h2 : 1 ≤ x2) (h3 : x2 ≤ 1) (h4 : 1 ≤ x3) (h5 : x3 ≤ 4) (h6 : 0 ≤ x4) (h7 : x4 ≤ 40) (h8 : x4 = x3) (h9 : ¬ x2 = x4) (h10 : 0 ≤ x0) (h11 : x0 ≤ 4) (h12 : 4 - x0 < ((x5 + 1 : Nat) : Int)) (h13 : 0 ≤ x6) (h14 : x6 ≤ 40) (h15 : x6 = x3) (h16 : x0 < x6) (h17 : x7 = 40 * x1) (h18 : x8 = x7 + x0) (h19 : x9 = 1) (h20 : x10 = x2 + x9) (h21 : -2147483648 ≤ x0) (h22 : x0 ≤ 2147483647) (h23 : -2147483648 ≤ x1) (h24 : x1 ≤ 2147483647) (h25 : -2147483648 ≤ x2) (h26 : x2 ≤ 2147483647) (h27 : -2147483648 ≤ x3) (h28 : x3 ≤ 2147483647) (h29 : -2147483648 ≤ x4) (h30 : x4 ≤ 2147483647) (h31 : -2147483648 ≤ x6) (h32 : x6 ≤ 2147483647) (h33 : -2147483648 ≤ x7) (h34 : x7 ≤ 2147483647) (h35 : -2147483648 ≤ x8) (h36 : x8 ≤ 2147483647) (h37 : -2147483648 ≤ x9) (h38 : x9 ≤ 2147483647) (h39 : -2147483648 ≤ x10) (h40 : x10 ≤ 2147483647) : -2147483648 ≤ x0 + 1 := by omega
theorem o38_126 {x0 x1 x2 x3 x4 x6 x7 x8 x9 x10 : Int} {x5 : Nat} (h0 : 0 ≤ x1) (h1 : x1 ≤ 3) (h2 : 1 ≤ x2) (h3 : x2 ≤ 1) (h4 : 1 ≤ x3) (h5 : x3 ≤ 4) (h6 : 0 ≤ x4) (h7 : x4 ≤ 40) (h8 : x4 = x3) (h9 : ¬ x2 = x4) (h10 : 0 ≤ x0) (h11 : x0 ≤ 4) (h12 : 4 - x0 < ((x5 + 1 : Nat) : Int)) (h13 : 0 ≤ x6) (h14 : x6 ≤ 40) (h15 : x6 = x3) (h16 : x0 < x6) (h17 : x7 = 40 * x1) (h18 : x8 = x7 + x0) (h19 : x9 = 1) (h20 : x10 = x2 + x9) (h21 : -2147483648 ≤ x0) (h22 : x0 ≤ 2147483647) (h23 : -2147483648 ≤ x1) (h24 : x1 ≤ 2147483647) (h25 : -2147483648 ≤ x2) (h26 : x2 ≤ 2147483647) (h27 : -2147483648 ≤ x3) (h28 : x3 ≤ 2147483647) (h29 : -2147483648 ≤ x4) (h30 : x4 ≤ 2147483647) (h31 : -2147483648 ≤ x6) (h32 : x6 ≤ 2147483647) (h33 : -2147483648 ≤ x7) (h34 : x7 ≤ 2147483647) (h35 : -2147483648 ≤ x8) (h36 : x8 ≤ 2147483647) (h37 : -2147483648 ≤ x9) (h38 : x9 ≤ 2147483647) (h39 : -2147483648 ≤ x10) (h40 : x10 ≤ 2147483647) : x0 + 1 ≤ 2147483647 := by omega
theorem o38_127 {x0 x2 x3 x4 x5 x6 x7 x8 x9 x10 x11 : Int} {x1 : Nat} (h0 : 0 ≤ x2) (h1 : x2 ≤ 3) (h2 : 1 ≤ x3) (h3 : x3 ≤ 1) (h4 : 1 ≤ x4) (h5 : x4 ≤ 4) (h6 : 0 ≤ x5) (h7 : x5 ≤ 40) (h8 : x5 = x4) (h9 : ¬ x3 = x5) (h10 : 0 ≤ x6) (h11 : x6 ≤ 4) (h12 : 4 - x6 < ((x1 + 1 : Nat) : Int)) (h13 : 0 ≤ x7) (h14 : x7 ≤ 40) (h15 : x7 = x4) (h16 : x6 < x7) (h17 : x8 = 40 * x2) (h18 : x9 = x8 + x6) (h19 : x10 = 1) (h20 : x11 = x3 + x10) (h21 : x0 = x6 + 1) : 4 - x0 < (x1 : Int) := by omega
theorem o38_128 {x0 x1 x2 x3 x4 x5 x7 x8 x9 x10 x11 : Int} {x6 : Nat} (h0 : 0 ≤ x1) (h1 : x1 ≤ 3) (h2 : 1 ≤ x2) (h3 : x2 ≤ 1) (h4 : 1 ≤ x3) (h5 : x3 ≤ 4) (h6 : 0 ≤ x4) (h7 : x4 ≤ 40) (h8 : x4 = x3) (h9 : ¬ x2 = x4) (h10 : 0 ≤ x5) (h11 : x5 ≤ 4) (h12 : 4 - x5 < ((x6 + 1 : Nat) : Int)) (h13 : 0 ≤ x7) (h14 : x7 ≤ 40) (h15 : x7 = x3) (h16 : x5 < x7) (h17 : x8 = 40 * x1) (h18 : x9 = x8 + x5) (h19 : x10 = 1) (h20 : x11 = x2 + x10) (h21 : x0 = x5 + 1) : 0 ≤ x0 := by omega
theorem o38_129 {x0 x1 x2 x3 x4 x5 x7 x8 x9 x10 x11 : Int} {x6 : Nat} (h0 : 0 ≤ x1) (h1 : x1 ≤ 3) (h2 : 1 ≤ x2) (h3 : x2 ≤ 1) (h4 : 1 ≤ x3) (h5 : x3 ≤ 4) (h6 : 0 ≤ x4) (h7 : x4 ≤ 40) (h8 : x4 = x3) (h9 : ¬ x2 = x4) (h10 : 0 ≤ x5) (h11 : x5 ≤ 4) (h12 : 4 - x5 < ((x6 + 1 : Nat) : Int)) (h13 : 0 ≤ x7) (h14 : x7 ≤ 40) (h15 : x7 = x3) (h16 : x5 < x7) (h17 : x8 = 40 * x1) (h18 : x9 = x8 + x5) (h19 : x10 = 1) (h20 : x11 = x2 + x10) (h21 : x0 = x5 + 1) : x0 ≤ 4 := by omega
theorem o38_130 {x0 x1 x2 x3 x4 x6 x7 x8 : Int} {x5 : Nat} (h0 : 0 ≤ x1) (h1 : x1 ≤ 3) (h2 : 1 ≤ x2) (h3 : x2 ≤ 1) (h4 : 1 ≤ x3) (h5 : x3 ≤ 4) (h6 : 0 ≤ x4) (h7 : x4 ≤ 40) (h8 : x4 = x3) (h9 : ¬ x2 = x4) (h10 : 0 ≤ x0) (h11 : x0 ≤ 4) (h12 : 4 - x0 < ((x5 + 1 : Nat) : Int)) (h13 : 0 ≤ x6) (h14 : x6 ≤ 40) (h15 : x6 = x3) (h16 : x0 < x6) (h17 : x7 = 40 * x1) (h18 : x8 = x7 + x0) (h19 : -2147483648 ≤ x0) (h20 : x0 ≤ 2147483647) (h21 : -2147483648 ≤ x1) (h22 : x1 ≤ 2147483647) (h23 : -2147483648 ≤ x2) (h24 : x2 ≤ 2147483647) (h25 : -2147483648 ≤ x3) (h26 : x3 ≤ 2147483647) (h27 : -2147483648 ≤ x4) (h28 : x4 ≤ 2147483647) (h29 : -2147483648 ≤ x6) (h30 : x6 ≤ 2147483647) (h31 : -2147483648 ≤ x7) (h32 : x7 ≤ 2147483647) (h33 : -2147483648 ≤ x8) (h34 : x8 ≤ 2147483647) : -2147483648 ≤ x0 + 1 := by omega
theorem o38_131 {x0 x1 x2 x3 x4 x6 x7 x8 : Int} {x5 : Nat} (h0 : 0 ≤ x1) (h1 : x1 ≤ 3) (h2 : 1 ≤ x2) (h3 : x2 ≤ 1) (h4 : 1 ≤ x3) (h5 : x3 ≤ 4) (h6 : 0 ≤ x4) (h7 : x4 ≤ 40) (h8 : x4 = x3) (h9 : ¬ x2 = x4) (h10 : 0 ≤ x0) (h11 : x0 ≤ 4) (h12 : 4 - x0 < ((x5 + 1 : Nat) : Int)) (h13 : 0 ≤ x6) (h14 : x6 ≤ 40) (h15 : x6 = x3) (h16 : x0 < x6) (h17 : x7 = 40 * x1) (h18 : x8 = x7 + x0) (h19 : -2147483648 ≤ x0) (h20 : x0 ≤ 2147483647) (h21 : -2147483648 ≤ x1) (h22 : x1 ≤ 2147483647) (h23 : -2147483648 ≤ x2) (h24 : x2 ≤ 2147483647) (h25 : -2147483648 ≤ x3) (h26 : x3 ≤ 2147483647) (h27 : -2147483648 ≤ x4) (h28 : x4 ≤ 2147483647) (h29 : -2147483648 ≤ x6) (h30 : x6 ≤ 2147483647) (h31 : -2147483648 ≤ x7) (h32 : x7 ≤ 2147483647) (h33 : -2147483648 ≤ x8) (h34 : x8 ≤ 2147483647) : x0 + 1 ≤ 2147483647 := by omega
theorem o38_132 {x0 x2 x3 x4 x5 x6 x7 x8 x9 : Int} {x1 : Nat} (h0 : 0 ≤ x2) (h1 : x2 ≤ 3) (h2 : 1 ≤ x3) (h3 : x3 ≤ 1) (h4 : 1 ≤ x4) (h5 : x4 ≤ 4) (h6 : 0 ≤ x5) (h7 : x5 ≤ 40) (h8 : x5 = x4) (h9 : ¬ x3 = x5) (h10 : 0 ≤ x6) (h11 : x6 ≤ 4) (h12 : 4 - x6 < ((x1 + 1 : Nat) : Int)) (h13 : 0 ≤ x7) (h14 : x7 ≤ 40) (h15 : x7 = x4) (h16 : x6 < x7) (h17 : x8 = 40 * x2) (h18 : x9 = x8 + x6) (h19 : x0 = x6 + 1) : 4 - x0 < (x1 : Int) := by omega
theorem o38_133 {x0 x1 x2 x3 x4 x5 x7 x8 x9 : Int} {x6 : Nat} (h0 : 0 ≤ x1) (h1 : x1 ≤ 3) (h2 : 1 ≤ x2) (h3 : x2 ≤ 1) (h4 : 1 ≤ x3) (h5 : x3 ≤ 4) (h6 : 0 ≤ x4) (h7 : x4 ≤ 40) (h8 : x4 = x3) (h9 : ¬ x2 = x4) (h10 : 0 ≤ x5) (h11 : x5 ≤ 4) (h12 : 4 - x5 < ((x6 + 1 : Nat) : Int)) (h13 : 0 ≤ x7) (h14 : x7 ≤ 40) (h15 : x7 = x3) (h16 : x5 < x7) (h17 : x8 = 40 * x1) (h18 : x9 = x8 + x5) (h19 : x0 = x5 + 1) : 0 ≤ x0 := by omega
theorem o38_134 {x0 x1 x2 x3 x4 x5 x7 x8 x9 : Int} {x6 : Nat} (h0 : 0 ≤ x1) (h1 : x1 ≤ 3) (h2 : 1 ≤ x2) (h3 : x2 ≤ 1) (h4 : 1 ≤ x3) (h5 : x3 ≤ 4) (h6 : 0 ≤ x4) (h7 : x4 ≤ 40) (h8 : x4 = x3) (h9 : ¬ x2 = x4) (h10 : 0 ≤ x5) (h11 : x5 ≤ 4) (h12 : 4 - x5 < ((x6 + 1 : Nat) : Int)) (h13 : 0 ≤ x7) (h14 : x7 ≤ 40) (h15 : x7 = x3) (h16 : x5 < x7) (h17 : x8 = 40 * x1) (h18 : x9 = x8 + x5) (h19 : x0 = x5 + 1) : x0 ≤ 4 := by omega
theorem o38_135 {x0 x1 x2 x3 x5 : Int} {x4 : Nat} (h0 : 1 ≤ x1) (h1 : x1 ≤ 1) (h2 : 1 ≤ x2) (h3 : x2 ≤ 4) (h4 : 0 ≤ x3) (h5 : x3 ≤ 40) (h6 : x3 = x2) (h7 : ¬ x1 = x3) (h8 : 0 ≤ x0) (h9 : x0 ≤ 4) (h10 : 4 - x0 < ((x4 + 1 : Nat) : Int)) (h11 : 0 ≤ x5) (h12 : x5 ≤ 40) (h13 : x5 = x2) (h14 : x0 < x5) (h15 : -2147483648 ≤ x0) (h16 : x0 ≤ 2147483647) (h17 : -2147483648 ≤ x1) (h18 : x1 ≤ 2147483647) (h19 : -2147483648 ≤ x2) (h20 : x2 ≤ 2147483647) (h21 : -2147483648 ≤ x3) (h22 : x3 ≤ 2147483647) (h23 : -2147483648 ≤ x5) (h24 : x5 ≤ 2147483647) : -2147483648 ≤ x0 + 1 := by omega
theorem o38_136 {x0 x1 x2 x3 x5 : Int} {x4 : Nat} (h0 : 1 ≤ x1) (h1 : x1 ≤ 1) (h2 : 1 ≤ x2) (h3 : x2 ≤ 4) (h4 : 0 ≤ x3) (h5 : x3 ≤ 40) (h6 : x3 = x2) (h7 : ¬ x1 = x3) (h8 : 0 ≤ x0) (h9 : x0 ≤ 4) (h10 : 4 - x0 < ((x4 + 1 : Nat) : Int)) (h11 : 0 ≤ x5) (h12 : x5 ≤ 40) (h13 : x5 = x2) (h14 : x0 < x5) (h15 : -2147483648 ≤ x0) (h16 : x0 ≤ 2147483647) (h17 : -2147483648 ≤ x1) (h18 : x1 ≤ 2147483647) (h19 : -2147483648 ≤ x2) (h20 : x2 ≤ 2147483647) (h21 : -2147483648 ≤ x3) (h22 : x3 ≤ 2147483647) (h23 : -2147483648 ≤ x5) (h24 : x5 ≤ 2147483647) : x0 + 1 ≤ 2147483647 := by omega
theorem o38_137 {x0 x2 x3 x4 x5 x6 : Int} {x1 : Nat} (h0 : 1 ≤ x2) (h1 : x2 ≤ 1) (h2 : 1 ≤ x3) (h3 : x3 ≤ 4) (h4 : 0 ≤ x4) (h5 : x4 ≤ 40) (h6 : x4 = x3) (h7 : ¬ x2 = x4) (h8 : 0 ≤ x5) (h9 : x5 ≤ 4) (h10 : 4 - x5 < ((x1 + 1 : Nat) : Int)) (h11 : 0 ≤ x6) (h12 : x6 ≤ 40) (h13 : x6 = x3) (h14 : x5 < x6) (h15 : x0 = x5 + 1) : 4 - x0 < (x1 : Int) := by omega
theorem o38_138 {x0 x1 x2 x3 x4 x6 : Int} {x5 : Nat} (h0 : 1 ≤ x1) (h1 : x1 ≤ 1) (h2 : 1 ≤ x2) (h3 : x2 ≤ 4) (h4 : 0 ≤ x3) (h5 : x3 ≤ 40) (h6 : x3 = x2) (h7 : ¬ x1 = x3) (h8 : 0 ≤ x4) (h9 : x4 ≤ 4) (h10 : 4 - x4 < ((x5 + 1 : Nat) : Int)) (h11 : 0 ≤ x6) (h12 : x6 ≤ 40) (h13 : x6 = x2) (h14 : x4 < x6) (h15 : x0 = x4 + 1) : 0 ≤ x0 := by omega
theorem o38_139 {x0 x1 x2 x3 x4 x6 : Int} {x5 : Nat} (h0 : 1 ≤ x1) (h1 : x1 ≤ 1) (h2 : 1 ≤ x2) (h3 : x2 ≤ 4) (h4 : 0 ≤ x3) (h5 : x3 ≤ 40) (h6 : x3 = x2) (h7 : ¬ x1 = x3) (h8 : 0 ≤ x4) (h9 : x4 ≤ 4) (h10 : 4 - x4 < ((x5 + 1 : Nat) : Int)) (h11 : 0 ≤ x6) (h12 : x6 ≤ 40) (h13 : x6 = x2) (h14 : x4 < x6) (h15 : x0 = x4 + 1) : x0 ≤ 4 := by omega
theorem o38_140 {x0 : Int} (h0 : 0 ≤ x0) (h1 : x0 ≤ 1) (h2 : 1 - x0 < 0) : False := by omega
theorem o38_141 {x0 x1 x2 x3 : Int} {x4 : Nat} (h0 : 1 ≤ x1) (h1 : x1 ≤ 1) (h2 : 1 ≤ x2) (h3 : x2 ≤ 4) (h4 : 0 ≤ x3) (h5 : x3 ≤ 40) (h6 : x3 = x2) (h7 : x1 = x3) (h8 : 0 ≤ x0) (h9 : x0 ≤ 1) (h10 : 1 - x0 < ((x4 + 1 : Nat) : Int)) (h11 : x0 < x1) : 0 ≤ x0 := by omega
theorem o38_142 {x0 x1 x2 x3 : Int} {x4 : Nat} (h0 : 1 ≤ x1) (h1 : x1 ≤ 1) (h2 : 1 ≤ x2) (h3 : x2 ≤ 4) (h4 : 0 ≤ x3) (h5 : x3 ≤ 40) (h6 : x3 = x2) (h7 : x1 = x3) (h8 : 0 ≤ x0) (h9 : x0 ≤ 1) (h10 : 1 - x0 < ((x4 + 1 : Nat) : Int)) (h11 : x0 < x1) : x0 < (4 : Nat) := by omega
theorem o38_143 {x0 x1 x2 x3 : Int} {x4 : Nat} (h0 : 1 ≤ x1) (h1 : x1 ≤ 1) (h2 : 1 ≤ x2) (h3 : x2 ≤ 4) (h4 : 0 ≤ x3) (h5 : x3 ≤ 40) (h6 : x3 = x2) (h7 : x1 = x3) (h8 : 0 ≤ x0) (h9 : x0 ≤ 1) (h10 : 1 - x0 < ((x4 + 1 : Nat) : Int)) (h11 : x0 < x1) : x0 = ((0 : Nat) : Int) := by omega
theorem o38_144 {x0 x1 x2 x3 : Int} {x4 : Nat} (h0 : 1 ≤ x1) (h1 : x1 ≤ 1) (h2 : 1 ≤ x2) (h3 : x2 ≤ 4) (h4 : 0 ≤ x3) (h5 : x3 ≤ 40) (h6 : x3 = x2) (h7 : x1 = x3) (h8 : 0 ≤ x0) (h9 : x0 ≤ 1) (h10 : 1 - x0 < ((x4 + 1 : Nat) : Int)) (h11 : x0 < x1) (h12 : -2147483648 ≤ x0) (h13 : x0 ≤ 2147483647) (h14 : -2147483648 ≤ x1) (h15 : x1 ≤ 2147483647) (h16 : -2147483648 ≤ x2) (h17 : x2 ≤ 2147483647) (h18 : -2147483648 ≤ x3) (h19 : x3 ≤ 2147483647) : -2147483648 ≤ x0 + 1 := by omega
theorem o38_145 {x0 x1 x2 x3 : Int} {x4 : Nat} (h0 : 1 ≤ x1) (h1 : x1 ≤ 1) (h2 : 1 ≤ x2) (h3 : x2 ≤ 4) (h4 : 0 ≤ x3) (h5 : x3 ≤ 40) (h6 : x3 = x2) (h7 : x1 = x3) (h8 : 0 ≤ x0) (h9 : x0 ≤ 1) (h10 : 1 - x0 < ((x4 + 1 : Nat) : Int)) (h11 : x0 < x1) (h12 : -2147483648 ≤ x0) (h13 : x0 ≤ 2147483647) (h14 : -2147483648 ≤ x1) (h15 : x1 ≤ 2147483647) (h16 : -2147483648 ≤ x2) (h17 : x2 ≤ 2147483647) (h18 : -2147483648 ≤ x3) (h19 : x3 ≤ 2147483647) : x0 + 1 ≤ 2147483647 := by omega
theorem o38_146 {x0 x2 x3 x4 x5 : Int} {x1 : Nat} (h0 : 1 ≤ x2) (h1 : x2 ≤ 1) (h2 : 1 ≤ x3) (h3 : x3 ≤ 4) (h4 : 0 ≤ x4) (h5 : x4 ≤ 40) (h6 : x4 = x3) (h7 : x2 = x4) (h8 : 0 ≤ x5) (h9 : x5 ≤ 1) (h10 : 1 - x5 < ((x1 + 1 : Nat) : Int)) (h11 : x5 < x2) (h12 : x0 = x5 + 1) : 1 - x0 < (x1 : Int) := by omega
theorem o38_147 {x0 x1 x2 x3 x4 : Int} {x5 : Nat} (h0 : 1 ≤ x1) (h1 : x1 ≤ 1) (h2 : 1 ≤ x2) (h3 : x2 ≤ 4) (h4 : 0 ≤ x3) (h5 : x3 ≤ 40) (h6 : x3 = x2) (h7 : x1 = x3) (h8 : 0 ≤ x4) (h9 : x4 ≤ 1) (h10 : 1 - x4 < ((x5 + 1 : Nat) : Int)) (h11 : x4 < x1) (h12 : x0 = x4 + 1) : 0 ≤ x0 := by omega
theorem o38_148 {x0 x1 x2 x3 x4 : Int} {x5 : Nat} (h0 : 1 ≤ x1) (h1 : x1 ≤ 1) (h2 : 1 ≤ x2) (h3 : x2 ≤ 4) (h4 : 0 ≤ x3) (h5 : x3 ≤ 40) (h6 : x3 = x2) (h7 : x1 = x3) (h8 : 0 ≤ x4) (h9 : x4 ≤ 1) (h10 : 1 - x4 < ((x5 + 1 : Nat) : Int)) (h11 : x4 < x1) (h12 : x0 = x4 + 1) : x0 ≤ 1 := by omega
theorem o38_149 {x0 : Int} (h0 : x0 = 0) : 1 - x0 < (((1 - x0 + 1).toNat : Nat) : Int) := by omega
theorem o38_150 {x0 : Int} (h0 : x0 = 0) : x0 ≤ 1 := by omega
theorem o38_151 {x0 x1 x2 : Int} (h0 : 0 ≤ x0) (h1 : x0 ≤ 0) (h2 : 1 ≤ x2) (h3 : x2 ≤ 4) (h4 : 0 ≤ x1) (h5 : x1 ≤ 40) (h6 : x1 = x2) (h7 : x0 = x1) : False := by omega
theorem o38_152 {x0 x1 x2 x3 x4 x5 x7 : Int} {x6 : Nat} (h0 : 0 ≤ x2) (h1 : x2 ≤ 3) (h2 : 0 ≤ x3) (h3 : x3 ≤ 0) (h4 : 1 ≤ x4) (h5 : x4 ≤ 4) (h6 : 0 ≤ x5) (h7 : x5 ≤ 40) (h8 : x5 = x4) (h9 : ¬ x3 = x5) (h10 : 0 ≤ x1) (h11 : x1 ≤ 4) (h12 : 4 - x1 < ((x6 + 1 : Nat) : Int)) (h13 : 0 ≤ x7) (h14 : x7 ≤ 40) (h15 : x7 = x4) (h16 : x1 < x7) (h17 : x0 = 40 * x2) (h18 : -2147483648 ≤ x0) (h19 : x0 ≤ 2147483647) (h20 : -2147483648 ≤ x1) (h21 : x1 ≤ 2147483647) (h22 : -2147483648 ≤ x2) (h23 : x2 ≤ 2147483647) (h24 : -2147483648 ≤ x3) (h25 : x3 ≤ 2147483647) (h26 : -2147483648 ≤ x4) (h27 : x4 ≤ 2147483647) (h28 : -2147483648 ≤ x5) (h29 : x5 ≤ 2147483647) (h30 : -2147483648 ≤ x7) (h31 : x7 ≤ 2147483647) : -2147483648 ≤ x0 + x1 := by omega
theorem o38_153 {x0 x1 x2 x3 x4 x5 x7 : Int} {x6 : Nat} (h0 : 0 ≤ x2) (h1 : x2 ≤ 3) (h2 : 0 ≤ x3) (h3 : x3 ≤ 0) (h4 : 1 ≤ x4) (h5 : x4 ≤ 4) (h6 : 0 ≤ x5) (h7 : x5 ≤ 40) (h8 : x5 = x4) (h9 : ¬ x3 = x5) (h10 : 0 ≤ x1) (h11 : x1 ≤ 4) (h12 : 4 - x1 < ((x6 + 1 : Nat) : Int)) (h13 : 0 ≤ x7) (h14 : x7 ≤ 40) (h15 : x7 = x4) (h16 : x1 < x7) (h17 : x0 = 40 * x2) (h18 : -2147483648 ≤ x0) (h19 : x0 ≤ 2147483647) (h20 : -2147483648 ≤ x1) (h21 : x1 ≤ 2147483647) (h22 : -2147483648 ≤ x2) (h23 : x2 ≤ 2147483647) (h24 : -2147483648 ≤ x3) (h25 : x3 ≤ 2147483647) (h26 : -2147483648 ≤ x4) (h27 : x4 ≤ 2147483647) (h28 : -2147483648 ≤ x5) (h29 : x5 ≤ 2147483647) (h30 : -2147483648 ≤ x7) (h31 : x7 ≤ 2147483647) : x0 + x1 ≤ 2147483647 := by omega
theorem o38_154 {x0 x1 x2 x3 x4 x5 x7 x8 : Int} {x6 : Nat} (h0 : 0 ≤ x1) (h1 : x1 ≤ 3) (h2 : 0 ≤ x2) (h3 : x2 ≤ 0) (h4 : 1 ≤ x3) (h5 : x3 ≤ 4) (h6 : 0 ≤ x4) (h7 : x4 ≤ 40) (h8 : x4 = x3) (h9 : ¬ x2 = x4) (h10 : 0 ≤ x5) (h11 : x5 ≤ 4) (h12 : 4 - x5 < ((x6 + 1 : Nat) : Int)) (h13 : 0 ≤ x7) (h14 : x7 ≤ 40) (h15 : x7 = x3) (h16 : x5 < x7) (h17 : x8 = 40 * x1) (h18 : x0 = x8 + x5) : 0 ≤ x0 := by omega
theorem o38_155 {x0 x1 x2 x3 x4 x5 x7 x8 : Int} {x6 : Nat} (h0 : 0 ≤ x1) (h1 : x1 ≤ 3) (h2 : 0 ≤ x2) (h3 : x2 ≤ 0) (h4 : 1 ≤ x3) (h5 : x3 ≤ 4) (h6 : 0 ≤ x4) (h7 : x4 ≤ 40) (h8 : x4 = x3) (h9 : ¬ x2 = x4) (h10 : 0 ≤ x5) (h11 : x5 ≤ 4) (h12 : 4 - x5 < ((x6 + 1 : Nat) : Int)) (h13 : 0 ≤ x7) (h14 : x7 ≤ 40) (h15 : x7 = x3) (h16 : x5 < x7) (h17 : x8 = 40 * x1) (h18 : x0 = x8 + x5) : x0 < (160 : Nat) := by omega
theorem o38_156 {x0 x1 x2 x3 x4 x6 x7 x8 : Int} {x5 : Nat} (h0 : 0 ≤ x2) (h1 : x2 ≤ 3) (h2 : 0 ≤ x3) (h3 : x3 ≤ 0) (h4 : 1 ≤ x1) (h5 : x1 ≤ 4) (h6 : 0 ≤ x4) (h7 : x4 ≤ 40) (h8 : x4 = x1) (h9 : ¬ x3 = x4) (h10 : 0 ≤ x0) (h11 : x0 ≤ 4) (h12 : 4 - x0 < ((x5 + 1 : Nat) : Int)) (h13 : 0 ≤ x6) (h14 : x6 ≤ 40) (h15 : x6 = x1) (h16 : x0 < x6) (h17 : x7 = 40 * x2) (h18 : x8 = x7 + x0) : (x0).toNat < (x1).toNat := by omega
theorem o38_157 {x0 x1 x2 x3 x4 x5 x7 x8 : Int} {x6 : Nat} (h0 : 0 ≤ x1) (h1 : x1 ≤ 3) (h2 : 0 ≤ x3) (h3 : x3 ≤ 0) (h4 : 1 ≤ x4) (h5 : x4 ≤ 4) (h6 : 0 ≤ x5) (h7 : x5 ≤ 40) (h8 : x5 = x4) (h9 : ¬ x3 = x5) (h10 : 0 ≤ x2) (h11 : x2 ≤ 4) (h12 : 4 - x2 < ((x6 + 1 : Nat) : Int)) (h13 : 0 ≤ x7) (h14 : x7 ≤ 40) (h15 : x7 = x4) (h16 : x2 < x7) (h17 : x8 = 40 * x1) (h18 : x0 = x8 + x2) : (x0).toNat = 40 * (x1).toNat + (x2).toNat := by omega
theorem o38_158 {x0 x1 x2 x3 x4 x6 x7 x8 : Int} {x5 : Nat} (h0 : 0 ≤ x1) (h1 : x1 ≤ 3) (h2 : 0 ≤ x0) (h3 : x0 ≤ 0) (h4 : 1 ≤ x2) (h5 : x2 ≤ 4) (h6 : 0 ≤ x3) (h7 : x3 ≤ 40) (h8 : x3 = x2) (h9 : ¬ x0 = x3) (h10 : 0 ≤ x4) (h11 : x4 ≤ 4) (h12 : 4 - x4 < ((x5 + 1 : Nat) : Int)) (h13 : 0 ≤ x6) (h14 : x6 ≤ 40) (h15 : x6 = x2) (h16 : x4 < x6) (h17 : x7 = 40 * x1) (h18 : x8 = x7 + x4) : 0 ≤ x0 := by omega
theorem o38_159 {x0 x1 x2 x3 x4 x6 x7 x8 : Int} {x5 : Nat} (h0 : 0 ≤ x1) (h1 : x1 ≤ 3) (h2 : 0 ≤ x0) (h3 : x0 ≤ 0) (h4 : 1 ≤ x2) (h5 : x2 ≤ 4) (h6 : 0 ≤ x3) (h7 : x3 ≤ 40) (h8 : x3 = x2) (h9 : ¬ x0 = x3) (h10 : 0 ≤ x4) (h11 : x4 ≤ 4) (h12 : 4 - x4 < ((x5 + 1 : Nat) : Int)) (h13 : 0 ≤ x6) (h14 : x6 ≤ 40) (h15 : x6 = x2) (h16 : x4 < x6) (h17 : x7 = 40 * x1) (h18 : x8 = x7 + x4) : x0 < (4 : Nat) := by omega
theorem o38_160 {x0 x1 x2 x3 x4 x6 x7 x8 : Int} {x5 : Nat} (h0 : 0 ≤ x1) (h1 : x1 ≤ 3) (h2 : 0 ≤ x0) (h3 : x0 ≤ 0) (h4 : 1 ≤ x2) (h5 : x2 ≤ 4) (h6 : 0 ≤ x3) (h7 : x3 ≤ 40) (h8 : x3 = x2) (h9 : ¬ x0 = x3) (h10 : 0 ≤ x4) (h11 : x4 ≤ 4) (h12 : 4 - x4 < ((x5 + 1 : Nat) : Int)) (h13 : 0 ≤ x6) (h14 : x6 ≤ 40) (h15 : x6 = x2) (h16 : x4 < x6) (h17 : x7 = 40 * x1) (h18 : x8 = x7 + x4) : x0 = ((0 : Nat) : Int) := by omega
theorem o38_161 {x0 x1 x2 x3 x4 x5 x7 x8 x9 : Int} {x6 : Nat} (h0 : 0 ≤ x2) (h1 : x2 ≤ 3) (h2 : 0 ≤ x0) (h3 : x0 ≤ 0) (h4 : 1 ≤ x3) (h5 : x3 ≤ 4) (h6 : 0 ≤ x4) (h7 : x4 ≤ 40) (h8 : x4 = x3) (h9 : ¬ x0 = x4) (h10 : 0 ≤ x5) (h11 : x5 ≤ 4) (h12 : 4 - x5 < ((x6 + 1 : Nat) : Int)) (h13 : 0 ≤ x7) (h14 : x7 ≤ 40) (h15 : x7 = x3) (h16 : x5 < x7) (h17 : x8 = 40 * x2) (h18 : x9 = x8 + x5) (h19 : x1 = 1) (h20 : -2147483648 ≤ x0) (h21 : x0 ≤ 2147483647) (h22 : -2147483648 ≤ x1) (h23 : x1 ≤ 2147483647) (h24 : -2147483648 ≤ x2) (h25 : x2 ≤ 2147483647) (h26 : -2147483648 ≤ x3) (h27 : x3 ≤ 2147483647) (h28 : -2147483648 ≤ x4) (h29 : x4 ≤ 2147483647) (h30 : -2147483648 ≤ x5) (h31 : x5 ≤ 2147483647) (h32 : -2147483648 ≤ x7) (h33 : x7 ≤ 2147483647) (h34 : -2147483648 ≤ x8) (h35 : x8 ≤ 2147483647) (h36 : -2147483648 ≤ x9) (h37 : x9 ≤ 2147483647) : -2147483648 ≤ x0 + x1 := by omega
theorem o38_162 {x0 x1 x2 x3 x4 x5 x7 x8 x9 : Int} {x6 : Nat} (h0 : 0 ≤ x2) (h1 : x2 ≤ 3) (h2 : 0 ≤ x0) (h3 : x0 ≤ 0) (h4 : 1 ≤ x3) (h5 : x3 ≤ 4) (h6 : 0 ≤ x4) (h7 : x4 ≤ 40) (h8 : x4 = x3) (h9 : ¬ x0 = x4) (h10 : 0 ≤ x5) (h11 : x5 ≤ 4) (h12 : 4 - x5 < ((x6 + 1 : Nat) : Int)) (h13 : 0 ≤ x7) (h14 : x7 ≤ 40) (h15 : x7 = x3) (h16 : x5 < x7) (h17 : x8 = 40 * x2) (h18 : x9 = x8 + x5) (h19 : x1 = 1) (h20 : -2147483648 ≤ x0) (h21 : x0 ≤ 2147483647) (h22 : -2147483648 ≤ x1) (h23 : x1 ≤ 2147483647) (h24 : -2147483648 ≤ x2) (h25 : x2 ≤ 2147483647) (h26 : -2147483648 ≤ x3) (h27 : x3 ≤ 2147483647) (h28 : -2147483648 ≤ x4) (h29 : x4 ≤ 2147483647) (h30 : -2147483648 ≤ x5) (h31 : x5 ≤ 2147483647) (h32 : -2147483648 ≤ x7) (h33 : x7 ≤ 2147483647) (h34 : -2147483648 ≤ x8) (h35 : x8 ≤ 2147483647) (h36 : -2147483648 ≤ x9) (h37 : x9 ≤ 2147483647) : x0 + x1 ≤ 2147483647 := by omega
theorem o38_163 {x0 x1 x2 x3 x4 x6 x7 x8 x9 x10 : Int} {x5 : Nat} (h0 : 0 ≤ x0) (h1 : x0 ≤ 3) (h2 : 0 ≤ x1) (h3 : x1 ≤ 0) (h4 : 1 ≤ x2) (h5 : x2 ≤ 4) (h6 : 0 ≤ x3) (h7 : x3 ≤ 40) (h8 : x3 = x2) (h9 : ¬ x1 = x3) (h10 : 0 ≤ x4) (h11 : x4 ≤ 4) (h12 : 4 - x4 < ((x5 + 1 : Nat) : Int)) (h13 : 0 ≤ x6) (h14 : x6 ≤ 40) (h15 : x6 = x2) (h16 : x4 < x6) (h17 : x7 = 40 * x0) (h18 : x8 = x7 + x4) (h19 : x9 = 1) (h20 : x10 = x1 + x9) : 0 ≤ x0 := by omega
theorem o38_164 {x0 x1 x2 x3 x4 x6 x7 x8 x9 x10 : Int} {x5 : Nat} (h0 : 0 ≤ x0) (h1 : x0 ≤ 3) (h2 : 0 ≤ x1) (h3 : x1 ≤ 0) (h4 : 1 ≤ x2) (h5 : x2 ≤ 4) (h6 : 0 ≤ x3) (h7 : x3 ≤ 40) (h8 : x3 = x2) (h9 : ¬ x1 = x3) (h10 : 0 ≤ x4) (h11 : x4 ≤ 4) (h12 : 4 - x4 < ((x5 + 1 : Nat) : Int)) (h13 : 0 ≤ x6) (h14 : x6 ≤ 40) (h15 : x6 = x2) (h16 : x4 < x6) (h17 : x7 = 40 * x0) (h18 : x8 = x7 + x4) (h19 : x9 = 1) (h20 : x10 = x1 + x9) : x0 ≤ 3 := by omega
theorem o38_165 {x0 x1 x2 x3 x4 x5 x7 x8 x9 x10 : Int} {x6 : Nat} (h0 : 0 ≤ x1) (h1 : x1 ≤ 3) (h2 : 0 ≤ x2) (h3 : x2 ≤ 0) (h4 : 1 ≤ x3) (h5 : x3 ≤ 4) (h6 : 0 ≤ x4) (h7 : x4 ≤ 40) (h8 : x4 = x3) (h9 : ¬ x2 = x4) (h10 : 0 ≤ x5) (h11 : x5 ≤ 4) (h12 : 4 - x5 < ((x6 + 1 : Nat) : Int)) (h13 : 0 ≤ x7) (h14 : x7 ≤ 40) (h15 : x7 = x3) (h16 : x5 < x7) (h17 : x8 = 40 * x1) (h18 : x9 = x8 + x5) (h19 : x10 = 1) (h20 : x0 = x2 + x10) : 1 ≤ x0 := by omega
theorem o38_166 {x0 x1 x2 x3 x4 x5 x7 x8 x9 x10 : Int} {x6 : Nat} (h0 : 0 ≤ x1) (h1 : x1 ≤ 3) (h2 : 0 ≤ x2) (h3 : x2 ≤ 0) (h4 : 1 ≤ x3) (h5 : x3 ≤ 4) (h6 : 0 ≤ x4) (h7 : x4 ≤ 40) (h8 : x4 = x3) (h9 : ¬ x2 = x4) (h10 : 0 ≤ x5) (h11 : x5 ≤ 4) (h12 : 4 - x5 < ((x6 + 1 : Nat) : Int)) (h13 : 0 ≤ x7) (h14 : x7 ≤ 40) (h15 : x7 = x3) (h16 : x5 < x7) (h17 : x8 = 40 * x1) (h18 : x9 = x8 + x5) (h19 : x10 = 1) (h20 : x0 = x2 + x10) : x0 ≤ 1 := by omega
theorem o38_167 {x0 x1 x2 x3 x4 x6 x7 x8 x9 x10 : Int} {x5 : Nat} (h0 : 0 ≤ x1) (h1 : x1 ≤ 3) (h2 : 0 ≤ x2) (h3 : x2 ≤ 0) (h4 : 1 ≤ x0) (h5 : x0 ≤ 4) (h6 : 0 ≤ x3) (h7 : x3 ≤ 40) (h8 : x3 = x0) (h9 : ¬ x2 = x3) (h10 : 0 ≤ x4) (h11 : x4 ≤ 4) (h12 : 4 - x4 < ((x5 + 1 : Nat) : Int)) (h13 : 0 ≤ x6) (h14 : x6 ≤ 40) (h15 : x6 = x0) (h16 : x4 < x6) (h17 : x7 = 40 * x1) (h18 : x8 = x7 + x4) (h19 : x9 = 1) (h20 : x10 = x2 + x9) : 1 ≤ x0 := by omega
theorem o38_168 {x0 x1 x2 x3 x4 x6 x7 x8 x9 x10 : Int} {x5 : Nat} (h0 : 0 ≤ x1) (h1 : x1 ≤ 3) (h2 : 0 ≤ x2) (h3 : x2 ≤ 0) (h4 : 1 ≤ x0) (h5 : x0 ≤ 4) (h6 : 0 ≤ x3) (h7 : x3 ≤ 40) (h8 : x3 = x0) (h9 : ¬ x2 = x3) (h10 : 0 ≤ x4) (h11 : x4 ≤ 4) (h12 : 4 - x4 < ((x5 + 1 : Nat) : Int)) (h13 : 0 ≤ x6) (h14 : x6 ≤ 40) (h15 : x6 = x0) (h16 : x4 < x6) (h17 : x7 = 40 * x1) (h18 : x8 = x7 + x4) (h19 : x9 = 1) (h20 : x10 = x2 + x9) : x0 ≤ 4 := by omega
theorem o38_169 {x0 x1 x2 x3 x4 x6 x7 x8 x9 x10 : Int} {x5 : Nat} (h0 : 0 ≤ x1) (h1 : x1 ≤ 3) (h2 : 0 ≤ x2) (h3 : x2 ≤ 0) (h4 : 1 ≤ x3) (h5 : x3 ≤ 4) (h6 : 0 ≤ x4) (h7 : x4 ≤ 40) (h8 : x4 = x3) (h9 : ¬ x2 = x4) (h10 : 0 ≤ x0) (h11 : x0 ≤ 4) (h12 : 4 - x0 < ((x5 + 1 : Nat) : Int)) (h13 : 0 ≤ x6) (h14 : x6 ≤ 40) (h15 : x6 = x3) (h16 : x0 < x6) (h17 : x7 = 40 * x1) (h18 : x8 = x7 + x0) (h19 : x9 = 1) (h20 : x10 = x2 + x9) (h21 : -2147483648 ≤ x0) (h22 : x0 ≤ 2147483647) (h23 : -2147483648 ≤ x1) (h24 : x1 ≤ 2147483647) (h25 : -2147483648 ≤ x2) (h26 : x2 ≤ 2147483647) (h27 : -2147483648 ≤ x3) (h28 : x3 ≤ 2147483647) (h29 : -2147483648 ≤ x4) (h30 : x4 ≤ 2147483647) (h31 : -2147483648 ≤ x6) (h32 : x6 ≤ 2147483647) (h33 : -2147483648 ≤ x7) (h34 : x7 ≤ 2147483647) (h35 : -2147483648 ≤ x8) (h36 : x8 ≤ 2147483647) (h37 : -2147483648 ≤ x9) (h38 : x9 ≤ 2147483647) (h39 : -2147483648 ≤ x10) (h40 : x10 ≤ 2147483647) : -2147483648 ≤ x0 + 1 := by omega
theorem o38_170 {x0 x1 x2 x3 x4 x6 x7 x8 x9 x10 : Int} {x5 : Nat} (h0 : 0 ≤ x1) (h1 : x1 ≤ 3) (h2 : 0 ≤ x2) (h3 : x2 ≤ 0) (h4 : 1 ≤ x3) (h5 : x3 ≤ 4) (h6 : 0 ≤ x4) (h7 : x4 ≤ 40) (h8 : x4 = x3) (h9 : ¬ x2 = x4) (h10 : 0 ≤ x0) (h11 : x0 ≤ 4) (h12 : 4 - x0 < ((x5 + 1 : Nat) : Int)) (h13 : 0 ≤ x6) (h14 : x6 ≤ 40) (h15 : x6 = x3) (h16 : x0 < x6) (h17 : x7 = 40 * x1) (h18 : x8 = x7 + x0) (h19 : x9 = 1) (h20 : x10 = x2 + x9) (h21 : -2147483648 ≤ x0) (h22 : x0 ≤ 2147483647) (h23 : -2147483648 ≤ x1) (h24 : x1 ≤ 2147483647) (h25 : -2147483648 ≤ x2) (h26 : x2 ≤ 2147483647) (h27 : -2147483648 ≤ x3) (h28 : x3 ≤ 2147483647) (h29 : -2147483648 ≤ x4) (h30 : x4 ≤ 2147483647) (h31 : -2147483648 ≤ x6) (h32 : x6 ≤ 2147483647) (h33 : -2147483648 ≤ x7) (h34 : x7 ≤ 2147483647) (h35 : -2147483648 ≤ x8) (h36 : x8 ≤ 2147483647) (h37 : -2147483648 ≤ x9) (h38 : x9 ≤ 2147483647) (h39 : -2147483648 ≤ x10) (h40 : x10 ≤ 2147483647) : x0 + 1 ≤ 2147483647 := by omega
theorem o38_171 {x0 x2 x3 x4 x5 x6 x7 x8 x9 x10 x11 : Int} {x1 : Nat} (h0 : 0 ≤ x2) (h1 : x2 ≤ 3) (h2 : 0 ≤ x3) (h3 : x3 ≤ 0) (h4 : 1 ≤ x4) (h5 : x4 ≤ 4) (h6 : 0 ≤ x5) (h7 : x5 ≤ 40) (h8 : x5 = x4) (h9 : ¬ x3 = x5) (h10 : 0 ≤ x6) (h11 : x6 ≤ 4) (h12 : 4 - x6 < ((x1 + 1 : Nat) : Int)) (h13 : 0 ≤ x7) (h14 : x7 ≤ 40) (h15 : x7 = x4) (h16 : x6 < x7) (h17 : x8 = 40 * x2) (h18 : x9 = x8 + x6) (h19 : x10 = 1) (h20 : x11 = x3 + x10) (h21 : x0 = x6 + 1) : 4 - x0 < (x1 : Int) := by omega
theorem o38_172 {x0 x1 x2 x3 x4 x5 x7 x8 x9 x10 x11 : Int} {x6 : Nat} (h0 : 0 ≤ x1) (h1 : x1 ≤ 3) (h2 : 0 ≤ x2) (h3 : x2 ≤ 0) (h4 : 1 ≤ x3) (h5 : x3 ≤ 4) (h6 : 0 ≤ x4) (h7 : x4 ≤ 40) (h8 : x4 = x3) (h9 : ¬ x2 = x4) (h10 : 0 ≤ x5) (h11 : x5 ≤ 4) (h12 : 4 - x5 < ((x6 + 1 : Nat) : Int)) (h13 : 0 ≤ x7) (h14 : x7 ≤ 40) (h15 : x7 = x3) (h16 : x5 < x7) (h17 : x8 = 40 * x1) (h18 : x9 = x8 + x5) (h19 : x10 = 1) (h20 : x11 = x2 + x10) (h21 : x0 = x5 + 1) : 0 ≤ x0 := by omega
theorem o38_173 {x0 x1 x2 x3 x4 x5 x7 x8 x9 x10 x11 : Int} {x6 : Nat} (h0 : 0 ≤ x1) (h1 : x1 ≤ 3) (h2 : 0 ≤ x2) (h3 : x2 ≤ 0) (h4 : 1 ≤ x3) (h5 : x3 ≤ 4) (h6 : 0 ≤ x4) (h7 : x4 ≤ 40) (h8 : x4 = x3) (h9 : ¬ x2 = x4) (h10 : 0 ≤ x5) (h11 : x5 ≤ 4) (h12 : 4 - x5 < ((x6 + 1 : Nat) : Int)) (h13 : 0 ≤ x7) (h14 : x7 ≤ 40) (h15 : x7 = x3) (h16 : x5 < x7) (h17 : x8 = 40 * x1) (h18 : x9 = x8 + x5) (h19 : x10 = 1) (h20 : x11 = x2 + x10) (h21 : x0 = x5 + 1) : x0 ≤ 4 := by omega
theorem o38_174 {x0 x1 x2 x3 x4 x6 x7 x8 : Int} {x5 : Nat} (h0 : 0 ≤ x1) (h1 : x1 ≤ 3) (h2 : 0 ≤ x2) (h3 : x2 ≤ 0) (h4 : 1 ≤ x3) (h5 : x3 ≤ 4) (h6 : 0 ≤ x4) (h7 : x4 ≤ 40) (h8 : x4 = x3) (h9 : ¬ x2 = x4) (h10 : 0 ≤ x0) (h11 : x0 ≤ 4) (h12 : 4 - x0 < ((x5 + 1 : Nat) : Int)) (h13 : 0 ≤ x6) (h14 : x6 ≤ 40) (h15 : x6 = x3) (h16 : x0 < x6) (h17 : x7 = 40 * x1) (h18 : x8 = x7 + x0) (h19 : -2147483648 ≤ x0) (h20 : x0 ≤ 2147483647) (h21 : -2147483648 ≤ x1) (h22 : x1 ≤ 2147483647) (h23 : -2147483648 ≤ x2) (h24 : x2 ≤ 2147483647) (h25 : -2147483648 ≤ x3) (h26 : x3 ≤ 2147483647) (h27 : -2147483648 ≤ x4) (h28 : x4 ≤ 2147483647) (h29 : -2147483648 ≤ x6) (h30 : x6 ≤ 2147483647) (h31 : -2147483648 ≤ x7) (h32 : x7 ≤ 2147483647) (h33 : -2147483648 ≤ x8) (h34 : x8 ≤ 2147483647) : -2147483648 ≤ x0 + 1 := by omega
theorem o38_175 {x0 x1 x2 x3 x4 x6 x7 x8 : Int} {x5 : Nat} (h0 : 0 ≤ x1) (h1 : x1 ≤ 3) (h2 : 0 ≤ x2) (h3 : x2 ≤ 0) (h4 : 1 ≤ x3) (h5 : x3 ≤ 4) (h6 : 0 ≤ x4) (h7 : x4 ≤ 40) (h8 : x4 = x3) (h9 : ¬ x2 = x4) (h10 : 0 ≤ x0) (h11 : x0 ≤ 4) (h12 : 4 - x0 < ((x5 + 1 : Nat) : Int)) (h13 : 0 ≤ x6) (h14 : x6 ≤ 40) (h15 : x6 = x3) (h16 : x0 < x6) (h17 : x7 = 40 * x1) (h18 : x8 = x7 + x0) (h19 : -2147483648 ≤ x0) (h20 : x0 ≤ 2147483647) (h21 : -2147483648 ≤ x1) (h22 : x1 ≤ 2147483647) (h23 : -2147483648 ≤ x2) (h24 : x2 ≤ 2147483647) (h25 : -2147483648 ≤ x3) (h26 : x3 ≤ 2147483647) (h27 : -2147483648 ≤ x4) (h28 : x4 ≤ 2147483647) (h29 : -2147483648 ≤ x6) (h30 : x6 ≤ 2147483647) (h31 : -2147483648 ≤ x7) (h32 : x7 ≤ 2147483647) (h33 : -2147483648 ≤ x8) (h34 : x8 ≤ 2147483647) : x0 + 1 ≤ 2147483647 := by omega
theorem o38_176 {x0 x2 x3 x4 x5 x6 x7 x8 x9 : Int} {x1 : Nat} (h0 : 0 ≤ x2) (h1 : x2 ≤ 3) (h2 : 0 ≤ x3) (h3 : x3 ≤ 0) (h4 : 1 ≤ x4) (h5 : x4 ≤ 4) (h6 : 0 ≤ x5) (h7 : x5 ≤ 40) (h8 : x5 = x4) (h9 : ¬ x3 = x5) (h10 : 0 ≤ x6) (h11 : x6 ≤ 4) (h12 : 4 - x6 < ((x1 + 1 : Nat) : Int)) (h13 : 0 ≤ x7) (h14 : x7 ≤ 40) (h15 : x7 = x4) (h16 : x6 < x7) (h17 : x8 = 40 * x2) (h18 : x9 = x8 + x6) (h19 : x0 = x6 + 1) : 4 - x0 < (x1 : Int) := by omega
theorem o38_177 {x0 x1 x2 x3 x4 x5 x7 x8 x9 : Int} {x6 : Nat} (h0 : 0 ≤ x1) (h1 : x1 ≤ 3) (h2 : 0 ≤ x2) (h3 : x2 ≤ 0) (h4 : 1 ≤ x3) (h5 : x3 ≤ 4) (h6 : 0 ≤ x4) (h7 : x4 ≤ 40) (h8 : x4 = x3) (h9 : ¬ x2 = x4) (h10 : 0 ≤ x5) (h11 : x5 ≤ 4) (h12 : 4 - x5 < ((x6 + 1 : Nat) : Int)) (h13 : 0 ≤ x7) (h14 : x7 ≤ 40) (h15 : x7 = x3) (h16 : x5 < x7) (h17 : x8 = 40 * x1) (h18 : x9 = x8 + x5) (h19 : x0 = x5 + 1) : 0 ≤ x0 := by omega
theorem o38_178 {x0 x1 x2 x3 x4 x5 x7 x8 x9 : Int} {x6 : Nat} (h0 : 0 ≤ x1) (h1 : x1 ≤ 3) (h2 : 0 ≤ x2) (h3 : x2 ≤ 0) (h4 : 1 ≤ x3) (h5 : x3 ≤ 4) (h6 : 0 ≤ x4) (h7 : x4 ≤ 40) (h8 : x4 = x3) (h9 : ¬ x2 = x4) (h10 : 0 ≤ x5) (h11 : x5 ≤ 4) (h12 : 4 - x5 < ((x6 + 1 : Nat) : Int)) (h13 : 0 ≤ x7) (h14 : x7 ≤ 40) (h15 : x7 = x3) (h16 : x5 < x7) (h17 : x8 = 40 * x1) (h18 : x9 = x8 + x5) (h19 : x0 = x5 + 1) : x0 ≤ 4 := by omega
theorem o38_179 {x0 x1 x2 x3 x5 : Int} {x4 : Nat} (h0 : 0 ≤ x1) (h1 : x1 ≤ 0) (h2 : 1 ≤ x2) (h3 : x2 ≤ 4) (h4 : 0 ≤ x3) (h5 : x3 ≤ 40) (h6 : x3 = x2) (h7 : ¬ x1 = x3) (h8 : 0 ≤ x0) (h9 : x0 ≤ 4) (h10 : 4 - x0 < ((x4 + 1 : Nat) : Int)) (h11 : 0 ≤ x5) (h12 : x5 ≤ 40) (h13 : x5 = x2) (h14 : x0 < x5) (h15 : -2147483648 ≤ x0) (h16 : x0 ≤ 2147483647) (h17 : -2147483648 ≤ x1) (h18 : x1 ≤ 2147483647) (h19 : -2147483648 ≤ x2) (h20 : x2 ≤ 2147483647) (h21 : -2147483648 ≤ x3) (h22 : x3 ≤ 2147483647) (h23 : -2147483648 ≤ x5) (h24 : x5 ≤ 2147483647) : -2147483648 ≤ x0 + 1 := by omega
theorem o38_180 {x0 x1 x2 x3 x5 : Int} {x4 : Nat} (h0 : 0 ≤ x1) (h1 : x1 ≤ 0) (h2 : 1 ≤ x2) (h3 : x2 ≤ 4) (h4 : 0 ≤ x3) (h5 : x3 ≤ 40) (h6 : x3 = x2) (h7 : ¬ x1 = x3) (h8 : 0 ≤ x0) (h9 : x0 ≤ 4) (h10 : 4 - x0 < ((x4 + 1 : Nat) : Int)) (h11 : 0 ≤ x5) (h12 : x5 ≤ 40) (h13 : x5 = x2) (h14 : x0 < x5) (h15 : -2147483648 ≤ x0) (h16 : x0 ≤ 2147483647) (h17 : -2147483648 ≤ x1) (h18 : x1 ≤ 2147483647) (h19 : -2147483648 ≤ x2) (h20 : x2 ≤ 2147483647) (h21 : -2147483648 ≤ x3) (h22 : x3 ≤ 2147483647) (h23 : -2147483648 ≤ x5) (h24 : x5 ≤ 2147483647) : x0 + 1 ≤ 2147483647 := by omega
theorem o38_181 {x0 x2 x3 x4 x5 x6 : Int} {x1 : Nat} (h0 : 0 ≤ x2) (h1 : x2 ≤ 0) (h2 : 1 ≤ x3) (h3 : x3 ≤ 4) (h4 : 0 ≤ x4) (h5 : x4 ≤ 40) (h6 : x4 = x3) (h7 : ¬ x2 = x4) (h8 : 0 ≤ x5) (h9 : x5 ≤ 4) (h10 : 4 - x5 < ((x1 + 1 : Nat) : Int)) (h11 : 0 ≤ x6) (h12 : x6 ≤ 40) (h13 : x6 = x3) (h14 : x5 < x6) (h15 : x0 = x5 + 1) : 4 - x0 < (x1 : Int) := by omega
theorem o38_182 {x0 x1 x2 x3 x4 x6 : Int} {x5 : Nat} (h0 : 0 ≤ x1) (h1 : x1 ≤ 0) (h2 : 1 ≤ x2) (h3 : x2 ≤ 4) (h4 : 0 ≤ x3) (h5 : x3 ≤ 40) (h6 : x3 = x2) (h7 : ¬ x1 = x3) (h8 : 0 ≤ x4) (h9 : x4 ≤ 4) (h10 : 4 - x4 < ((x5 + 1 : Nat) : Int)) (h11 : 0 ≤ x6) (h12 : x6 ≤ 40) (h13 : x6 = x2) (h14 : x4 < x6) (h15 : x0 = x4 + 1) : 0 ≤ x0 := by omega
theorem o38_183 {x0 x1 x2 x3 x4 x6 : Int} {x5 : Nat} (h0 : 0 ≤ x1) (h1 : x1 ≤ 0) (h2 : 1 ≤ x2) (h3 : x2 ≤ 4) (h4 : 0 ≤ x3) (h5 : x3 ≤ 40) (h6 : x3 = x2) (h7 : ¬ x1 = x3) (h8 : 0 ≤ x4) (h9 : x4 ≤ 4) (h10 : 4 - x4 < ((x5 + 1 : Nat) : Int)) (h11 : 0 ≤ x6) (h12 : x6 ≤ 40) (h13 : x6 = x2) (h14 : x4 < x6) (h15 : x0 = x4 + 1) : x0 ≤ 4 := by omega
theorem o38_184 {x0 x1 x2 x3 x4 x5 : Int} (h0 : x1 = x0) (h1 : x2 = 0) (h2 : x3 = 3) (h3 : 0 ≤ x4) (h4 : x4 ≤ 1) (h5 : ((x4 = 0 ∧ (x1 < x2 ∨ x3 < x1)) ∨ (x4 = 1 ∧ x2 ≤ x1 ∧ x1 ≤ x3))) (h6 : ¬ x4 = 0) (h7 : (-6) ≤ x5) (h8 : x5 ≤ 0) (h9 : (x5 = -2 ∨ (0 ≤ x0 ∧ x0 ≤ 3))) (h10 : x5 = 0) : 0 ≤ x0 := by omega
theorem o38_185 {x0 x1 x2 x3 x4 x5 : Int} (h0 : x1 = x0) (h1 : x2 = 0) (h2 : x3 = 3) (h3 : 0 ≤ x4) (h4 : x4 ≤ 1) (h5 : ((x4 = 0 ∧ (x1 < x2 ∨ x3 < x1)) ∨ (x4 = 1 ∧ x2 ≤ x1 ∧ x1 ≤ x3))) (h6 : ¬ x4 = 0) (h7 : (-6) ≤ x5) (h8 : x5 ≤ 0) (h9 : (x5 = -2 ∨ (0 ≤ x0 ∧ x0 ≤ 3))) (h10 : x5 = 0) : x0 < (4 : Nat) := by omega
theorem o38_186 {x0 x1 x2 x3 x4 x5 x7 : Int} {x6 : Nat} (h0 : 0 ≤ x0) (h1 : x0 ≤ 40) (h2 : x2 = x0) (h3 : x3 = 1) (h4 : x4 = 4) (h5 : 0 ≤ x5) (h6 : x5 ≤ 1) (h7 : ((x5 = 0 ∧ (x2 < x3 ∨ x4 < x2)) ∨ (x5 = 1 ∧ x3 ≤ x2 ∧ x2 ≤ x4))) (h8 : ¬ x5 = 0) (h9 : 0 ≤ x1) (h10 : x1 ≤ 4) (h11 : 4 - x1 < ((x6 + 1 : Nat) : Int)) (h12 : 0 ≤ x7) (h13 : x7 ≤ 40) (h14 : x7 = x0) (h15 : x7 ≤ x1) : (x0).toNat ≤ (x1).toNat := by omega
theorem o38_187 {x0 x1 x2 x3 : Int} (h0 : x2 = x1) (h1 : 0 ≤ x3) (h2 : x3 ≤ 1) (h3 : (x3 = 0 ∨ (0 ≤ x2 ∧ x2 ≤ 4))) (h4 : ¬ x3 = 0) (h5 : x0 = 36) (h6 : -2147483648 ≤ x0) (h7 : x0 ≤ 2147483647) (h8 : -2147483648 ≤ x1) (h9 : x1 ≤ 2147483647) (h10 : -2147483648 ≤ x3) (h11 : x3 ≤ 2147483647) : -2147483648 ≤ x0 + x1 := by omega
theorem o38_188 {x0 x1 x2 x3 : Int} (h0 : x2 = x1) (h1 : 0 ≤ x3) (h2 : x3 ≤ 1) (h3 : (x3 = 0 ∨ (0 ≤ x2 ∧ x2 ≤ 4))) (h4 : ¬ x3 = 0) (h5 : x0 = 36) (h6 : -2147483648 ≤ x0) (h7 : x0 ≤ 2147483647) (h8 : -2147483648 ≤ x1) (h9 : x1 ≤ 2147483647) (h10 : -2147483648 ≤ x3) (h11 : x3 ≤ 2147483647) : x0 + x1 ≤ 2147483647 := by omega
theorem o38_189 {x0 x1 x2 x3 x4 : Int} (h0 : x1 = x2) (h1 : 0 ≤ x3) (h2 : x3 ≤ 1) (h3 : (x3 = 0 ∨ (0 ≤ x1 ∧ x1 ≤ 4))) (h4 : ¬ x3 = 0) (h5 : x4 = 36) (h6 : x0 = x4 + x2) : 0 ≤ x0 := by omega
theorem o38_190 {x0 x1 x2 x3 x4 : Int} (h0 : x1 = x2) (h1 : 0 ≤ x3) (h2 : x3 ≤ 1) (h3 : (x3 = 0 ∨ (0 ≤ x1 ∧ x1 ≤ 4))) (h4 : ¬ x3 = 0) (h5 : x4 = 36) (h6 : x0 = x4 + x2) : x0 < (5322 : Nat) := by omega
theorem o38_191 : ∀ p, p < 41 → 36 ≤ p → 0 ≤ (elAll p).1 ∧ (elAll p).2 ≤ 24 := by decide +kernel
theorem o38_192 {x0 x1 x2 x3 x4 : Int} (h0 : x1 = x2) (h1 : 0 ≤ x3) (h2 : x3 ≤ 1) (h3 : (x3 = 0 ∨ (0 ≤ x1 ∧ x1 ≤ 4))) (h4 : ¬ x3 = 0) (h5 : x4 = 36) (h6 : x0 = x4 + x2) : (x0).toNat < 41 := by omega
theorem o38_193 {x0 x1 x2 x3 x4 : Int} (h0 : x1 = x2) (h1 : 0 ≤ x3) (h2 : x3 ≤ 1) (h3 : (x3 = 0 ∨ (0 ≤ x1 ∧ x1 ≤ 4))) (h4 : ¬ x3 = 0) (h5 : x4 = 36) (h6 : x0 = x4 + x2) : 36 ≤ (x0).toNat := by omega
theorem o38_194 {x0 : Int} (h0 : x0 = 4) : x0 = 4 := by omega
theorem o38_195 {x0 : Int} (h0 : 0 ≤ x0) (h1 : x0 ≤ 24) (h2 : -2147483648 ≤ x0) (h3 : x0 ≤ 2147483647) : -2147483648 ≤ 4 * x0 := by omega
theorem o38_196 {x0 : Int} (h0 : 0 ≤ x0) (h1 : x0 ≤ 24) (h2 : -2147483648 ≤ x0) (h3 : x0 ≤ 2147483647) : 4 * x0 ≤ 2147483647 := by omega
theorem o38_197 {x0 x1 x2 x3 x4 x5 : Int} (h0 : x2 = x1) (h1 : 0 ≤ x3) (h2 : x3 ≤ 1) (h3 : (x3 = 0 ∨ (0 ≤ x2 ∧ x2 ≤ 4))) (h4 : ¬ x3 = 0) (h5 : x4 = 36) (h6 : x5 = x4 + x1) (h7 : x0 = 41) (h8 : -2147483648 ≤ x0) (h9 : x0 ≤ 2147483647) (h10 : -2147483648 ≤ x1) (h11 : x1 ≤ 2147483647) (h12 : -2147483648 ≤ x3) (h13 : x3 ≤ 2147483647) (h14 : -2147483648 ≤ x4) (h15 : x4 ≤ 2147483647) (h16 : -2147483648 ≤ x5) (h17 : x5 ≤ 2147483647) : -2147483648 ≤ x0 + x1 := by omega
theorem o38_198 {x0 x1 x2 x3 x4 x5 : Int} (h0 : x2 = x1) (h1 : 0 ≤ x3) (h2 : x3 ≤ 1) (h3 : (x3 = 0 ∨ (0 ≤ x2 ∧ x2 ≤ 4))) (h4 : ¬ x3 = 0) (h5 : x4 = 36) (h6 : x5 = x4 + x1) (h7 : x0 = 41) (h8 : -2147483648 ≤ x0) (h9 : x0 ≤ 2147483647) (h10 : -2147483648 ≤ x1) (h11 : x1 ≤ 2147483647) (h12 : -2147483648 ≤ x3) (h13 : x3 ≤ 2147483647) (h14 : -2147483648 ≤ x4) (h15 : x4 ≤ 2147483647) (h16 : -2147483648 ≤ x5) (h17 : x5 ≤ 2147483647) : x0 + x1 ≤ 2147483647 := by omega
theorem o38_199 {x0 x1 x2 x3 x4 x5 x6 : Int} (h0 : x1 = x2) (h1 : 0 ≤ x3) (h2 : x3 ≤ 1) (h3 : (x3 = 0 ∨ (0 ≤ x1 ∧ x1 ≤ 4))) (h4 : ¬ x3 = 0) (h5 : x4 = 36) (h6 : x5 = x4 + x2) (h7 : x6 = 41) (h8 : x0 = x6 + x2) : 0 ≤ x0 := by omega
theorem o38_200 {x0 x1 x2 x3 x4 x5 x6 : Int} (h0 : x1 = x2) (h1 : 0 ≤ x3) (h2 : x3 ≤ 1) (h3 : (x3 = 0 ∨ (0 ≤ x1 ∧ x1 ≤ 4))) (h4 : ¬ x3 = 0) (h5 : x4 = 36) (h6 : x5 = x4 + x2) (h7 : x6 = 41) (h8 : x0 = x6 + x2) : x0 < (5322 : Nat) := by omega
theorem o38_201 : ∀ p, p < 46 → 41 ≤ p → 0 ≤ (elAll p).1 ∧ (elAll p).2 ≤ 3 := by decide +kernel
theorem o38_202 {x0 x1 x2 x3 x4 x5 x6 : Int} (h0 : x1 = x2) (h1 : 0 ≤ x3) (h2 : x3 ≤ 1) (h3 : (x3 = 0 ∨ (0 ≤ x1 ∧ x1 ≤ 4))) (h4 : ¬ x3 = 0) (h5 : x4 = 36) (h6 : x5 = x4 + x2) (h7 : x6 = 41) (h8 : x0 = x6 + x2) : (x0).toNat < 46 := by omega
theorem o38_203 {x0 x1 x2 x3 x4 x5 x6 : Int} (h0 : x1 = x2) (h1 : 0 ≤ x3) (h2 : x3 ≤ 1) (h3 : (x3 = 0 ∨ (0 ≤ x1 ∧ x1 ≤ 4))) (h4 : ¬ x3 = 0) (h5 : x4 = 36) (h6 : x5 = x4 + x2) (h7 : x6 = 41) (h8 : x0 = x6 + x2) : 41 ≤ (x0).toNat := by omega
theorem o38_204 {x0 x1 x2 : Int} (h0 : 0 ≤ x2) (h1 : x2 ≤ 24) (h2 : x0 = 4 * x2) (h3 : 0 ≤ x1) (h4 : x1 ≤ 3) (h5 : -2147483648 ≤ x0) (h6 : x0 ≤ 2147483647) (h7 : -2147483648 ≤ x1) (h8 : x1 ≤ 2147483647) (h9 : -2147483648 ≤ x2) (h10 : x2 ≤ 2147483647) : -2147483648 ≤ x0 + x1 := by omega
theorem o38_205 {x0 x1 x2 : Int} (h0 : 0 ≤ x2) (h1 : x2 ≤ 24) (h2 : x0 = 4 * x2) (h3 : 0 ≤ x1) (h4 : x1 ≤ 3) (h5 : -2147483648 ≤ x0) (h6 : x0 ≤ 2147483647) (h7 : -2147483648 ≤ x1) (h8 : x1 ≤ 2147483647) (h9 : -2147483648 ≤ x2) (h10 : x2 ≤ 2147483647) : x0 + x1 ≤ 2147483647 := by omega
theorem o38_206 {x0 x1 x2 x3 x4 x5 : Int} (h0 : x1 = x0) (h1 : x2 = 0) (h2 : x3 = 3) (h3 : 0 ≤ x4) (h4 : x4 ≤ 1) (h5 : ((x4 = 0 ∧ (x1 < x2 ∨ x3 < x1)) ∨ (x4 = 1 ∧ x2 ≤ x1 ∧ x1 ≤ x3))) (h6 : ¬ x4 = 0) (h7 : (-6) ≤ x5) (h8 : x5 ≤ 0) (h9 : (x5 = -2 ∨ (0 ≤ x0 ∧ x0 ≤ 3))) (h10 : x5 = 0) : x0 ≤ 3 := by omega
theorem o38_207 {x0 : Int} (h0 : x0 = 0) : x0 ≤ 0 := by omega
theorem o38_208 {x0 x1 x2 x3 : Int} (h0 : 0 ≤ x1) (h1 : x1 ≤ 24) (h2 : x2 = 4 * x1) (h3 : 0 ≤ x3) (h4 : x3 ≤ 3) (h5 : x0 = x2 + x3) : 0 ≤ x0 := by omega
theorem o38_209 {x0 x1 x2 x3 : Int} (h0 : 0 ≤ x1) (h1 : x1 ≤ 24) (h2 : x2 = 4 * x1) (h3 : 0 ≤ x3) (h4 : x3 ≤ 3) (h5 : x0 = x2 + x3) : x0 ≤ 99 := by omega
theorem o38_210 {x0 x1 x2 x3 x4 x5 x7 : Int} {x6 : Nat} (h0 : 0 ≤ x0) (h1 : x0 ≤ 40) (h2 : x1 = x0) (h3 : x2 = 1) (h4 : x3 = 4) (h5 : 0 ≤ x4) (h6 : x4 ≤ 1) (h7 : ((x4 = 0 ∧ (x1 < x2 ∨ x3 < x1)) ∨ (x4 = 1 ∧ x2 ≤ x1 ∧ x1 ≤ x3))) (h8 : ¬ x4 = 0) (h9 : 0 ≤ x5) (h10 : x5 ≤ 4) (h11 : 4 - x5 < ((x6 + 1 : Nat) : Int)) (h12 : 0 ≤ x7) (h13 : x7 ≤ 40) (h14 : x7 = x0) (h15 : x7 ≤ x5) : 1 ≤ x0 := by omega
theorem o38_211 {x0 x1 x2 x3 x4 x5 x7 : Int} {x6 : Nat} (h0 : 0 ≤ x0) (h1 : x0 ≤ 40) (h2 : x1 = x0) (h3 : x2 = 1) (h4 : x3 = 4) (h5 : 0 ≤ x4) (h6 : x4 ≤ 1) (h7 : ((x4 = 0 ∧ (x1 < x2 ∨ x3 < x1)) ∨ (x4 = 1 ∧ x2 ≤ x1 ∧ x1 ≤ x3))) (h8 : ¬ x4 = 0) (h9 : 0 ≤ x5) (h10 : x5 ≤ 4) (h11 : 4 - x5 < ((x6 + 1 : Nat) : Int)) (h12 : 0 ≤ x7) (h13 : x7 ≤ 40) (h14 : x7 = x0) (h15 : x7 ≤ x5) : x0 ≤ 4 := by omega
theorem o38_212 {x0 x1 x2 x3 x4 x5 x6 : Int} (h0 : x1 = x2) (h1 : 0 ≤ x0) (h2 : x0 ≤ 1) (h3 : (x0 = 0 ∨ (0 ≤ x1 ∧ x1 ≤ 4))) (h4 : ¬ x0 = 0) (h5 : x3 = 36) (h6 : x4 = x3 + x2) (h7 : x5 = 41) (h8 : x6 = x5 + x2) : ¬ x0 = 0 := by omega
theorem o38_213 {x0 x1 x2 x3 x4 x5 : Int} (h0 : x2 = x0) (h1 : x3 = 0) (h2 : x4 = 1) (h3 : 0 ≤ x5) (h4 : x5 ≤ 1) (h5 : ((x5 = 0 ∧ (x2 < x3 ∨ x4 < x2)) ∨ (x5 = 1 ∧ x3 ≤ x2 ∧ x2 ≤ x4))) (h6 : ¬ x5 = 0) (h7 : ¬ x0 = 0) (h8 : x1 = 1) (h9 : ¬ x0 = x1) : False := by omega
theorem o38_214 {x0 x1 x2 x3 x4 x5 : Int} (h0 : x1 = x0) (h1 : x2 = 0) (h2 : x3 = 3) (h3 : 0 ≤ x4) (h4 : x4 ≤ 1) (h5 : ((x4 = 0 ∧ (x1 < x2 ∨ x3 < x1)) ∨ (x4 = 1 ∧ x2 ≤ x1 ∧ x1 ≤ x3))) (h6 : ¬ x4 = 0) (h7 : (-6) ≤ x5) (h8 : x5 ≤ 0) (h9 : (x5 = -2 ∨ (0 ≤ x0 ∧ x0 ≤ 3))) (h10 : x5 = 0) (h11 : -2147483648 ≤ x0) (h12 : x0 ≤ 2147483647) (h13 : -2147483648 ≤ x4) (h14 : x4 ≤ 2147483647) (h15 : -2147483648 ≤ x5) (h16 : x5 ≤ 2147483647) : -2147483648 ≤ 40 * x0 := by omega
theorem o38_215 {x0 x1 x2 x3 x4 x5 : Int} (h0 : x1 = x0) (h1 : x2 = 0) (h2 : x3 = 3) (h3 : 0 ≤ x4) (h4 : x4 ≤ 1) (h5 : ((x4 = 0 ∧ (x1 < x2 ∨ x3 < x1)) ∨ (x4 = 1 ∧ x2 ≤ x1 ∧ x1 ≤ x3))) (h6 : ¬ x4 = 0) (h7 : (-6) ≤ x5) (h8 : x5 ≤ 0) (h9 : (x5 = -2 ∨ (0 ≤ x0 ∧ x0 ≤ 3))) (h10 : x5 = 0) (h11 : -2147483648 ≤ x0) (h12 : x0 ≤ 2147483647) (h13 : -2147483648 ≤ x4) (h14 : x4 ≤ 2147483647) (h15 : -2147483648 ≤ x5) (h16 : x5 ≤ 2147483647) : 40 * x0 ≤ 2147483647 := by omega
theorem o38_216 {x0 x1 x2 x3 x4 x5 x6 x7 x8 x9 x10 x11 x12 x14 : Int} {x13 : Nat} (h0 : x2 = x3) (h1 : x4 = 0) (h2 : x5 = 3) (h3 : 0 ≤ x6) (h4 : x6 ≤ 1) (h5 : ((x6 = 0 ∧ (x2 < x4 ∨ x5 < x2)) ∨ (x6 = 1 ∧ x4 ≤ x2 ∧ x2 ≤ x5))) (h6 : ¬ x6 = 0) (h7 : (-6) ≤ x7) (h8 : x7 ≤ 0) (h9 : (x7 = -2 ∨ (0 ≤ x3 ∧ x3 ≤ 3))) (h10 : x7 = 0) (h11 : 0 ≤ x8) (h12 : x8 ≤ 40) (h13 : x9 = x8) (h14 : x10 = 1) (h15 : x11 = 4) (h16 : 0 ≤ x12) (h17 : x12 ≤ 1) (h18 : ((x12 = 0 ∧ (x9 < x10 ∨ x11 < x9)) ∨ (x12 = 1 ∧ x10 ≤ x9 ∧ x9 ≤ x11))) (h19 : ¬ x12 = 0) (h20 : 0 ≤ x1) (h21 : x1 ≤ 4) (h22 : 4 - x1 < ((x13 + 1 : Nat) : Int)) (h23 : 0 ≤ x14) (h24 : x14 ≤ 40) (h25 : x14 = x8) (h26 : x1 < x14) (h27 : x0 = 40 * x3) (h28 : -2147483648 ≤ x0) (h29 : x0 ≤ 2147483647) (h30 : -2147483648 ≤ x1) (h31 : x1 ≤ 2147483647) (h32 : -2147483648 ≤ x3) (h33 : x3 ≤ 2147483647) (h34 : -2147483648 ≤ x6) (h35 : x6 ≤ 2147483647) (h36 : -2147483648 ≤ x7) (h37 : x7 ≤ 2147483647) (h38 : -2147483648 ≤ x8) (h39 : x8 ≤ 2147483647) (h40 : -2147483648 ≤ x12) (h41 : x12 ≤ 2147483647) (h42 : -2147483648 ≤ x14) (h43 : x14 ≤ 2147483647) : -2147483648 ≤ x0 + x1 := by omega
theorem o38_217 {x0 x1 x2 x3 x4 x5 x6 x7 x8 x9 x10 x11 x12 x14 : Int} {x13 : Nat} (h0 : x2 = x3) (h1 : x4 = 0) (h2 : x5 = 3) (h3 : 0 ≤ x6) (h4 : x6 ≤ 1) (h5 : ((x6 = 0 ∧ (x2 < x4 ∨ x5 < x2)) ∨ (x6 = 1 ∧ x4 ≤ x2 ∧ x2 ≤ x5))) (h6 : ¬ x6 = 0) (h7 : (-6) ≤ x7) (h8 : x7 ≤ 0) (h9 : (x7 = -2 ∨ (0 ≤ x3 ∧ x3 ≤ 3))) (h10 : x7 = 0) (h11 : 0 ≤ x8) (h12 : x8 ≤ 40) (h13 : x9 = x8) (h14 : x10 = 1) (h15 : x11 = 4) (h16 : 0 ≤ x12) (h17 : x12 ≤ 1) (h18 : ((x12 = 0 ∧ (x9 < x10 ∨ x11 < x9)) ∨ (x12 = 1 ∧ x10 ≤ x9 ∧ x9 ≤ x11))) (h19 : ¬ x12 = 0) (h20 : 0 ≤ x1) (h21 : x1 ≤ 4) (h22 : 4 - x1 < ((x13 + 1 : Nat) : Int)) (h23 : 0 ≤ x14) (h24 : x14 ≤ 40) (h25 : x14 = x8) (h26 : x1 < x14) (h27 : x0 = 40 * x3) (h28 : -2147483648 ≤ x0) (h29 : x0 ≤ 2147483647) (h30 : -2147483648 ≤ x1) (h31 : x1 ≤ 2147483647) (h32 : -2147483648 ≤ x3) (h33 : x3 ≤ 2147483647) (h34 : -2147483648 ≤ x6) (h35 : x6 ≤ 2147483647) (h36 : -2147483648 ≤ x7) (h37 : x7 ≤ 2147483647) (h38 : -2147483648 ≤ x8) (h39 : x8 ≤ 2147483647) (h40 : -2147483648 ≤ x12) (h41 : x12 ≤ 2147483647) (h42 : -2147483648 ≤ x14) (h43 : x14 ≤ 2147483647) : x0 + x1 ≤ 2147483647 := by omega
theorem o38_218 {x0 x1 x2 x3 x4 x5 x6 x7 x8 x9 x10 x11 x12 x14 x15 : Int} {x13 : Nat} (h0 : x1 = x2) (h1 : x3 = 0) (h2 : x4 = 3) (h3 : 0 ≤ x5) (h4 : x5 ≤ 1) (h5 : ((x5 = 0 ∧ (x1 < x3 ∨ x4 < x1)) ∨ (x5 = 1 ∧ x3 ≤ x1 ∧ x1 ≤ x4))) (h6 : ¬ x5 = 0) (h7 : (-6) ≤ x6) (h8 : x6 ≤ 0) (h9 : (x6 = -2 ∨ (0 ≤ x2 ∧ x2 ≤ 3))) (h10 : x6 = 0) (h11 : 0 ≤ x7) (h12 : x7 ≤ 40) (h13 : x8 = x7) (h14 : x9 = 1) (h15 : x10 = 4) (h16 : 0 ≤ x11) (h17 : x11 ≤ 1) (h18 : ((x11 = 0 ∧ (x8 < x9 ∨ x10 < x8)) ∨ (x11 = 1 ∧ x9 ≤ x8 ∧ x8 ≤ x10))) (h19 : ¬ x11 = 0) (h20 : 0 ≤ x12) (h21 : x12 ≤ 4) (h22 : 4 - x12 < ((x13 + 1 : Nat) : Int)) (h23 : 0 ≤ x14) (h24 : x14 ≤ 40) (h25 : x14 = x7) (h26 : x12 < x14) (h27 : x15 = 40 * x2) (h28 : x0 = x15 + x12) : 0 ≤ x0 := by omega
theorem o38_219 {x0 x1 x2 x3 x4 x5 x6 x7 x8 x9 x10 x11 x12 x14 x15 : Int} {x13 : Nat} (h0 : x1 = x2) (h1 : x3 = 0) (h2 : x4 = 3) (h3 : 0 ≤ x5) (h4 : x5 ≤ 1) (h5 : ((x5 = 0 ∧ (x1 < x3 ∨ x4 < x1)) ∨ (x5 = 1 ∧ x3 ≤ x1 ∧ x1 ≤ x4))) (h6 : ¬ x5 = 0) (h7 : (-6) ≤ x6) (h8 : x6 ≤ 0) (h9 : (x6 = -2 ∨ (0 ≤ x2 ∧ x2 ≤ 3))) (h10 : x6 = 0) (h11 : 0 ≤ x7) (h12 : x7 ≤ 40) (h13 : x8 = x7) (h14 : x9 = 1) (h15 : x10 = 4) (h16 : 0 ≤ x11) (h17 : x11 ≤ 1) (h18 : ((x11 = 0 ∧ (x8 < x9 ∨ x10 < x8)) ∨ (x11 = 1 ∧ x9 ≤ x8 ∧ x8 ≤ x10))) (h19 : ¬ x11 = 0) (h20 : 0 ≤ x12) (h21 : x12 ≤ 4) (h22 : 4 - x12 < ((x13 + 1 : Nat) : Int)) (h23 : 0 ≤ x14) (h24 : x14 ≤ 40) (h25 : x14 = x7) (h26 : x12 < x14) (h27 : x15 = 40 * x2) (h28 : x0 = x15 + x12) : x0 < (160 : Nat) := by omega
theorem o38_220 {x0 x1 x2 x3 x4 x5 x6 x7 x8 x9 x10 x11 x13 x14 x15 : Int} {x12 : Nat} (h0 : x1 = x2) (h1 : x3 = 0) (h2 : x4 = 3) (h3 : 0 ≤ x5) (h4 : x5 ≤ 1) (h5 : ((x5 = 0 ∧ (x1 < x3 ∨ x4 < x1)) ∨ (x5 = 1 ∧ x3 ≤ x1 ∧ x1 ≤ x4))) (h6 : ¬ x5 = 0) (h7 : (-6) ≤ x6) (h8 : x6 ≤ 0) (h9 : (x6 = -2 ∨ (0 ≤ x2 ∧ x2 ≤ 3))) (h10 : x6 = 0) (h11 : 0 ≤ x7) (h12 : x7 ≤ 40) (h13 : x8 = x7) (h14 : x9 = 1) (h15 : x10 = 4) (h16 : 0 ≤ x11) (h17 : x11 ≤ 1) (h18 : ((x11 = 0 ∧ (x8 < x9 ∨ x10 < x8)) ∨ (x11 = 1 ∧ x9 ≤ x8 ∧ x8 ≤ x10))) (h19 : ¬ x11 = 0) (h20 : 0 ≤ x0) (h21 : x0 ≤ 4) (h22 : 4 - x0 < ((x12 + 1 : Nat) : Int)) (h23 : 0 ≤ x13) (h24 : x13 ≤ 40) (h25 : x13 = x7) (h26 : x0 < x13) (h27 : x14 = 40 * x2) (h28 : x15 = x14 + x0) (h29 : -2147483648 ≤ x0) (h30 : x0 ≤ 2147483647) (h31 : -2147483648 ≤ x2) (h32 : x2 ≤ 2147483647) (h33 : -2147483648 ≤ x5) (h34 : x5 ≤ 2147483647) (h35 : -2147483648 ≤ x6) (h36 : x6 ≤ 2147483647) (h37 : -2147483648 ≤ x7) (h38 : x7 ≤ 2147483647) (h39 : -2147483648 ≤ x11) (h40 : x11 ≤ 2147483647) (h41 : -2147483648 ≤ x13) (h42 : x13 ≤ 2147483647) (h43 : -2147483648 ≤ x14) (h44 : x14 ≤ 2147483647) (h45 : -2147483648 ≤ x15) (h46 : x15 ≤ 2147483647) : -2147483648 ≤ x0 + 1 := by omega
theorem o38_221 {x0 x1 x2 x3 x4 x5 x6 x7 x8 x9 x10 x11 x13 x14 x15 : Int} {x12 : Nat} (h0 : x1 = x2) (h1 : x3 = 0) (h2 : x4 = 3) (h3 : 0 ≤ x5) (h4 : x5 ≤ 1) (h5 : ((x5 = 0 ∧ (x1 < x3 ∨ x4 < x1)) ∨ (x5 = 1 ∧ x3 ≤ x1 ∧ x1 ≤ x4))) (h6 : ¬ x5 = 0) (h7 : (-6) ≤ x6) (h8 : x6 ≤ 0) (h9 : (x6 = -2 ∨ (0 ≤ x2 ∧ x2 ≤ 3))) (h10 : x6 = 0) (h11 : 0 ≤ x7) (h12 : x7 ≤ 40) (h13 : x8 = x7) (h14 : x9 = 1) (h15 : x10 = 4) (h16 : 0 ≤ x11) (h17 : x11 ≤ 1) (h18 : ((x11 = 0 ∧ (x8 < x9 ∨ x10 < x8)) ∨ (x11 = 1 ∧ x9 ≤ x8 ∧ x8 ≤ x10))) (h19 : ¬ x11 = 0) (h20 : 0 ≤ x0) (h21 : x0 ≤ 4) (h22 : 4 - x0 < ((x12 + 1 : Nat) : Int)) (h23 : 0 ≤ x13) (h24 : x13 ≤ 40) (h25 : x13 = x7) (h26 : x0 < x13) (h27 : x14 = 40 * x2) (h28 : x15 = x14 + x0) (h29 : -2147483648 ≤ x0) (h30 : x0 ≤ 2147483647) (h31 : -2147483648 ≤ x2) (h32 : x2 ≤ 2147483647) (h33 : -2147483648 ≤ x5) (h34 : x5 ≤ 2147483647) (h35 : -2147483648 ≤ x6) (h36 : x6 ≤ 2147483647) (h37 : -2147483648 ≤ x7) (h38 : x7 ≤ 2147483647) (h39 : -2147483648 ≤ x11) (h40 : x11 ≤ 2147483647) (h41 : -2147483648 ≤ x13) (h42 : x13 ≤ 2147483647) (h43 : -2147483648 ≤ x14) (h44 : x14 ≤ 2147483647) (h45 : -2147483648 ≤ x15) (h46 : x15 ≤ 2147483647) : x0 + 1 ≤ 2147483647 := by omega
theorem o38_222 {x0 x2 x3 x4 x5 x6 x7 x8 x9 x10 x11 x12 x13 x14 x15 x16 : Int} {x1 : Nat} (h0 : x2 = x3) (h1 : x4 = 0) (h2 : x5 = 3) (h3 : 0 ≤ x6) (h4 : x6 ≤ 1) (h5 : ((x6 = 0 ∧ (x2 < x4 ∨ x5 < x2)) ∨ (x6 = 1 ∧ x4 ≤ x2 ∧ x2 ≤ x5))) (h6 : ¬ x6 = 0) (h7 : (-6) ≤ x7) (h8 : x7 ≤ 0) (h9 : (x7 = -2 ∨ (0 ≤ x3 ∧ x3 ≤ 3))) (h10 : x7 = 0) (h11 : 0 ≤ x8) (h12 : x8 ≤ 40) (h13 : x9 = x8) (h14 : x10 = 1) (h15 : x11 = 4) (h16 : 0 ≤ x12) (h17 : x12 ≤ 1) (h18 : ((x12 = 0 ∧ (x9 < x10 ∨ x11 < x9)) ∨ (x12 = 1 ∧ x10 ≤ x9 ∧ x9 ≤ x11))) (h19 : ¬ x12 = 0) (h20 : 0 ≤ x13) (h21 : x13 ≤ 4) (h22 : 4 - x13 < ((x1 + 1 : Nat) : Int)) (h23 : 0 ≤ x14) (h24 : x14 ≤ 40) (h25 : x14 = x8) (h26 : x13 < x14) (h27 : x15 = 40 * x3) (h28 : x16 = x15 + x13) (h29 : x0 = x13 + 1) : 4 - x0 < (x1 : Int) := by omega
theorem o38_223 {x0 x1 x2 x3 x4 x5 x6 x7 x8 x9 x10 x11 x12 x14 x15 x16 : Int} {x13 : Nat} (h0 : x1 = x2) (h1 : x3 = 0) (h2 : x4 = 3) (h3 : 0 ≤ x5) (h4 : x5 ≤ 1) (h5 : ((x5 = 0 ∧ (x1 < x3 ∨ x4 < x1)) ∨ (x5 = 1 ∧ x3 ≤ x1 ∧ x1 ≤ x4))) (h6 : ¬ x5 = 0) (h7 : (-6) ≤ x6) (h8 : x6 ≤ 0) (h9 : (x6 = -2 ∨ (0 ≤ x2 ∧ x2 ≤ 3))) (h10 : x6 = 0) (h11 : 0 ≤ x7) (h12 : x7 ≤ 40) (h13 : x8 = x7) (h14 : x9 = 1) (h15 : x10 = 4) (h16 : 0 ≤ x11) (h17 : x11 ≤ 1) (h18 : ((x11 = 0 ∧ (x8 < x9 ∨ x10 < x8)) ∨ (x11 = 1 ∧ x9 ≤ x8 ∧ x8 ≤ x10))) (h19 : ¬ x11 = 0) (h20 : 0 ≤ x12) (h21 : x12 ≤ 4) (h22 : 4 - x12 < ((x13 + 1 : Nat) : Int)) (h23 : 0 ≤ x14) (h24 : x14 ≤ 40) (h25 : x14 = x7) (h26 : x12 < x14) (h27 : x15 = 40 * x2) (h28 : x16 = x15 + x12) (h29 : x0 = x12 + 1) : 0 ≤ x0 := by omega
theorem o38_224 {x0 x1 x2 x3 x4 x5 x6 x7 x8 x9 x10 x11 x12 x14 x15 x16 : Int} {x13 : Nat} (h0 : x1 = x2) (h1 : x3 = 0) (h2 : x4 = 3) (h3 : 0 ≤ x5) (h4 : x5 ≤ 1) (h5 : ((x5 = 0 ∧ (x1 < x3 ∨ x4 < x1)) ∨ (x5 = 1 ∧ x3 ≤ x1 ∧ x1 ≤ x4))) (h6 : ¬ x5 = 0) (h7 : (-6) ≤ x6) (h8 : x6 ≤ 0) (h9 : (x6 = -2 ∨ (0 ≤ x2 ∧ x2 ≤ 3))) (h10 : x6 = 0) (h11 : 0 ≤ x7) (h12 : x7 ≤ 40) (h13 : x8 = x7) (h14 : x9 = 1) (h15 : x10 = 4) (h16 : 0 ≤ x11) (h17 : x11 ≤ 1) (h18 : ((x11 = 0 ∧ (x8 < x9 ∨ x10 < x8)) ∨ (x11 = 1 ∧ x9 ≤ x8 ∧ x8 ≤ x10))) (h19 : ¬ x11 = 0) (h20 : 0 ≤ x12) (h21 : x12 ≤ 4) (h22 : 4 - x12 < ((x13 + 1 : Nat) : Int)) (h23 : 0 ≤ x14) (h24 : x14 ≤ 40) (h25 : x14 = x7) (h26 : x12 < x14) (h27 : x15 = 40 * x2) (h28 : x16 = x15 + x12) (h29 : x0 = x12 + 1) : x0 ≤ 4 := by omega
theorem o38_225 {x0 x1 x2 x3 x4 x5 x6 x7 x8 x9 x10 x11 x12 x14 x15 x16 : Int} {x13 : Nat} (h0 : x3 = x1) (h1 : x4 = 0) (h2 : x5 = 3) (h3 : 0 ≤ x6) (h4 : x6 ≤ 1) (h5 : ((x6 = 0 ∧ (x3 < x4 ∨ x5 < x3)) ∨ (x6 = 1 ∧ x4 ≤ x3 ∧ x3 ≤ x5))) (h6 : ¬ x6 = 0) (h7 : (-6) ≤ x7) (h8 : x7 ≤ 0) (h9 : (x7 = -2 ∨ (0 ≤ x1 ∧ x1 ≤ 3))) (h10 : x7 = 0) (h11 : 0 ≤ x8) (h12 : x8 ≤ 40) (h13 : x9 = x8) (h14 : x10 = 1) (h15 : x11 = 4) (h16 : 0 ≤ x12) (h17 : x12 ≤ 1) (h18 : ((x12 = 0 ∧ (x9 < x10 ∨ x11 < x9)) ∨ (x12 = 1 ∧ x10 ≤ x9 ∧ x9 ≤ x11))) (h19 : ¬ x12 = 0) (h20 : 0 ≤ x2) (h21 : x2 ≤ 4) (h22 : 4 - x2 < ((x13 + 1 : Nat) : Int)) (h23 : 0 ≤ x14) (h24 : x14 ≤ 40) (h25 : x14 = x8) (h26 : x2 < x14) (h27 : x15 = 40 * x1) (h28 : x0 = x15 + x2) (h29 : x16 = x2 + 1) : (x0).toNat = 40 * (x1).toNat + (x2).toNat := by omega
theorem o38_226 {x0 x1 x2 x3 x4 x5 x6 x7 x8 x9 x10 x11 x12 x14 x15 x16 x17 x18 : Int} {x13 : Nat} (h0 : x2 = x3) (h1 : x4 = 0) (h2 : x5 = 3) (h3 : 0 ≤ x6) (h4 : x6 ≤ 1) (h5 : ((x6 = 0 ∧ (x2 < x4 ∨ x5 < x2)) ∨ (x6 = 1 ∧ x4 ≤ x2 ∧ x2 ≤ x5))) (h6 : ¬ x6 = 0) (h7 : (-6) ≤ x7) (h8 : x7 ≤ 0) (h9 : (x7 = -2 ∨ (0 ≤ x3 ∧ x3 ≤ 3))) (h10 : x7 = 0) (h11 : 0 ≤ x8) (h12 : x8 ≤ 40) (h13 : x9 = x8) (h14 : x10 = 1) (h15 : x11 = 4) (h16 : 0 ≤ x12) (h17 : x12 ≤ 1) (h18 : ((x12 = 0 ∧ (x9 < x10 ∨ x11 < x9)) ∨ (x12 = 1 ∧ x10 ≤ x9 ∧ x9 ≤ x11))) (h19 : ¬ x12 = 0) (h20 : 0 ≤ x0) (h21 : x0 ≤ 4) (h22 : 4 - x0 < ((x13 + 1 : Nat) : Int)) (h23 : 0 ≤ x14) (h24 : x14 ≤ 40) (h25 : x14 = x8) (h26 : x0 < x14) (h27 : x15 = 40 * x3) (h28 : x16 = x15 + x0) (h29 : 0 ≤ x17) (h30 : x17 ≤ 1) (h31 : (x17 = 0 ∨ (0 ≤ x1 ∧ x1 ≤ 24))) (h32 : ¬ x17 = 0) (h33 : x18 = x0 + 1) : 0 ≤ x0 ∧ 0 ≤ x1 ∧ x1 ≤ 24 := by omega
theorem o38_227 {x0 x1 x2 x3 x4 x5 x6 x7 x8 : Int} (h0 : x1 = x0) (h1 : x2 = 0) (h2 : x3 = 1) (h3 : 0 ≤ x4) (h4 : x4 ≤ 1) (h5 : ((x4 = 0 ∧ (x1 < x2 ∨ x3 < x1)) ∨ (x4 = 1 ∧ x2 ≤ x1 ∧ x1 ≤ x3))) (h6 : x4 = 0) (h7 : x5 = x0) (h8 : x6 = 10) (h9 : x7 = 13) (h10 : 0 ≤ x8) (h11 : x8 ≤ 1) (h12 : ((x8 = 0 ∧ (x5 < x6 ∨ x7 < x5)) ∨ (x8 = 1 ∧ x6 ≤ x5 ∧ x5 ≤ x7))) (h13 : ¬ x8 = 0) (h14 : x0 = 0) : False := by omega
theorem o38_228 {x0 x1 x2 x3 x4 x5 x6 x7 x8 x9 : Int} (h0 : x2 = x0) (h1 : x3 = 0) (h2 : x4 = 1) (h3 : 0 ≤ x5) (h4 : x5 ≤ 1) (h5 : ((x5 = 0 ∧ (x2 < x3 ∨ x4 < x2)) ∨ (x5 = 1 ∧ x3 ≤ x2 ∧ x2 ≤ x4))) (h6 : x5 = 0) (h7 : x6 = x0) (h8 : x7 = 10) (h9 : x8 = 13) (h10 : 0 ≤ x9) (h11 : x9 ≤ 1) (h12 : ((x9 = 0 ∧ (x6 < x7 ∨ x8 < x6)) ∨ (x9 = 1 ∧ x7 ≤ x6 ∧ x6 ≤ x8))) (h13 : ¬ x9 = 0) (h14 : ¬ x0 = 0) (h15 : x1 = 1) (h16 : x0 = x1) : False := by omega
theorem o38_229 {x0 x1 x2 x3 x4 x5 x6 x7 x8 x9 x10 : Int} (h0 : x2 = x0) (h1 : x3 = 0) (h2 : x4 = 1) (h3 : 0 ≤ x5) (h4 : x5 ≤ 1) (h5 : ((x5 = 0 ∧ (x2 < x3 ∨ x4 < x2)) ∨ (x5 = 1 ∧ x3 ≤ x2 ∧ x2 ≤ x4))) (h6 : x5 = 0) (h7 : x6 = x0) (h8 : x7 = 10) (h9 : x8 = 13) (h10 : 0 ≤ x9) (h11 : x9 ≤ 1) (h12 : ((x9 = 0 ∧ (x6 < x7 ∨ x8 < x6)) ∨ (x9 = 1 ∧ x7 ≤ x6 ∧ x6 ≤ x8))) (h13 : ¬ x9 = 0) (h14 : ¬ x0 = 0) (h15 : x10 = 1) (h16 : ¬ x0 = x10) (h17 : x1 = 10) (h18 : -2147483648 ≤ x0) (h19 : x0 ≤ 2147483647) (h20 : -2147483648 ≤ x1) (h21 : x1 ≤ 2147483647) (h22 : -2147483648 ≤ x5) (h23 : x5 ≤ 2147483647) (h24 : -2147483648 ≤ x9) (h25 : x9 ≤ 2147483647) (h26 : -2147483648 ≤ x10) (h27 : x10 ≤ 2147483647) : -2147483648 ≤ x0 - x1 := by omega
theorem o38_230 {x0 x1 x2 x3 x4 x5 x6 x7 x8 x9 x10 : Int} (h0 : x2 = x0) (h1 : x3 = 0) (h2 : x4 = 1) (h3 : 0 ≤ x5) (h4 : x5 ≤ 1) (h5 : ((x5 = 0 ∧ (x2 < x3 ∨ x4 < x2)) ∨ (x5 = 1 ∧ x3 ≤ x2 ∧ x2 ≤ x4))) (h6 : x5 = 0) (h7 : x6 = x0) (h8 : x7 = 10) (h9 : x8 = 13) (h10 : 0 ≤ x9) (h11 : x9 ≤ 1) (h12 : ((x9 = 0 ∧ (x6 < x7 ∨ x8 < x6)) ∨ (x9 = 1 ∧ x7 ≤ x6 ∧ x6 ≤ x8))) (h13 : ¬ x9 = 0) (h14 : ¬ x0 = 0) (h15 : x10 = 1) (h16 : ¬ x0 = x10) (h17 : x1 = 10) (h18 : -2147483648 ≤ x0) (h19 : x0 ≤ 2147483647) (h20 : -2147483648 ≤ x1) (h21 : x1 ≤ 2147483647) (h22 : -2147483648 ≤ x5) (h23 : x5 ≤ 2147483647) (h24 : -2147483648 ≤ x9) (h25 : x9 ≤ 2147483647) (h26 : -2147483648 ≤ x10) (h27 : x10 ≤ 2147483647) : x0 - x1 ≤ 2147483647 := by omega
theorem o38_231 {x0 x1 x2 x3 x4 x5 x6 x7 x8 x9 x10 x11 x12 x13 x14 x15 x17 x18 x19 x20 x21 : Int} {x16 : Nat} (h0 : x2 = x0) (h1 : x3 = 0) (h2 : x4 = 1) (h3 : 0 ≤ x5) (h4 : x5 ≤ 1) (h5 : ((x5 = 0 ∧ (x2 < x3 ∨ x4 < x2)) ∨ (x5 = 1 ∧ x3 ≤ x2 ∧ x2 ≤ x4))) (h6 : x5 = 0) (h7 : x6 = x0) (h8 : x7 = 10) (h9 : x8 = 13) (h10 : 0 ≤ x9) (h11 : x9 ≤ 1) (h12 : ((x9 = 0 ∧ (x6 < x7 ∨ x8 < x6)) ∨ (x9 = 1 ∧ x7 ≤ x6 ∧ x6 ≤ x8))) (h13 : ¬ x9 = 0) (h14 : 0 ≤ x10) (h15 : x10 ≤ 40) (h16 : x11 = x10) (h17 : x12 = 1) (h18 : x13 = 4) (h19 : 0 ≤ x14) (h20 : x14 ≤ 1) (h21 : ((x14 = 0 ∧ (x11 < x12 ∨ x13 < x11)) ∨ (x14 = 1 ∧ x12 ≤ x11 ∧ x11 ≤ x13))) (h22 : ¬ x14 = 0) (h23 : 0 ≤ x15) (h24 : x15 ≤ 4) (h25 : 4 - x15 < ((x16 + 1 : Nat) : Int)) (h26 : 0 ≤ x17) (h27 : x17 ≤ 40) (h28 : x17 = x10) (h29 : x17 ≤ x15) (h30 : ¬ x0 = 0) (h31 : x18 = 1) (h32 : ¬ x0 = x18) (h33 : x19 = 10) (h34 : x20 = x0 - x19) (h35 : 0 ≤ x21) (h36 : x21 ≤ 40) (h37 : x21 = x10) (h38 : x20 < x21) (h39 : x1 = 10) (h40 : -2147483648 ≤ x0) (h41 : x0 ≤ 2147483647) (h42 : -2147483648 ≤ x1) (h43 : x1 ≤ 2147483647) (h44 : -2147483648 ≤ x5) (h45 : x5 ≤ 2147483647) (h46 : -2147483648 ≤ x9) (h47 : x9 ≤ 2147483647) (h48 : -2147483648 ≤ x10) (h49 : x10 ≤ 2147483647) (h50 : -2147483648 ≤ x14) (h51 : x14 ≤ 2147483647) (h52 : -2147483648 ≤ x15) (h53 : x15 ≤ 2147483647) (h54 : -2147483648 ≤ x17) (h55 : x17 ≤ 2147483647) (h56 : -2147483648 ≤ x18) (h57 : x18 ≤ 2147483647) (h58 : -2147483648 ≤ x19) (h59 : x19 ≤ 2147483647) (h60 : -2147483648 ≤ x20) (h61 : x20 ≤ 2147483647) (h62 : -2147483648 ≤ x21) (h63 : x21 ≤ 2147483647) : -2147483648 ≤ x0 - x1 := by omega
theorem o38_232 {x0 x1 x2 x3 x4 x5 x6 x7 x8 x9 x10 x11 x12 x13 x14 x15 x17 x18 x19 x20 x21 : Int} {x16 : Nat} (h0 : x2 = x0) (h1 : x3 = 0) (h2 : x4 = 1) (h3 : 0 ≤ x5) (h4 : x5 ≤ 1) (h5 : ((x5 = 0 ∧ (x2 < x3 ∨ x4 < x2)) ∨ (x5 = 1 ∧ x3 ≤ x2 ∧ x2 ≤ x4))) (h6 : x5 = 0) (h7 : x6 = x0) (h8 : x7 = 10) (h9 : x8 = 13) (h10 : 0 ≤ x9) (h11 : x9 ≤ 1) (h12 : ((x9 = 0 ∧ (x6 < x7 ∨ x8 < x6)) ∨ (x9 = 1 ∧ x7 ≤ x6 ∧ x6 ≤ x8))) (h13 : ¬ x9 = 0) (h14 : 0 ≤ x10) (h15 : x10 ≤ 40) (h16 : x11 = x10) (h17 : x12 = 1) (h18 : x13 = 4) (h19 : 0 ≤ x14) (h20 : x14 ≤ 1) (h21 : ((x14 = 0 ∧ (x11 < x12 ∨ x13 < x11)) ∨ (x14 = 1 ∧ x12 ≤ x11 ∧ x11 ≤ x13))) (h22 : ¬ x14 = 0) (h23 : 0 ≤ x15) (h24 : x15 ≤ 4) (h25 : 4 - x15 < ((x16 + 1 : Nat) : Int)) (h26 : 0 ≤ x17) (h27 : x17 ≤ 40) (h28 : x17 = x10) (h29 : x17 ≤ x15) (h30 : ¬ x0 = 0) (h31 : x18 = 1) (h32 : ¬ x0 = x18) (h33 : x19 = 10) (h34 : x20 = x0 - x19) (h35 : 0 ≤ x21) (h36 : x21 ≤ 40) (h37 : x21 = x10) (h38 : x20 < x21) (h39 : x1 = 10) (h40 : -2147483648 ≤ x0) (h41 : x0 ≤ 2147483647) (h42 : -2147483648 ≤ x1) (h43 : x1 ≤ 2147483647) (h44 : -2147483648 ≤ x5) (h45 : x5 ≤ 2147483647) (h46 : -2147483648 ≤ x9) (h47 : x9 ≤ 2147483647) (h48 : -2147483648 ≤ x10) (h49 : x10 ≤ 2147483647) (h50 : -2147483648 ≤ x14) (h51 : x14 ≤ 2147483647) (h52 : -2147483648 ≤ x15) (h53 : x15 ≤ 2147483647) (h54 : -2147483648 ≤ x17) (h55 : x17 ≤ 2147483647) (h56 : -2147483648 ≤ x18) (h57 : x18 ≤ 2147483647) (h58 : -2147483648 ≤ x19) (h59 : x19 ≤ 2147483647) (h60 : -2147483648 ≤ x20) (h61 : x20 ≤ 2147483647) (h62 : -2147483648 ≤ x21) (h63 : x21 ≤ 2147483647) : x0 - x1 ≤ 2147483647 := by omega
theorem o38_233 {x0 x1 x2 x3 x4 x5 x6 x7 x8 x9 x10 x11 x12 x13 x14 x15 x17 x18 x19 x20 x21 x22 : Int} {x16 : Nat} (h0 : x1 = x2) (h1 : x3 = 0) (h2 : x4 = 1) (h3 : 0 ≤ x5) (h4 : x5 ≤ 1) (h5 : ((x5 = 0 ∧ (x1 < x3 ∨ x4 < x1)) ∨ (x5 = 1 ∧ x3 ≤ x1 ∧ x1 ≤ x4))) (h6 : x5 = 0) (h7 : x6 = x2) (h8 : x7 = 10) (h9 : x8 = 13) (h10 : 0 ≤ x9) (h11 : x9 ≤ 1) (h12 : ((x9 = 0 ∧ (x6 < x7 ∨ x8 < x6)) ∨ (x9 = 1 ∧ x7 ≤ x6 ∧ x6 ≤ x8))) (h13 : ¬ x9 = 0) (h14 : 0 ≤ x10) (h15 : x10 ≤ 40) (h16 : x11 = x10) (h17 : x12 = 1) (h18 : x13 = 4) (h19 : 0 ≤ x14) (h20 : x14 ≤ 1) (h21 : ((x14 = 0 ∧ (x11 < x12 ∨ x13 < x11)) ∨ (x14 = 1 ∧ x12 ≤ x11 ∧ x11 ≤ x13))) (h22 : ¬ x14 = 0) (h23 : 0 ≤ x15) (h24 : x15 ≤ 4) (h25 : 4 - x15 < ((x16 + 1 : Nat) : Int)) (h26 : 0 ≤ x17) (h27 : x17 ≤ 40) (h28 : x17 = x10) (h29 : x17 ≤ x15) (h30 : ¬ x2 = 0) (h31 : x18 = 1) (h32 : ¬ x2 = x18) (h33 : x19 = 10) (h34 : x20 = x2 - x19) (h35 : 0 ≤ x21) (h36 : x21 ≤ 40) (h37 : x21 = x10) (h38 : x20 < x21) (h39 : x22 = 10) (h40 : x0 = x2 - x22) : 0 ≤ x0 := by omega
theorem o38_234 {x0 x1 x2 x3 x4 x5 x6 x7 x8 x9 x10 x11 x12 x13 x14 x15 x17 x18 x19 x20 x21 x22 : Int} {x16 : Nat} (h0 : x1 = x2) (h1 : x3 = 0) (h2 : x4 = 1) (h3 : 0 ≤ x5) (h4 : x5 ≤ 1) (h5 : ((x5 = 0 ∧ (x1 < x3 ∨ x4 < x1)) ∨ (x5 = 1 ∧ x3 ≤ x1 ∧ x1 ≤ x4))) (h6 : x5 = 0) (h7 : x6 = x2) (h8 : x7 = 10) (h9 : x8 = 13) (h10 : 0 ≤ x9) (h11 : x9 ≤ 1) (h12 : ((x9 = 0 ∧ (x6 < x7 ∨ x8 < x6)) ∨ (x9 = 1 ∧ x7 ≤ x6 ∧ x6 ≤ x8))) (h13 : ¬ x9 = 0) (h14 : 0 ≤ x10) (h15 : x10 ≤ 40) (h16 : x11 = x10) (h17 : x12 = 1) (h18 : x13 = 4) (h19 : 0 ≤ x14) (h20 : x14 ≤ 1) (h21 : ((x14 = 0 ∧ (x11 < x12 ∨ x13 < x11)) ∨ (x14 = 1 ∧ x12 ≤ x11 ∧ x11 ≤ x13))) (h22 : ¬ x14 = 0) (h23 : 0 ≤ x15) (h24 : x15 ≤ 4) (h25 : 4 - x15 < ((x16 + 1 : Nat) : Int)) (h26 : 0 ≤ x17) (h27 : x17 ≤ 40) (h28 : x17 = x10) (h29 : x17 ≤ x15) (h30 : ¬ x2 = 0) (h31 : x18 = 1) (h32 : ¬ x2 = x18) (h33 : x19 = 10) (h34 : x20 = x2 - x19) (h35 : 0 ≤ x21) (h36 : x21 ≤ 40) (h37 : x21 = x10) (h38 : x20 < x21) (h39 : x22 = 10) (h40 : x0 = x2 - x22) : x0 < (4 : Nat) := by omega
set_option maxHeartbeats 4000000 in
set_option maxRecDepth 100000 in
theorem c_X12_goesRound_4 (l : Launch) (G : GG) (Z : RZ) (ad : Nat → Nat) (ws0 : va_W) (hT : Ty G (SM tt) ad ws0) (a1 : Int32) (a2 : Int32) (a3 : Int32) (a4 : Int32) (a5 : Int32) (a6 : Int32) (l1 : 0 ≤ a1.toInt) (u1 : a1.toInt ≤ 3) (l2 : 4 ≤ a2.toInt) (u2 : a2.toInt ≤ 4) (l4 : 0 ≤ a4.toInt) (u4 : a4.toInt ≤ 99) (al0 : 4 ≤ (aI ws0 24 a1.toInt.toNat).toInt) (ah0 : (aI ws0 24 a1.toInt.toNat).toInt ≤ 4) (hN : NumOk ws0 a1) (hJ : J ws0) (hLd : Laid ws0) : Mq l yX12_goesRound cX12_goesRound 10 none 1 G Z [.ref (ad 0), .int a1, .int a2, .int a3, .int a4, .int a5, .int a6] ws0 (PV G (SM tt) ad [0, 19] ws0 (fun u => True)) := by
  refine Mq.start (by decide) (Nat.le_of_ble_eq_true rfl) ?_
  intro p e s m below meth c A ls C0 hZ h hl
  have hl : lv_has ls 10 [(0, .ref (ad 0)), (1, .int a1), (2, .int a2), (3, .int a3), (4, .int a4), (5, .int a5), (6, .int a6)] := hl
  have h : Wt G (SM tt) ad A s s.heap [] ws0 := ⟨h, hT⟩
  obtain ⟨args, hargs⟩ : ∃ z, z = ([.ref (ad 0), .int a1, .int a2, .int a3, .int a4, .int a5, .int a6] : List Value).toArray := ⟨_, rfl⟩
  rw [← hargs] at C0 ⊢
  have C0 : Cx p s m args meth c RX12 cX12_goesRound 10 none := C0
  obtain ⟨Q, hQ⟩ : ∃ z, z = MQ below ((PV G (SM tt) ad [0, 19] ws0 (fun u => True)) A) args s 0 0 A := ⟨_, rfl⟩
  rw [← hQ]
  obtain ⟨ap0, ea0⟩ : ∃ v, aI ws0 24 a1.toInt.toNat = v := ⟨_, rfl⟩
  rw [ea0] at al0 ah0
  refine lv_iload_n C0.1 C0.2.1 dX12_goesRound_0 rfl (lv_at hl 2 rfl) ?_
  refine lv_aload_n C0.1 C0.2.1 dX12_goesRound_1 rfl (lv_at hl 0 rfl) ?_
  refine ng_X12_rowMany C0 h kSM_0 q_1480 dX12_goesRound_2 ?_
  refine lv_iload_n C0.1 C0.2.1 dX12_goesRound_5 rfl (lv_at hl 1 rfl) ?_
  refine y_iald C0 h kSM_24 rfl (by decide) (o38_1 l1 u1) (o38_2 l1 u1) dX12_goesRound_6 (fun v_1 e_2 e_3 e_4 => ?_)
  have q_5 : v_1.toInt = ap0.toInt := congrArg Int32.toInt (e_2.symm.trans (Eq.trans rfl (Eq.trans rfl ea0)))
  refine y_icmp_ne (tgt := 88) C0 dX12_goesRound_7 (by decide) (fun c_6 => ((o38_3 l2 u2 al0 ah0 e_3 e_4 q_5 c_6)).elim) (fun c_6 => ?_)
  refine lv_aload_n C0.1 C0.2.1 dX12_goesRound_10 rfl (lv_at hl 0 rfl) ?_
  refine ng_X12_bestLefts C0 h kSM_0 q_1473 dX12_goesRound_11 (fun v_7 e_8 e_9 e_10 => ?_)
  refine y_c1 (n := (-1)) C0 (by decide) dX12_goesRound_14 (fun v_11 e_12 => ?_)
  refine y_icmp_eq (tgt := 46) C0 dX12_goesRound_15 (by decide) (fun c_13 => ?_) (fun c_13 => ?_)
  · -- 15
    refine lv_aload_n C0.1 C0.2.1 dX12_goesRound_46 rfl (lv_at hl 0 rfl) ?_
    refine lv_iload C0.1 C0.2.1 dX12_goesRound_47 (lv_at hl 5 rfl) ?_
    refine np_X12_bestLefts C0 h kSM_0 q_1473 (le_min a5) (le_max a5) dX12_goesRound_49 (fun H locs ws_14 h u_15 => ?_)
    refine lv_aload_n C0.1 C0.2.1 dX12_goesRound_52 rfl (lv_at hl 0 rfl) ?_
    refine lv_iload C0.1 C0.2.1 dX12_goesRound_53 (lv_at hl 6 rfl) ?_
    refine np_X12_bestStreets C0 h kSM_0 q_1474 (le_min a6) (le_max a6) dX12_goesRound_55 (fun H locs ws_16 h u_17 => ?_)
    refine y_c1 (n := 0) C0 (by decide) dX12_goesRound_58 (fun v_18 e_19 => ?_)
    refine lv_istore (lv' := [(7, .int v_18), (0, .ref (ad 0)), (1, .int a1), (2, .int a2), (3, .int a3), (4, .int a4), (5, .int a5), (6, .int a6)]) C0.1 C0.2.1 dX12_goesRound_59 hl (by decide) rfl (fun ls hl => ?_)
    have lp_23 : ∀ (n_25 : Nat) (x7_20 : Int32) (H : Heap) (locs : List Loc) (ls : Array Slot) (ws_21 : va_W), 4 - x7_20.toInt < (n_25 : Int) → 0 ≤ x7_20.toInt → x7_20.toInt ≤ 4 → Wt G (SM tt) ad A s H locs ws_21 → Fr (SM tt) [19] ws_16 ws_21 → lv_has ls 10 [(7, .int x7_20), (0, .ref (ad 0)), (1, .int a1), (2, .int a2), (3, .int a3), (4, .int a4), (5, .int a5), (6, .int a6)] → W p l e (rmd 1 0 0) s m args below meth c H locs 0 0 Q (F0 m 61 ls []) := by
      intro n_25
      induction n_25 with
      | zero => intro x7_20 H locs ls ws_21 hn_26 b_27 b_28 h hF_22 hl; exact ((o38_4 b_27 b_28 hn_26)).elim
      | succ n_25 ih_24 =>
        intro x7_20 H locs ls ws_21 hn_26 b_27 b_28 h hF_22 hl
        refine lv_iload C0.1 C0.2.1 dX12_goesRound_61 (lv_at hl 0 rfl) ?_
        refine lv_iload_n C0.1 C0.2.1 dX12_goesRound_63 rfl (lv_at hl 3 rfl) ?_
        refine y_icmp_ge (tgt := 87) C0 dX12_goesRound_64 (by decide) (fun c_29 => ?_) (fun c_29 => ?_)
        · -- 64
          rw [hQ]
          exact y_vret C0 h (Fr.tr (Fr.tr (Fr.up u_15.1 kSM_0 (by decide)) (Fr.up u_17.1 kSM_0 (by decide))) (Fr.mono hF_22 (by decide))) trivial dX12_goesRound_87
        · -- 64
          refine lv_aload_n C0.1 C0.2.1 dX12_goesRound_67 rfl (lv_at hl 1 rfl) ?_
          refine ng_X12_bestRow C0 h kSM_0 q_1472 dX12_goesRound_68 ?_
          refine lv_iload C0.1 C0.2.1 dX12_goesRound_71 (lv_at hl 0 rfl) ?_
          refine lv_aload_n C0.1 C0.2.1 dX12_goesRound_73 rfl (lv_at hl 1 rfl) ?_
          refine ng_X12_taken C0 h kSM_0 q_1471 dX12_goesRound_74 ?_
          refine lv_iload C0.1 C0.2.1 dX12_goesRound_77 (lv_at hl 0 rfl) ?_
          refine y_iald C0 h kSM_18 rfl (by decide) (o38_5 l2 u2 al0 ah0 e_3 e_4 q_5 c_6 b_27 b_28 hn_26 c_29) (o38_6 l2 u2 al0 ah0 e_3 e_4 q_5 c_6 b_27 b_28 hn_26 c_29) dX12_goesRound_79 (fun v_30 e_31 e_32 e_33 => ?_)
          refine y_iast C0 h kSM_19 rfl (by decide) (o38_5 l2 u2 al0 ah0 e_3 e_4 q_5 c_6 b_27 b_28 hn_26 c_29) (o38_6 l2 u2 al0 ah0 e_3 e_4 q_5 c_6 b_27 b_28 hn_26 c_29) (le_min v_30) (le_max v_30) dX12_goesRound_80 (fun H locs ws_34 h u_35 => ?_)
          refine y_inc (kp := 0) (n := 1) (fun v_36 => [(7, .int v_36), (0, .ref (ad 0)), (1, .int a1), (2, .int a2), (3, .int a3), (4, .int a4), (5, .int a5), (6, .int a6)]) C0 hl rfl (by decide) (by decide) (fun _ => rfl) (o38_7 l2 u2 al0 ah0 e_3 e_4 q_5 c_6 b_27 b_28 hn_26 c_29 (le_min x7_20) (le_max x7_20) (le_min a2) (le_max a2) (le_min ap0) (le_max ap0) (le_min v_1) (le_max v_1)) (o38_8 l2 u2 al0 ah0 e_3 e_4 q_5 c_6 b_27 b_28 hn_26 c_29 (le_min x7_20) (le_max x7_20) (le_min a2) (le_max a2) (le_min ap0) (le_max ap0) (le_min v_1) (le_max v_1)) dX12_goesRound_81 (fun v_36 ls e_37 hl => ?_)
          refine lv_goto (tgt := 61) C0.1 C0.2.1 dX12_goesRound_84 (by decide) ?_
          exact ih_24 v_36 _ _ _ _ (o38_9 l2 u2 al0 ah0 e_3 e_4 q_5 c_6 b_27 b_28 hn_26 c_29 e_37) (o38_10 l2 u2 al0 ah0 e_3 e_4 q_5 c_6 b_27 b_28 hn_26 c_29 e_37) (o38_11 l2 u2 al0 ah0 e_3 e_4 q_5 c_6 b_27 b_28 hn_26 c_29 e_37) h (Fr.tr hF_22 (Fr.up u_35.1 kSM_19 (by decide))) (lv_sub hl [0, 1, 2, 3, 4, 5, 6, 7] rfl)
    exact lp_23 ((4 - v_18.toInt + 1).toNat) v_18 _ _ _ _ (o38_12 e_19) (o38_13 e_19) (o38_14 e_19) h Fr.rf (lv_sub hl [0, 1, 2, 3, 4, 5, 6, 7] rfl)
  · -- 15
    refine lv_iload C0.1 C0.2.1 dX12_goesRound_18 (lv_at hl 5 rfl) ?_
    refine lv_aload_n C0.1 C0.2.1 dX12_goesRound_20 rfl (lv_at hl 0 rfl) ?_
    refine ng_X12_bestLefts C0 h kSM_0 q_1473 dX12_goesRound_21 (fun v_38 e_39 e_40 e_41 => ?_)
    have q_42 : v_38.toInt = v_7.toInt := congrArg Int32.toInt (e_39.symm.trans (Eq.trans rfl e_8))
    refine y_icmp_gt (tgt := 45) C0 dX12_goesRound_24 (by decide) (fun c_43 => ?_) (fun c_43 => ?_)
    · -- 24
      rw [hQ]
      exact y_vret C0 h Fr.rf trivial dX12_goesRound_45
    · -- 24
      refine lv_iload C0.1 C0.2.1 dX12_goesRound_27 (lv_at hl 5 rfl) ?_
      refine lv_aload_n C0.1 C0.2.1 dX12_goesRound_29 rfl (lv_at hl 0 rfl) ?_
      refine ng_X12_bestLefts C0 h kSM_0 q_1473 dX12_goesRound_30 (fun v_44 e_45 e_46 e_47 => ?_)
      have q_48 : v_44.toInt = v_7.toInt := congrArg Int32.toInt (e_45.symm.trans (Eq.trans rfl e_8))
      refine y_icmp_ne (tgt := 46) C0 dX12_goesRound_33 (by decide) (fun c_49 => ?_) (fun c_49 => ?_)
      · -- 33
        refine lv_aload_n C0.1 C0.2.1 dX12_goesRound_46 rfl (lv_at hl 0 rfl) ?_
        refine lv_iload C0.1 C0.2.1 dX12_goesRound_47 (lv_at hl 5 rfl) ?_
        refine np_X12_bestLefts C0 h kSM_0 q_1473 (le_min a5) (le_max a5) dX12_goesRound_49 (fun H locs ws_50 h u_51 => ?_)
        refine lv_aload_n C0.1 C0.2.1 dX12_goesRound_52 rfl (lv_at hl 0 rfl) ?_
        refine lv_iload C0.1 C0.2.1 dX12_goesRound_53 (lv_at hl 6 rfl) ?_
        refine np_X12_bestStreets C0 h kSM_0 q_1474 (le_min a6) (le_max a6) dX12_goesRound_55 (fun H locs ws_52 h u_53 => ?_)
        refine y_c1 (n := 0) C0 (by decide) dX12_goesRound_58 (fun v_54 e_55 => ?_)
        refine lv_istore (lv' := [(7, .int v_54), (0, .ref (ad 0)), (1, .int a1), (2, .int a2), (3, .int a3), (4, .int a4), (5, .int a5), (6, .int a6)]) C0.1 C0.2.1 dX12_goesRound_59 hl (by decide) rfl (fun ls hl => ?_)
        have lp_59 : ∀ (n_61 : Nat) (x7_56 : Int32) (H : Heap) (locs : List Loc) (ls : Array Slot) (ws_57 : va_W), 4 - x7_56.toInt < (n_61 : Int) → 0 ≤ x7_56.toInt → x7_56.toInt ≤ 4 → Wt G (SM tt) ad A s H locs ws_57 → Fr (SM tt) [19] ws_52 ws_57 → lv_has ls 10 [(7, .int x7_56), (0, .ref (ad 0)), (1, .int a1), (2, .int a2), (3, .int a3), (4, .int a4), (5, .int a5), (6, .int a6)] → W p l e (rmd 1 0 0) s m args below meth c H locs 0 0 Q (F0 m 61 ls []) := by
          intro n_61
          induction n_61 with
          | zero => intro x7_56 H locs ls ws_57 hn_62 b_63 b_64 h hF_58 hl; exact ((o38_4 b_63 b_64 hn_62)).elim
          | succ n_61 ih_60 =>
            intro x7_56 H locs ls ws_57 hn_62 b_63 b_64 h hF_58 hl
            refine lv_iload C0.1 C0.2.1 dX12_goesRound_61 (lv_at hl 0 rfl) ?_
            refine lv_iload_n C0.1 C0.2.1 dX12_goesRound_63 rfl (lv_at hl 3 rfl) ?_
            refine y_icmp_ge (tgt := 87) C0 dX12_goesRound_64 (by decide) (fun c_65 => ?_) (fun c_65 => ?_)
            · -- 64
              rw [hQ]
              exact y_vret C0 h (Fr.tr (Fr.tr (Fr.up u_51.1 kSM_0 (by decide)) (Fr.up u_53.1 kSM_0 (by decide))) (Fr.mono hF_58 (by decide))) trivial dX12_goesRound_87
            · -- 64
              refine lv_aload_n C0.1 C0.2.1 dX12_goesRound_67 rfl (lv_at hl 1 rfl) ?_
              refine ng_X12_bestRow C0 h kSM_0 q_1472 dX12_goesRound_68 ?_
              refine lv_iload C0.1 C0.2.1 dX12_goesRound_71 (lv_at hl 0 rfl) ?_
              refine lv_aload_n C0.1 C0.2.1 dX12_goesRound_73 rfl (lv_at hl 1 rfl) ?_
              refine ng_X12_taken C0 h kSM_0 q_1471 dX12_goesRound_74 ?_
              refine lv_iload C0.1 C0.2.1 dX12_goesRound_77 (lv_at hl 0 rfl) ?_
              refine y_iald C0 h kSM_18 rfl (by decide) (o38_5 l2 u2 al0 ah0 e_3 e_4 q_5 c_6 b_63 b_64 hn_62 c_65) (o38_6 l2 u2 al0 ah0 e_3 e_4 q_5 c_6 b_63 b_64 hn_62 c_65) dX12_goesRound_79 (fun v_66 e_67 e_68 e_69 => ?_)
              refine y_iast C0 h kSM_19 rfl (by decide) (o38_5 l2 u2 al0 ah0 e_3 e_4 q_5 c_6 b_63 b_64 hn_62 c_65) (o38_6 l2 u2 al0 ah0 e_3 e_4 q_5 c_6 b_63 b_64 hn_62 c_65) (le_min v_66) (le_max v_66) dX12_goesRound_80 (fun H locs ws_70 h u_71 => ?_)
              refine y_inc (kp := 0) (n := 1) (fun v_72 => [(7, .int v_72), (0, .ref (ad 0)), (1, .int a1), (2, .int a2), (3, .int a3), (4, .int a4), (5, .int a5), (6, .int a6)]) C0 hl rfl (by decide) (by decide) (fun _ => rfl) (o38_7 l2 u2 al0 ah0 e_3 e_4 q_5 c_6 b_63 b_64 hn_62 c_65 (le_min x7_56) (le_max x7_56) (le_min a2) (le_max a2) (le_min ap0) (le_max ap0) (le_min v_1) (le_max v_1)) (o38_8 l2 u2 al0 ah0 e_3 e_4 q_5 c_6 b_63 b_64 hn_62 c_65 (le_min x7_56) (le_max x7_56) (le_min a2) (le_max a2) (le_min ap0) (le_max ap0) (le_min v_1) (le_max v_1)) dX12_goesRound_81 (fun v_72 ls e_73 hl => ?_)
              refine lv_goto (tgt := 61) C0.1 C0.2.1 dX12_goesRound_84 (by decide) ?_
              exact ih_60 v_72 _ _ _ _ (o38_9 l2 u2 al0 ah0 e_3 e_4 q_5 c_6 b_63 b_64 hn_62 c_65 e_73) (o38_10 l2 u2 al0 ah0 e_3 e_4 q_5 c_6 b_63 b_64 hn_62 c_65 e_73) (o38_11 l2 u2 al0 ah0 e_3 e_4 q_5 c_6 b_63 b_64 hn_62 c_65 e_73) h (Fr.tr hF_58 (Fr.up u_71.1 kSM_19 (by decide))) (lv_sub hl [0, 1, 2, 3, 4, 5, 6, 7] rfl)
        exact lp_59 ((4 - v_54.toInt + 1).toNat) v_54 _ _ _ _ (o38_12 e_55) (o38_13 e_55) (o38_14 e_55) h Fr.rf (lv_sub hl [0, 1, 2, 3, 4, 5, 6, 7] rfl)
      · -- 33
        refine lv_iload C0.1 C0.2.1 dX12_goesRound_36 (lv_at hl 6 rfl) ?_
        refine lv_aload_n C0.1 C0.2.1 dX12_goesRound_38 rfl (lv_at hl 0 rfl) ?_
        refine ng_X12_bestStreets C0 h kSM_0 q_1474 dX12_goesRound_39 (fun v_74 e_75 e_76 e_77 => ?_)
        refine y_icmp_lt (tgt := 46) C0 dX12_goesRound_42 (by decide) (fun c_78 => ?_) (fun c_78 => ?_)
        · -- 42
          refine lv_aload_n C0.1 C0.2.1 dX12_goesRound_46 rfl (lv_at hl 0 rfl) ?_
          refine lv_iload C0.1 C0.2.1 dX12_goesRound_47 (lv_at hl 5 rfl) ?_
          refine np_X12_bestLefts C0 h kSM_0 q_1473 (le_min a5) (le_max a5) dX12_goesRound_49 (fun H locs ws_79 h u_80 => ?_)
          refine lv_aload_n C0.1 C0.2.1 dX12_goesRound_52 rfl (lv_at hl 0 rfl) ?_
          refine lv_iload C0.1 C0.2.1 dX12_goesRound_53 (lv_at hl 6 rfl) ?_
          refine np_X12_bestStreets C0 h kSM_0 q_1474 (le_min a6) (le_max a6) dX12_goesRound_55 (fun H locs ws_81 h u_82 => ?_)
          refine y_c1 (n := 0) C0 (by decide) dX12_goesRound_58 (fun v_83 e_84 => ?_)
          refine lv_istore (lv' := [(7, .int v_83), (0, .ref (ad 0)), (1, .int a1), (2, .int a2), (3, .int a3), (4, .int a4), (5, .int a5), (6, .int a6)]) C0.1 C0.2.1 dX12_goesRound_59 hl (by decide) rfl (fun ls hl => ?_)
          have lp_88 : ∀ (n_90 : Nat) (x7_85 : Int32) (H : Heap) (locs : List Loc) (ls : Array Slot) (ws_86 : va_W), 4 - x7_85.toInt < (n_90 : Int) → 0 ≤ x7_85.toInt → x7_85.toInt ≤ 4 → Wt G (SM tt) ad A s H locs ws_86 → Fr (SM tt) [19] ws_81 ws_86 → lv_has ls 10 [(7, .int x7_85), (0, .ref (ad 0)), (1, .int a1), (2, .int a2), (3, .int a3), (4, .int a4), (5, .int a5), (6, .int a6)] → W p l e (rmd 1 0 0) s m args below meth c H locs 0 0 Q (F0 m 61 ls []) := by
            intro n_90
            induction n_90 with
            | zero => intro x7_85 H locs ls ws_86 hn_91 b_92 b_93 h hF_87 hl; exact ((o38_4 b_92 b_93 hn_91)).elim
            | succ n_90 ih_89 =>
              intro x7_85 H locs ls ws_86 hn_91 b_92 b_93 h hF_87 hl
              refine lv_iload C0.1 C0.2.1 dX12_goesRound_61 (lv_at hl 0 rfl) ?_
              refine lv_iload_n C0.1 C0.2.1 dX12_goesRound_63 rfl (lv_at hl 3 rfl) ?_
              refine y_icmp_ge (tgt := 87) C0 dX12_goesRound_64 (by decide) (fun c_94 => ?_) (fun c_94 => ?_)
              · -- 64
                rw [hQ]
                exact y_vret C0 h (Fr.tr (Fr.tr (Fr.up u_80.1 kSM_0 (by decide)) (Fr.up u_82.1 kSM_0 (by decide))) (Fr.mono hF_87 (by decide))) trivial dX12_goesRound_87
              · -- 64
                refine lv_aload_n C0.1 C0.2.1 dX12_goesRound_67 rfl (lv_at hl 1 rfl) ?_
                refine ng_X12_bestRow C0 h kSM_0 q_1472 dX12_goesRound_68 ?_
                refine lv_iload C0.1 C0.2.1 dX12_goesRound_71 (lv_at hl 0 rfl) ?_
                refine lv_aload_n C0.1 C0.2.1 dX12_goesRound_73 rfl (lv_at hl 1 rfl) ?_
                refine ng_X12_taken C0 h kSM_0 q_1471 dX12_goesRound_74 ?_
                refine lv_iload C0.1 C0.2.1 dX12_goesRound_77 (lv_at hl 0 rfl) ?_
                refine y_iald C0 h kSM_18 rfl (by decide) (o38_5 l2 u2 al0 ah0 e_3 e_4 q_5 c_6 b_92 b_93 hn_91 c_94) (o38_6 l2 u2 al0 ah0 e_3 e_4 q_5 c_6 b_92 b_93 hn_91 c_94) dX12_goesRound_79 (fun v_95 e_96 e_97 e_98 => ?_)
                refine y_iast C0 h kSM_19 rfl (by decide) (o38_5 l2 u2 al0 ah0 e_3 e_4 q_5 c_6 b_92 b_93 hn_91 c_94) (o38_6 l2 u2 al0 ah0 e_3 e_4 q_5 c_6 b_92 b_93 hn_91 c_94) (le_min v_95) (le_max v_95) dX12_goesRound_80 (fun H locs ws_99 h u_100 => ?_)
                refine y_inc (kp := 0) (n := 1) (fun v_101 => [(7, .int v_101), (0, .ref (ad 0)), (1, .int a1), (2, .int a2), (3, .int a3), (4, .int a4), (5, .int a5), (6, .int a6)]) C0 hl rfl (by decide) (by decide) (fun _ => rfl) (o38_7 l2 u2 al0 ah0 e_3 e_4 q_5 c_6 b_92 b_93 hn_91 c_94 (le_min x7_85) (le_max x7_85) (le_min a2) (le_max a2) (le_min ap0) (le_max ap0) (le_min v_1) (le_max v_1)) (o38_8 l2 u2 al0 ah0 e_3 e_4 q_5 c_6 b_92 b_93 hn_91 c_94 (le_min x7_85) (le_max x7_85) (le_min a2) (le_max a2) (le_min ap0) (le_max ap0) (le_min v_1) (le_max v_1)) dX12_goesRound_81 (fun v_101 ls e_102 hl => ?_)
                refine lv_goto (tgt := 61) C0.1 C0.2.1 dX12_goesRound_84 (by decide) ?_
                exact ih_89 v_101 _ _ _ _ (o38_9 l2 u2 al0 ah0 e_3 e_4 q_5 c_6 b_92 b_93 hn_91 c_94 e_102) (o38_10 l2 u2 al0 ah0 e_3 e_4 q_5 c_6 b_92 b_93 hn_91 c_94 e_102) (o38_11 l2 u2 al0 ah0 e_3 e_4 q_5 c_6 b_92 b_93 hn_91 c_94 e_102) h (Fr.tr hF_87 (Fr.up u_100.1 kSM_19 (by decide))) (lv_sub hl [0, 1, 2, 3, 4, 5, 6, 7] rfl)
          exact lp_88 ((4 - v_83.toInt + 1).toNat) v_83 _ _ _ _ (o38_12 e_84) (o38_13 e_84) (o38_14 e_84) h Fr.rf (lv_sub hl [0, 1, 2, 3, 4, 5, 6, 7] rfl)
        · -- 42
          rw [hQ]
          exact y_vret C0 h Fr.rf trivial dX12_goesRound_45
set_option maxHeartbeats 4000000 in
set_option maxRecDepth 100000 in
theorem c_X12_goesRound_3 (l : Launch) (G : GG) (Z : RZ) (ad : Nat → Nat) (ws0 : va_W) (hT : Ty G (SM tt) ad ws0) (a1 : Int32) (a2 : Int32) (a3 : Int32) (a4 : Int32) (a5 : Int32) (a6 : Int32) (l1 : 0 ≤ a1.toInt) (u1 : a1.toInt ≤ 3) (l2 : 3 ≤ a2.toInt) (u2 : a2.toInt ≤ 3) (l4 : 0 ≤ a4.toInt) (u4 : a4.toInt ≤ 99) (al0 : 3 ≤ (aI ws0 24 a1.toInt.toNat).toInt) (ah0 : (aI ws0 24 a1.toInt.toNat).toInt ≤ 4) (hN : NumOk ws0 a1) (hJ : J ws0) (hLd : Laid ws0) : Mq l yX12_goesRound cX12_goesRound 10 none 9 G Z [.ref (ad 0), .int a1, .int a2, .int a3, .int a4, .int a5, .int a6] ws0 (PV G (SM tt) ad [0, 5, 8, 9, 10, 11, 12, 13, 18, 19] ws0 (fun u => True)) := by
  refine Mq.start (by decide) (Nat.le_of_ble_eq_true rfl) ?_
  intro p e s m below meth c A ls C0 hZ h hl
  have hl : lv_has ls 10 [(0, .ref (ad 0)), (1, .int a1), (2, .int a2), (3, .int a3), (4, .int a4), (5, .int a5), (6, .int a6)] := hl
  have h : Wt G (SM tt) ad A s s.heap [] ws0 := ⟨h, hT⟩
  obtain ⟨args, hargs⟩ : ∃ z, z = ([.ref (ad 0), .int a1, .int a2, .int a3, .int a4, .int a5, .int a6] : List Value).toArray := ⟨_, rfl⟩
  rw [← hargs] at C0 ⊢
  have C0 : Cx p s m args meth c RX12 cX12_goesRound 10 none := C0
  obtain ⟨Q, hQ⟩ : ∃ z, z = MQ below ((PV G (SM tt) ad [0, 5, 8, 9, 10, 11, 12, 13, 18, 19] ws0 (fun u => True)) A) args s 0 0 A := ⟨_, rfl⟩
  rw [← hQ]
  obtain ⟨ap0, ea0⟩ : ∃ v, aI ws0 24 a1.toInt.toNat = v := ⟨_, rfl⟩
  rw [ea0] at al0 ah0
  refine lv_iload_n C0.1 C0.2.1 dX12_goesRound_0 rfl (lv_at hl 2 rfl) ?_
  refine lv_aload_n C0.1 C0.2.1 dX12_goesRound_1 rfl (lv_at hl 0 rfl) ?_
  refine ng_X12_rowMany C0 h kSM_0 q_1480 dX12_goesRound_2 ?_
  refine lv_iload_n C0.1 C0.2.1 dX12_goesRound_5 rfl (lv_at hl 1 rfl) ?_
  refine y_iald C0 h kSM_24 rfl (by decide) (o38_1 l1 u1) (o38_2 l1 u1) dX12_goesRound_6 (fun v_1 e_2 e_3 e_4 => ?_)
  have q_5 : v_1.toInt = ap0.toInt := congrArg Int32.toInt (e_2.symm.trans (Eq.trans rfl (Eq.trans rfl ea0)))
  refine y_icmp_ne (tgt := 88) C0 dX12_goesRound_7 (by decide) (fun c_6 => ?_) (fun c_6 => ?_)
  · -- 7
    refine y_c1 (n := 0) C0 (by decide) dX12_goesRound_88 (fun v_7 e_8 => ?_)
    refine lv_istore (lv' := [(7, .int v_7), (0, .ref (ad 0)), (1, .int a1), (2, .int a2), (3, .int a3), (4, .int a4), (5, .int a5), (6, .int a6)]) C0.1 C0.2.1 dX12_goesRound_89 hl (by decide) rfl (fun ls hl => ?_)
    have lp_12 : ∀ (n_14 : Nat) (x7_9 : Int32) (H : Heap) (locs : List Loc) (ls : Array Slot) (ws_10 : va_W), 4 - x7_9.toInt < (n_14 : Int) → 0 ≤ x7_9.toInt → x7_9.toInt ≤ 4 → Wt G (SM tt) ad A s H locs ws_10 → Fr (SM tt) [0, 5, 8, 9, 10, 11, 12, 13, 18, 19] ws0 ws_10 → lv_has ls 10 [(7, .int x7_9), (0, .ref (ad 0)), (1, .int a1), (2, .int a2), (3, .int a3), (4, .int a4), (5, .int a5), (6, .int a6)] → W p l e (rmd 9 0 0) s m args below meth c H locs 0 0 Q (F0 m 91 ls []) := by
      intro n_14
      induction n_14 with
      | zero => intro x7_9 H locs ls ws_10 hn_15 b_16 b_17 h hF_11 hl; exact ((o38_4 b_16 b_17 hn_15)).elim
      | succ n_14 ih_13 =>
        intro x7_9 H locs ls ws_10 hn_15 b_16 b_17 h hF_11 hl
        refine lv_iload C0.1 C0.2.1 dX12_goesRound_91 (lv_at hl 0 rfl) ?_
        refine lv_aload_n C0.1 C0.2.1 dX12_goesRound_93 rfl (lv_at hl 1 rfl) ?_
        refine ng_X12_rowMany C0 h kSM_0 q_1480 dX12_goesRound_94 ?_
        refine lv_iload_n C0.1 C0.2.1 dX12_goesRound_97 rfl (lv_at hl 2 rfl) ?_
        refine y_iald C0 h kSM_24 rfl (by decide) (o38_1 l1 u1) (o38_2 l1 u1) dX12_goesRound_98 (fun v_18 e_19 e_20 e_21 => ?_)
        have q_22 : v_18.toInt = ap0.toInt := congrArg Int32.toInt (e_19.symm.trans (Eq.trans rfl (Eq.trans (Fr.aI hF_11 kSM_24 (by decide)) ea0)))
        refine y_icmp_ge (tgt := 197) C0 dX12_goesRound_99 (by decide) (fun c_23 => ?_) (fun c_23 => ?_)
        · -- 99
          rw [hQ]
          exact y_vret C0 h hF_11 trivial dX12_goesRound_197
        · -- 99
          refine lv_iload_n C0.1 C0.2.1 dX12_goesRound_102 rfl (lv_at hl 4 rfl) ?_
          refine y_i2l C0 dX12_goesRound_103 (fun w_24 e_25 => ?_)
          refine lv_iload C0.1 C0.2.1 dX12_goesRound_104 (lv_at hl 0 rfl) ?_
          refine y_ci h (y_rS (As := [.long w_24, .int x7_9]) (rest := []) C0 hZ h (c_X12_isIn l G Z ad _ h.2 w_24 x7_9) k_X12_isIn q_1716 q_1715 hl.1 rfl rfl (Nat.le_of_ble_eq_true rfl) dX12_goesRound_106 ⟨Nat.le_of_ble_eq_true rfl, Nat.le_of_ble_eq_true rfl⟩ ⟨Nat.le_of_ble_eq_true rfl, Nat.le_of_ble_eq_true rfl⟩) (fun r_29 H locs ws_26 h u_27 p_28 => ?_)
          obtain ⟨e_30, e_31, e_32⟩ := p_28
          refine y_if_eq (tgt := 115) C0 dX12_goesRound_109 (by decide) (fun c_33 => ?_) (fun c_33 => ?_)
          · -- 109
            refine lv_aload_n C0.1 C0.2.1 dX12_goesRound_115 rfl (lv_at hl 1 rfl) ?_
            refine ng_X12_numbers C0 h kSM_0 q_1481 dX12_goesRound_116 ?_
            refine y_c2 (n := 40) C0 (by decide) dX12_goesRound_119 (fun v_34 e_35 => ?_)
            refine lv_iload_n C0.1 C0.2.1 dX12_goesRound_121 rfl (lv_at hl 2 rfl) ?_
            refine y_cmul (n := 40) C0 (o38_15 e_35) (o38_16 l1 u1 (le_min a1) (le_max a1)) (o38_17 l1 u1 (le_min a1) (le_max a1)) dX12_goesRound_122 (fun v_36 e_37 => ?_)
            refine lv_iload C0.1 C0.2.1 dX12_goesRound_123 (lv_at hl 0 rfl) ?_
            refine y_add C0 (o38_18 l1 u1 l2 u2 al0 ah0 e_3 e_4 q_5 c_6 b_16 b_17 hn_15 e_20 e_21 q_22 c_23 e_37 (le_min v_36) (le_max v_36) (le_min x7_9) (le_max x7_9) (le_min a1) (le_max a1) (le_min a2) (le_max a2) (le_min ap0) (le_max ap0) (le_min v_1) (le_max v_1) (le_min v_18) (le_max v_18)) (o38_19 l1 u1 l2 u2 al0 ah0 e_3 e_4 q_5 c_6 b_16 b_17 hn_15 e_20 e_21 q_22 c_23 e_37 (le_min v_36) (le_max v_36) (le_min x7_9) (le_max x7_9) (le_min a1) (le_max a1) (le_min a2) (le_max a2) (le_min ap0) (le_max ap0) (le_min v_1) (le_max v_1) (le_min v_18) (le_max v_18)) dX12_goesRound_125 (fun v_38 e_39 => ?_)
            refine y_lald C0 h kSM_25 rfl (by decide) (o38_20 l1 u1 l2 u2 al0 ah0 e_3 e_4 q_5 c_6 b_16 b_17 hn_15 e_20 e_21 q_22 c_23 e_37 e_39) (o38_21 l1 u1 l2 u2 al0 ah0 e_3 e_4 q_5 c_6 b_16 b_17 hn_15 e_20 e_21 q_22 c_23 e_37 e_39) dX12_goesRound_126 (fun w_40 e_41 => ?_)
            have g_42 := num_at (NumOk.fr (M := [0, 5, 8, 9, 10, 11, 12, 13, 18, 19]) hN (Fr.tr hF_11 (Fr.mono u_27 (by decide))) (by decide) (by decide)) (Eq.trans rfl (Eq.trans (Eq.trans (Fr.aI u_27 kSM_24 (by decide)) (Fr.aI hF_11 kSM_24 (by decide))) ea0)) (o38_22 l1 u1 l2 u2 al0 ah0 e_3 e_4 q_5 c_6 b_16 b_17 hn_15 e_20 e_21 q_22 c_23 e_37 e_39) (o38_23 l1 u1 l2 u2 al0 ah0 e_3 e_4 q_5 c_6 b_16 b_17 hn_15 e_20 e_21 q_22 c_23 e_37 e_39) e_41
            refine y_l2i C0 (o38_24 g_42.1 g_42.2) (o38_25 g_42.1 g_42.2) dX12_goesRound_127 (fun v_43 e_44 => ?_)
            refine lv_istore (lv' := [(8, .int v_43), (7, .int x7_9), (0, .ref (ad 0)), (1, .int a1), (2, .int a2), (3, .int a3), (4, .int a4), (5, .int a5), (6, .int a6)]) C0.1 C0.2.1 dX12_goesRound_128 hl (by decide) rfl (fun ls hl => ?_)
            refine lv_aload_n C0.1 C0.2.1 dX12_goesRound_130 rfl (lv_at hl 2 rfl) ?_
            refine lv_iload C0.1 C0.2.1 dX12_goesRound_131 (lv_at hl 6 rfl) ?_
            refine lv_iload C0.1 C0.2.1 dX12_goesRound_133 (lv_at hl 8 rfl) ?_
            refine lv_iload C0.1 C0.2.1 dX12_goesRound_135 (lv_at hl 0 rfl) ?_
            refine y_ci h (y_rV (As := [.int a4, .int a6, .int v_43]) (rest := []) C0 hZ h (c_X12_leg l G Z ad _ h.2 a4 a6 v_43 (o38_26 l4 u4) (o38_27 l4 u4) (o38_28 g_42.1 g_42.2 e_44) (o38_29 g_42.1 g_42.2 e_44) (J.pa hT hJ (Pa.tr (Pa.fr hF_11 (by decide)) (Pa.fr u_27 (by decide)))) (Laid.pa hLd (Pa.tr (Pa.fr hF_11 (by decide)) (Pa.fr u_27 (by decide))))) k_X12_leg q_1970 q_114 q_1968 kSM_0 rfl rfl rfl hl.1 rfl rfl (Nat.le_of_ble_eq_true rfl) dX12_goesRound_137 ⟨Nat.le_of_ble_eq_true rfl, Nat.le_of_ble_eq_true rfl⟩ ⟨Nat.le_of_ble_eq_true rfl, Nat.le_of_ble_eq_true rfl⟩) (fun r_48 H locs ws_45 h u_46 p_47 => ?_)
            refine lv_istore (lv' := [(9, .int r_48), (8, .int v_43), (7, .int x7_9), (0, .ref (ad 0)), (1, .int a1), (2, .int a2), (3, .int a3), (4, .int a4), (5, .int a5), (6, .int a6)]) C0.1 C0.2.1 dX12_goesRound_140 hl (by decide) rfl (fun ls hl => ?_)
            refine lv_iload C0.1 C0.2.1 dX12_goesRound_142 (lv_at hl 0 rfl) ?_
            refine y_c5 (n := 1000000000) C0 q_1887 (by decide) dX12_goesRound_144 (fun v_49 e_50 => ?_)
            refine y_icmp_ne (tgt := 153) C0 dX12_goesRound_147 (by decide) (fun c_51 => ?_) (fun c_51 => ?_)
            · -- 147
              refine lv_aload_n C0.1 C0.2.1 dX12_goesRound_153 rfl (lv_at hl 3 rfl) ?_
              refine ng_X12_taken C0 h kSM_0 q_1471 dX12_goesRound_154 ?_
              refine lv_iload_n C0.1 C0.2.1 dX12_goesRound_157 rfl (lv_at hl 5 rfl) ?_
              refine lv_iload C0.1 C0.2.1 dX12_goesRound_158 (lv_at hl 1 rfl) ?_
              refine y_iast C0 h kSM_18 rfl (by decide) (o38_30 l1 u1 l2 u2 al0 ah0 e_3 e_4 q_5 c_6 b_16 b_17 hn_15 e_20 e_21 q_22 c_23 e_37 e_39) (o38_31 l1 u1 l2 u2 al0 ah0 e_3 e_4 q_5 c_6 b_16 b_17 hn_15 e_20 e_21 q_22 c_23 e_37 e_39) (le_min v_43) (le_max v_43) dX12_goesRound_160 (fun H locs ws_52 h u_53 => ?_)
              have e_54 : aI ws_52 18 3 = v_43 := (congrArg (aI ws_52 18) (ix_c (c := 3) (o38_32 l1 u1 l2 u2 al0 ah0 e_3 e_4 q_5 c_6 b_16 b_17 hn_15 e_20 e_21 q_22 c_23 e_37 e_39))).symm.trans u_53.2.1
              refine lv_aload_n C0.1 C0.2.1 dX12_goesRound_161 rfl (lv_at hl 3 rfl) ?_
              refine lv_iload_n C0.1 C0.2.1 dX12_goesRound_162 rfl (lv_at hl 4 rfl) ?_
              refine lv_iload_n C0.1 C0.2.1 dX12_goesRound_163 rfl (lv_at hl 5 rfl) ?_
              refine y_c1 (n := 1) C0 (by decide) dX12_goesRound_164 (fun v_55 e_56 => ?_)
              refine y_add C0 (o38_33 l1 u1 l2 u2 al0 ah0 e_3 e_4 q_5 c_6 b_16 b_17 hn_15 e_20 e_21 q_22 c_23 e_37 e_39 e_56 (le_min a2) (le_max a2) (le_min v_55) (le_max v_55) (le_min a1) (le_max a1) (le_min ap0) (le_max ap0) (le_min v_1) (le_max v_1) (le_min x7_9) (le_max x7_9) (le_min v_18) (le_max v_18) (le_min v_36) (le_max v_36) (le_min v_38) (le_max v_38)) (o38_34 l1 u1 l2 u2 al0 ah0 e_3 e_4 q_5 c_6 b_16 b_17 hn_15 e_20 e_21 q_22 c_23 e_37 e_39 e_56 (le_min a2) (le_max a2) (le_min v_55) (le_max v_55) (le_min a1) (le_max a1) (le_min ap0) (le_max ap0) (le_min v_1) (le_max v_1) (le_min x7_9) (le_max x7_9) (le_min v_18) (le_max v_18) (le_min v_36) (le_max v_36) (le_min v_38) (le_max v_38)) dX12_goesRound_165 (fun v_57 e_58 => ?_)
              refine lv_iload_n C0.1 C0.2.1 dX12_goesRound_166 rfl (lv_at hl 6 rfl) ?_
              refine y_c1 (n := 1) C0 (by decide) dX12_goesRound_167 (fun v_59 e_60 => ?_)
              refine lv_iload C0.1 C0.2.1 dX12_goesRound_168 (lv_at hl 2 rfl) ?_
              refine y_ishlU C0 dX12_goesRound_170 (fun v_61 => ?_)
              refine y_iorU C0 dX12_goesRound_171 (fun v_62 => ?_)
              refine lv_aload_n C0.1 C0.2.1 dX12_goesRound_172 rfl (lv_at hl 3 rfl) ?_
              refine ng_X12_endsAt C0 h kSM_0 q_1466 dX12_goesRound_173 (fun v_63 e_64 e_65 e_66 => ?_)
              refine lv_iload C0.1 C0.2.1 dX12_goesRound_176 (lv_at hl 8 rfl) ?_
              refine lv_iload C0.1 C0.2.1 dX12_goesRound_178 (lv_at hl 0 rfl) ?_
              refine y_iaddU C0 dX12_goesRound_180 (fun v_67 => ?_)
              refine lv_iload C0.1 C0.2.1 dX12_goesRound_181 (lv_at hl 9 rfl) ?_
              refine lv_aload_n C0.1 C0.2.1 dX12_goesRound_183 rfl (lv_at hl 3 rfl) ?_
              refine ng_X12_legStreets C0 h kSM_0 q_1475 dX12_goesRound_184 (fun v_68 e_69 e_70 e_71 => ?_)
              refine y_iaddU C0 dX12_goesRound_187 (fun v_72 => ?_)
              refine y_cv h (y_rV (As := [.int a1, .int v_57, .int v_62, .int v_63, .int v_67, .int v_72]) (rest := []) C0 hZ h (c_X12_goesRound_4 l G Z ad _ h.2 a1 v_57 v_62 v_63 v_67 v_72 (o38_35 l1 u1 l2 u2 al0 ah0 e_3 e_4 q_5 c_6 b_16 b_17 hn_15 e_20 e_21 q_22 c_23 e_37 e_39 e_56 e_58) (o38_36 l1 u1 l2 u2 al0 ah0 e_3 e_4 q_5 c_6 b_16 b_17 hn_15 e_20 e_21 q_22 c_23 e_37 e_39 e_56 e_58) (o38_37 l1 u1 l2 u2 al0 ah0 e_3 e_4 q_5 c_6 b_16 b_17 hn_15 e_20 e_21 q_22 c_23 e_37 e_39 e_56 e_58) (o38_38 l1 u1 l2 u2 al0 ah0 e_3 e_4 q_5 c_6 b_16 b_17 hn_15 e_20 e_21 q_22 c_23 e_37 e_39 e_56 e_58) (o38_26 e_65 e_66) (o38_27 e_65 e_66) (fbd_lo (Eq.trans rfl (Eq.trans (Eq.trans (aI_of (u_53.1 24 (kd_ne (S := SM q0) kSM_24 kSM_18 (by decide)))) (Eq.trans (Fr.aI u_46 kSM_24 (by decide)) (Eq.trans (Fr.aI u_27 kSM_24 (by decide)) (Fr.aI hF_11 kSM_24 (by decide))))) ea0)) (o38_39 l1 u1 l2 u2 al0 ah0 e_3 e_4 q_5 c_6 b_16 b_17 hn_15 e_20 e_21 q_22 c_23 e_37 e_39 e_56 e_58)) (fbd_hi (Eq.trans rfl (Eq.trans (Eq.trans (aI_of (u_53.1 24 (kd_ne (S := SM q0) kSM_24 kSM_18 (by decide)))) (Eq.trans (Fr.aI u_46 kSM_24 (by decide)) (Eq.trans (Fr.aI u_27 kSM_24 (by decide)) (Fr.aI hF_11 kSM_24 (by decide))))) ea0)) (o38_40 l1 u1 l2 u2 al0 ah0 e_3 e_4 q_5 c_6 b_16 b_17 hn_15 e_20 e_21 q_22 c_23 e_37 e_39 e_56 e_58)) (NumOk.fr (M := [0, 5, 8, 9, 10, 11, 12, 13, 18, 19]) hN (Fr.tr (Fr.tr (Fr.tr hF_11 (Fr.mono u_27 (by decide))) (Fr.mono u_46 (by decide))) (Fr.up u_53.1 kSM_18 (by decide))) (by decide) (by decide)) (J.pa hT hJ (Pa.tr (Pa.tr (Pa.tr (Pa.fr hF_11 (by decide)) (Pa.fr u_27 (by decide))) (Pa.fr u_46 (by decide))) (Pa.ud u_53.1 (by decide)))) (Laid.pa hLd (Pa.tr (Pa.tr (Pa.tr (Pa.fr hF_11 (by decide)) (Pa.fr u_27 (by decide))) (Pa.fr u_46 (by decide))) (Pa.ud u_53.1 (by decide))))) k_X12_goesRound q_1966 q_113 q_1964 kSM_0 rfl rfl rfl hl.1 rfl rfl (Nat.le_of_ble_eq_true rfl) dX12_goesRound_188 ⟨Nat.le_of_ble_eq_true rfl, Nat.le_of_ble_eq_true rfl⟩ ⟨Nat.le_of_ble_eq_true rfl, Nat.le_of_ble_eq_true rfl⟩) (fun H locs ws_73 h u_74 p_75 => ?_)
              refine y_inc (kp := 2) (n := 1) (fun v_76 => [(7, .int v_76), (9, .int r_48), (8, .int v_43), (0, .ref (ad 0)), (1, .int a1), (2, .int a2), (3, .int a3), (4, .int a4), (5, .int a5), (6, .int a6)]) C0 hl rfl (by decide) (by decide) (fun _ => rfl) (o38_41 l1 u1 l2 u2 al0 ah0 e_3 e_4 q_5 c_6 b_16 b_17 hn_15 e_20 e_21 q_22 c_23 e_37 e_39 e_56 e_58 (le_min x7_9) (le_max x7_9) (le_min a1) (le_max a1) (le_min a2) (le_max a2) (le_min ap0) (le_max ap0) (le_min v_1) (le_max v_1) (le_min v_18) (le_max v_18) (le_min v_36) (le_max v_36) (le_min v_38) (le_max v_38) (le_min v_55) (le_max v_55) (le_min v_57) (le_max v_57)) (o38_42 l1 u1 l2 u2 al0 ah0 e_3 e_4 q_5 c_6 b_16 b_17 hn_15 e_20 e_21 q_22 c_23 e_37 e_39 e_56 e_58 (le_min x7_9) (le_max x7_9) (le_min a1) (le_max a1) (le_min a2) (le_max a2) (le_min ap0) (le_max ap0) (le_min v_1) (le_max v_1) (le_min v_18) (le_max v_18) (le_min v_36) (le_max v_36) (le_min v_38) (le_max v_38) (le_min v_55) (le_max v_55) (le_min v_57) (le_max v_57)) dX12_goesRound_191 (fun v_76 ls e_77 hl => ?_)
              refine lv_goto (tgt := 91) C0.1 C0.2.1 dX12_goesRound_194 (by decide) ?_
              exact ih_13 v_76 _ _ _ _ (o38_43 l1 u1 l2 u2 al0 ah0 e_3 e_4 q_5 c_6 b_16 b_17 hn_15 e_20 e_21 q_22 c_23 e_37 e_39 e_56 e_58 e_77) (o38_44 l1 u1 l2 u2 al0 ah0 e_3 e_4 q_5 c_6 b_16 b_17 hn_15 e_20 e_21 q_22 c_23 e_37 e_39 e_56 e_58 e_77) (o38_45 l1 u1 l2 u2 al0 ah0 e_3 e_4 q_5 c_6 b_16 b_17 hn_15 e_20 e_21 q_22 c_23 e_37 e_39 e_56 e_58 e_77) h (Fr.tr (Fr.tr (Fr.tr (Fr.tr hF_11 (Fr.mono u_27 (by decide))) (Fr.mono u_46 (by decide))) (Fr.up u_53.1 kSM_18 (by decide))) (Fr.mono u_74 (by decide))) (lv_sub hl [0, 3, 4, 5, 6, 7, 8, 9] rfl)
            · -- 147
              refine lv_goto (tgt := 191) C0.1 C0.2.1 dX12_goesRound_150 (by decide) ?_
              refine y_inc (kp := 2) (n := 1) (fun v_78 => [(7, .int v_78), (9, .int r_48), (8, .int v_43), (0, .ref (ad 0)), (1, .int a1), (2, .int a2), (3, .int a3), (4, .int a4), (5, .int a5), (6, .int a6)]) C0 hl rfl (by decide) (by decide) (fun _ => rfl) (o38_46 l1 u1 l2 u2 al0 ah0 e_3 e_4 q_5 c_6 b_16 b_17 hn_15 e_20 e_21 q_22 c_23 e_37 e_39 (le_min x7_9) (le_max x7_9) (le_min a1) (le_max a1) (le_min a2) (le_max a2) (le_min ap0) (le_max ap0) (le_min v_1) (le_max v_1) (le_min v_18) (le_max v_18) (le_min v_36) (le_max v_36) (le_min v_38) (le_max v_38)) (o38_47 l1 u1 l2 u2 al0 ah0 e_3 e_4 q_5 c_6 b_16 b_17 hn_15 e_20 e_21 q_22 c_23 e_37 e_39 (le_min x7_9) (le_max x7_9) (le_min a1) (le_max a1) (le_min a2) (le_max a2) (le_min ap0) (le_max ap0) (le_min v_1) (le_max v_1) (le_min v_18) (le_max v_18) (le_min v_36) (le_max v_36) (le_min v_38) (le_max v_38)) dX12_goesRound_191 (fun v_78 ls e_79 hl => ?_)
              refine lv_goto (tgt := 91) C0.1 C0.2.1 dX12_goesRound_194 (by decide) ?_
              exact ih_13 v_78 _ _ _ _ (o38_48 l1 u1 l2 u2 al0 ah0 e_3 e_4 q_5 c_6 b_16 b_17 hn_15 e_20 e_21 q_22 c_23 e_37 e_39 e_79) (o38_49 l1 u1 l2 u2 al0 ah0 e_3 e_4 q_5 c_6 b_16 b_17 hn_15 e_20 e_21 q_22 c_23 e_37 e_39 e_79) (o38_50 l1 u1 l2 u2 al0 ah0 e_3 e_4 q_5 c_6 b_16 b_17 hn_15 e_20 e_21 q_22 c_23 e_37 e_39 e_79) h (Fr.tr (Fr.tr hF_11 (Fr.mono u_27 (by decide))) (Fr.mono u_46 (by decide))) (lv_sub hl [0, 3, 4, 5, 6, 7, 8, 9] rfl)
          · -- 109
            refine lv_goto (tgt := 191) C0.1 C0.2.1 dX12_goesRound_112 (by decide) ?_
            refine y_inc (kp := 0) (n := 1) (fun v_80 => [(7, .int v_80), (0, .ref (ad 0)), (1, .int a1), (2, .int a2), (3, .int a3), (4, .int a4), (5, .int a5), (6, .int a6)]) C0 hl rfl (by decide) (by decide) (fun _ => rfl) (o38_51 l2 u2 al0 ah0 e_3 e_4 q_5 c_6 b_16 b_17 hn_15 e_20 e_21 q_22 c_23 (le_min x7_9) (le_max x7_9) (le_min a2) (le_max a2) (le_min ap0) (le_max ap0) (le_min v_1) (le_max v_1) (le_min v_18) (le_max v_18)) (o38_52 l2 u2 al0 ah0 e_3 e_4 q_5 c_6 b_16 b_17 hn_15 e_20 e_21 q_22 c_23 (le_min x7_9) (le_max x7_9) (le_min a2) (le_max a2) (le_min ap0) (le_max ap0) (le_min v_1) (le_max v_1) (le_min v_18) (le_max v_18)) dX12_goesRound_191 (fun v_80 ls e_81 hl => ?_)
            refine lv_goto (tgt := 91) C0.1 C0.2.1 dX12_goesRound_194 (by decide) ?_
            exact ih_13 v_80 _ _ _ _ (o38_53 l2 u2 al0 ah0 e_3 e_4 q_5 c_6 b_16 b_17 hn_15 e_20 e_21 q_22 c_23 e_81) (o38_54 l2 u2 al0 ah0 e_3 e_4 q_5 c_6 b_16 b_17 hn_15 e_20 e_21 q_22 c_23 e_81) (o38_55 l2 u2 al0 ah0 e_3 e_4 q_5 c_6 b_16 b_17 hn_15 e_20 e_21 q_22 c_23 e_81) h (Fr.tr hF_11 (Fr.mono u_27 (by decide))) (lv_sub hl [0, 1, 2, 3, 4, 5, 6, 7] rfl)
    exact lp_12 ((4 - v_7.toInt + 1).toNat) v_7 _ _ _ _ (o38_12 e_8) (o38_13 e_8) (o38_14 e_8) h Fr.rf (lv_sub hl [0, 1, 2, 3, 4, 5, 6, 7] rfl)
  · -- 7
    refine lv_aload_n C0.1 C0.2.1 dX12_goesRound_10 rfl (lv_at hl 0 rfl) ?_
    refine ng_X12_bestLefts C0 h kSM_0 q_1473 dX12_goesRound_11 (fun v_82 e_83 e_84 e_85 => ?_)
    refine y_c1 (n := (-1)) C0 (by decide) dX12_goesRound_14 (fun v_86 e_87 => ?_)
    refine y_icmp_eq (tgt := 46) C0 dX12_goesRound_15 (by decide) (fun c_88 => ?_) (fun c_88 => ?_)
    · -- 15
      refine lv_aload_n C0.1 C0.2.1 dX12_goesRound_46 rfl (lv_at hl 0 rfl) ?_
      refine lv_iload C0.1 C0.2.1 dX12_goesRound_47 (lv_at hl 5 rfl) ?_
      refine np_X12_bestLefts C0 h kSM_0 q_1473 (le_min a5) (le_max a5) dX12_goesRound_49 (fun H locs ws_89 h u_90 => ?_)
      refine lv_aload_n C0.1 C0.2.1 dX12_goesRound_52 rfl (lv_at hl 0 rfl) ?_
      refine lv_iload C0.1 C0.2.1 dX12_goesRound_53 (lv_at hl 6 rfl) ?_
      refine np_X12_bestStreets C0 h kSM_0 q_1474 (le_min a6) (le_max a6) dX12_goesRound_55 (fun H locs ws_91 h u_92 => ?_)
      refine y_c1 (n := 0) C0 (by decide) dX12_goesRound_58 (fun v_93 e_94 => ?_)
      refine lv_istore (lv' := [(7, .int v_93), (0, .ref (ad 0)), (1, .int a1), (2, .int a2), (3, .int a3), (4, .int a4), (5, .int a5), (6, .int a6)]) C0.1 C0.2.1 dX12_goesRound_59 hl (by decide) rfl (fun ls hl => ?_)
      have lp_98 : ∀ (n_100 : Nat) (x7_95 : Int32) (H : Heap) (locs : List Loc) (ls : Array Slot) (ws_96 : va_W), 3 - x7_95.toInt < (n_100 : Int) → 0 ≤ x7_95.toInt → x7_95.toInt ≤ 3 → Wt G (SM tt) ad A s H locs ws_96 → Fr (SM tt) [19] ws_91 ws_96 → lv_has ls 10 [(7, .int x7_95), (0, .ref (ad 0)), (1, .int a1), (2, .int a2), (3, .int a3), (4, .int a4), (5, .int a5), (6, .int a6)] → W p l e (rmd 9 0 0) s m args below meth c H locs 0 0 Q (F0 m 61 ls []) := by
        intro n_100
        induction n_100 with
        | zero => intro x7_95 H locs ls ws_96 hn_101 b_102 b_103 h hF_97 hl; exact ((o38_56 b_102 b_103 hn_101)).elim
        | succ n_100 ih_99 =>
          intro x7_95 H locs ls ws_96 hn_101 b_102 b_103 h hF_97 hl
          refine lv_iload C0.1 C0.2.1 dX12_goesRound_61 (lv_at hl 0 rfl) ?_
          refine lv_iload_n C0.1 C0.2.1 dX12_goesRound_63 rfl (lv_at hl 3 rfl) ?_
          refine y_icmp_ge (tgt := 87) C0 dX12_goesRound_64 (by decide) (fun c_104 => ?_) (fun c_104 => ?_)
          · -- 64
            rw [hQ]
            exact y_vret C0 h (Fr.tr (Fr.tr (Fr.up u_90.1 kSM_0 (by decide)) (Fr.up u_92.1 kSM_0 (by decide))) (Fr.mono hF_97 (by decide))) trivial dX12_goesRound_87
          · -- 64
            refine lv_aload_n C0.1 C0.2.1 dX12_goesRound_67 rfl (lv_at hl 1 rfl) ?_
            refine ng_X12_bestRow C0 h kSM_0 q_1472 dX12_goesRound_68 ?_
            refine lv_iload C0.1 C0.2.1 dX12_goesRound_71 (lv_at hl 0 rfl) ?_
            refine lv_aload_n C0.1 C0.2.1 dX12_goesRound_73 rfl (lv_at hl 1 rfl) ?_
            refine ng_X12_taken C0 h kSM_0 q_1471 dX12_goesRound_74 ?_
            refine lv_iload C0.1 C0.2.1 dX12_goesRound_77 (lv_at hl 0 rfl) ?_
            refine y_iald C0 h kSM_18 rfl (by decide) (o38_57 l2 u2 al0 ah0 e_3 e_4 q_5 c_6 b_102 b_103 hn_101 c_104) (o38_58 l2 u2 al0 ah0 e_3 e_4 q_5 c_6 b_102 b_103 hn_101 c_104) dX12_goesRound_79 (fun v_105 e_106 e_107 e_108 => ?_)
            refine y_iast C0 h kSM_19 rfl (by decide) (o38_57 l2 u2 al0 ah0 e_3 e_4 q_5 c_6 b_102 b_103 hn_101 c_104) (o38_58 l2 u2 al0 ah0 e_3 e_4 q_5 c_6 b_102 b_103 hn_101 c_104) (le_min v_105) (le_max v_105) dX12_goesRound_80 (fun H locs ws_109 h u_110 => ?_)
            refine y_inc (kp := 0) (n := 1) (fun v_111 => [(7, .int v_111), (0, .ref (ad 0)), (1, .int a1), (2, .int a2), (3, .int a3), (4, .int a4), (5, .int a5), (6, .int a6)]) C0 hl rfl (by decide) (by decide) (fun _ => rfl) (o38_59 l2 u2 al0 ah0 e_3 e_4 q_5 c_6 b_102 b_103 hn_101 c_104 (le_min x7_95) (le_max x7_95) (le_min a2) (le_max a2) (le_min ap0) (le_max ap0) (le_min v_1) (le_max v_1)) (o38_60 l2 u2 al0 ah0 e_3 e_4 q_5 c_6 b_102 b_103 hn_101 c_104 (le_min x7_95) (le_max x7_95) (le_min a2) (le_max a2) (le_min ap0) (le_max ap0) (le_min v_1) (le_max v_1)) dX12_goesRound_81 (fun v_111 ls e_112 hl => ?_)
            refine lv_goto (tgt := 61) C0.1 C0.2.1 dX12_goesRound_84 (by decide) ?_
            exact ih_99 v_111 _ _ _ _ (o38_61 l2 u2 al0 ah0 e_3 e_4 q_5 c_6 b_102 b_103 hn_101 c_104 e_112) (o38_62 l2 u2 al0 ah0 e_3 e_4 q_5 c_6 b_102 b_103 hn_101 c_104 e_112) (o38_63 l2 u2 al0 ah0 e_3 e_4 q_5 c_6 b_102 b_103 hn_101 c_104 e_112) h (Fr.tr hF_97 (Fr.up u_110.1 kSM_19 (by decide))) (lv_sub hl [0, 1, 2, 3, 4, 5, 6, 7] rfl)
      exact lp_98 ((3 - v_93.toInt + 1).toNat) v_93 _ _ _ _ (o38_64 e_94) (o38_13 e_94) (o38_65 e_94) h Fr.rf (lv_sub hl [0, 1, 2, 3, 4, 5, 6, 7] rfl)
    · -- 15
      refine lv_iload C0.1 C0.2.1 dX12_goesRound_18 (lv_at hl 5 rfl) ?_
      refine lv_aload_n C0.1 C0.2.1 dX12_goesRound_20 rfl (lv_at hl 0 rfl) ?_
      refine ng_X12_bestLefts C0 h kSM_0 q_1473 dX12_goesRound_21 (fun v_113 e_114 e_115 e_116 => ?_)
      have q_117 : v_113.toInt = v_82.toInt := congrArg Int32.toInt (e_114.symm.trans (Eq.trans rfl e_83))
      refine y_icmp_gt (tgt := 45) C0 dX12_goesRound_24 (by decide) (fun c_118 => ?_) (fun c_118 => ?_)
      · -- 24
        rw [hQ]
        exact y_vret C0 h Fr.rf trivial dX12_goesRound_45
      · -- 24
        refine lv_iload C0.1 C0.2.1 dX12_goesRound_27 (lv_at hl 5 rfl) ?_
        refine lv_aload_n C0.1 C0.2.1 dX12_goesRound_29 rfl (lv_at hl 0 rfl) ?_
        refine ng_X12_bestLefts C0 h kSM_0 q_1473 dX12_goesRound_30 (fun v_119 e_120 e_121 e_122 => ?_)
        have q_123 : v_119.toInt = v_82.toInt := congrArg Int32.toInt (e_120.symm.trans (Eq.trans rfl e_83))
        refine y_icmp_ne (tgt := 46) C0 dX12_goesRound_33 (by decide) (fun c_124 => ?_) (fun c_124 => ?_)
        · -- 33
          refine lv_aload_n C0.1 C0.2.1 dX12_goesRound_46 rfl (lv_at hl 0 rfl) ?_
          refine lv_iload C0.1 C0.2.1 dX12_goesRound_47 (lv_at hl 5 rfl) ?_
          refine np_X12_bestLefts C0 h kSM_0 q_1473 (le_min a5) (le_max a5) dX12_goesRound_49 (fun H locs ws_125 h u_126 => ?_)
          refine lv_aload_n C0.1 C0.2.1 dX12_goesRound_52 rfl (lv_at hl 0 rfl) ?_
          refine lv_iload C0.1 C0.2.1 dX12_goesRound_53 (lv_at hl 6 rfl) ?_
          refine np_X12_bestStreets C0 h kSM_0 q_1474 (le_min a6) (le_max a6) dX12_goesRound_55 (fun H locs ws_127 h u_128 => ?_)
          refine y_c1 (n := 0) C0 (by decide) dX12_goesRound_58 (fun v_129 e_130 => ?_)
          refine lv_istore (lv' := [(7, .int v_129), (0, .ref (ad 0)), (1, .int a1), (2, .int a2), (3, .int a3), (4, .int a4), (5, .int a5), (6, .int a6)]) C0.1 C0.2.1 dX12_goesRound_59 hl (by decide) rfl (fun ls hl => ?_)
          have lp_134 : ∀ (n_136 : Nat) (x7_131 : Int32) (H : Heap) (locs : List Loc) (ls : Array Slot) (ws_132 : va_W), 3 - x7_131.toInt < (n_136 : Int) → 0 ≤ x7_131.toInt → x7_131.toInt ≤ 3 → Wt G (SM tt) ad A s H locs ws_132 → Fr (SM tt) [19] ws_127 ws_132 → lv_has ls 10 [(7, .int x7_131), (0, .ref (ad 0)), (1, .int a1), (2, .int a2), (3, .int a3), (4, .int a4), (5, .int a5), (6, .int a6)] → W p l e (rmd 9 0 0) s m args below meth c H locs 0 0 Q (F0 m 61 ls []) := by
            intro n_136
            induction n_136 with
            | zero => intro x7_131 H locs ls ws_132 hn_137 b_138 b_139 h hF_133 hl; exact ((o38_56 b_138 b_139 hn_137)).elim
            | succ n_136 ih_135 =>
              intro x7_131 H locs ls ws_132 hn_137 b_138 b_139 h hF_133 hl
              refine lv_iload C0.1 C0.2.1 dX12_goesRound_61 (lv_at hl 0 rfl) ?_
              refine lv_iload_n C0.1 C0.2.1 dX12_goesRound_63 rfl (lv_at hl 3 rfl) ?_
              refine y_icmp_ge (tgt := 87) C0 dX12_goesRound_64 (by decide) (fun c_140 => ?_) (fun c_140 => ?_)
              · -- 64
                rw [hQ]
                exact y_vret C0 h (Fr.tr (Fr.tr (Fr.up u_126.1 kSM_0 (by decide)) (Fr.up u_128.1 kSM_0 (by decide))) (Fr.mono hF_133 (by decide))) trivial dX12_goesRound_87
              · -- 64
                refine lv_aload_n C0.1 C0.2.1 dX12_goesRound_67 rfl (lv_at hl 1 rfl) ?_
                refine ng_X12_bestRow C0 h kSM_0 q_1472 dX12_goesRound_68 ?_
                refine lv_iload C0.1 C0.2.1 dX12_goesRound_71 (lv_at hl 0 rfl) ?_
                refine lv_aload_n C0.1 C0.2.1 dX12_goesRound_73 rfl (lv_at hl 1 rfl) ?_
                refine ng_X12_taken C0 h kSM_0 q_1471 dX12_goesRound_74 ?_
                refine lv_iload C0.1 C0.2.1 dX12_goesRound_77 (lv_at hl 0 rfl) ?_
                refine y_iald C0 h kSM_18 rfl (by decide) (o38_57 l2 u2 al0 ah0 e_3 e_4 q_5 c_6 b_138 b_139 hn_137 c_140) (o38_58 l2 u2 al0 ah0 e_3 e_4 q_5 c_6 b_138 b_139 hn_137 c_140) dX12_goesRound_79 (fun v_141 e_142 e_143 e_144 => ?_)
                refine y_iast C0 h kSM_19 rfl (by decide) (o38_57 l2 u2 al0 ah0 e_3 e_4 q_5 c_6 b_138 b_139 hn_137 c_140) (o38_58 l2 u2 al0 ah0 e_3 e_4 q_5 c_6 b_138 b_139 hn_137 c_140) (le_min v_141) (le_max v_141) dX12_goesRound_80 (fun H locs ws_145 h u_146 => ?_)
                refine y_inc (kp := 0) (n := 1) (fun v_147 => [(7, .int v_147), (0, .ref (ad 0)), (1, .int a1), (2, .int a2), (3, .int a3), (4, .int a4), (5, .int a5), (6, .int a6)]) C0 hl rfl (by decide) (by decide) (fun _ => rfl) (o38_59 l2 u2 al0 ah0 e_3 e_4 q_5 c_6 b_138 b_139 hn_137 c_140 (le_min x7_131) (le_max x7_131) (le_min a2) (le_max a2) (le_min ap0) (le_max ap0) (le_min v_1) (le_max v_1)) (o38_60 l2 u2 al0 ah0 e_3 e_4 q_5 c_6 b_138 b_139 hn_137 c_140 (le_min x7_131) (le_max x7_131) (le_min a2) (le_max a2) (le_min ap0) (le_max ap0) (le_min v_1) (le_max v_1)) dX12_goesRound_81 (fun v_147 ls e_148 hl => ?_)
                refine lv_goto (tgt := 61) C0.1 C0.2.1 dX12_goesRound_84 (by decide) ?_
                exact ih_135 v_147 _ _ _ _ (o38_61 l2 u2 al0 ah0 e_3 e_4 q_5 c_6 b_138 b_139 hn_137 c_140 e_148) (o38_62 l2 u2 al0 ah0 e_3 e_4 q_5 c_6 b_138 b_139 hn_137 c_140 e_148) (o38_63 l2 u2 al0 ah0 e_3 e_4 q_5 c_6 b_138 b_139 hn_137 c_140 e_148) h (Fr.tr hF_133 (Fr.up u_146.1 kSM_19 (by decide))) (lv_sub hl [0, 1, 2, 3, 4, 5, 6, 7] rfl)
          exact lp_134 ((3 - v_129.toInt + 1).toNat) v_129 _ _ _ _ (o38_64 e_130) (o38_13 e_130) (o38_65 e_130) h Fr.rf (lv_sub hl [0, 1, 2, 3, 4, 5, 6, 7] rfl)
        · -- 33
          refine lv_iload C0.1 C0.2.1 dX12_goesRound_36 (lv_at hl 6 rfl) ?_
          refine lv_aload_n C0.1 C0.2.1 dX12_goesRound_38 rfl (lv_at hl 0 rfl) ?_
          refine ng_X12_bestStreets C0 h kSM_0 q_1474 dX12_goesRound_39 (fun v_149 e_150 e_151 e_152 => ?_)
          refine y_icmp_lt (tgt := 46) C0 dX12_goesRound_42 (by decide) (fun c_153 => ?_) (fun c_153 => ?_)
          · -- 42
            refine lv_aload_n C0.1 C0.2.1 dX12_goesRound_46 rfl (lv_at hl 0 rfl) ?_
            refine lv_iload C0.1 C0.2.1 dX12_goesRound_47 (lv_at hl 5 rfl) ?_
            refine np_X12_bestLefts C0 h kSM_0 q_1473 (le_min a5) (le_max a5) dX12_goesRound_49 (fun H locs ws_154 h u_155 => ?_)
            refine lv_aload_n C0.1 C0.2.1 dX12_goesRound_52 rfl (lv_at hl 0 rfl) ?_
            refine lv_iload C0.1 C0.2.1 dX12_goesRound_53 (lv_at hl 6 rfl) ?_
            refine np_X12_bestStreets C0 h kSM_0 q_1474 (le_min a6) (le_max a6) dX12_goesRound_55 (fun H locs ws_156 h u_157 => ?_)
            refine y_c1 (n := 0) C0 (by decide) dX12_goesRound_58 (fun v_158 e_159 => ?_)
            refine lv_istore (lv' := [(7, .int v_158), (0, .ref (ad 0)), (1, .int a1), (2, .int a2), (3, .int a3), (4, .int a4), (5, .int a5), (6, .int a6)]) C0.1 C0.2.1 dX12_goesRound_59 hl (by decide) rfl (fun ls hl => ?_)
            have lp_163 : ∀ (n_165 : Nat) (x7_160 : Int32) (H : Heap) (locs : List Loc) (ls : Array Slot) (ws_161 : va_W), 3 - x7_160.toInt < (n_165 : Int) → 0 ≤ x7_160.toInt → x7_160.toInt ≤ 3 → Wt G (SM tt) ad A s H locs ws_161 → Fr (SM tt) [19] ws_156 ws_161 → lv_has ls 10 [(7, .int x7_160), (0, .ref (ad 0)), (1, .int a1), (2, .int a2), (3, .int a3), (4, .int a4), (5, .int a5), (6, .int a6)] → W p l e (rmd 9 0 0) s m args below meth c H locs 0 0 Q (F0 m 61 ls []) := by
              intro n_165
              induction n_165 with
              | zero => intro x7_160 H locs ls ws_161 hn_166 b_167 b_168 h hF_162 hl; exact ((o38_56 b_167 b_168 hn_166)).elim
              | succ n_165 ih_164 =>
                intro x7_160 H locs ls ws_161 hn_166 b_167 b_168 h hF_162 hl
                refine lv_iload C0.1 C0.2.1 dX12_goesRound_61 (lv_at hl 0 rfl) ?_
                refine lv_iload_n C0.1 C0.2.1 dX12_goesRound_63 rfl (lv_at hl 3 rfl) ?_
                refine y_icmp_ge (tgt := 87) C0 dX12_goesRound_64 (by decide) (fun c_169 => ?_) (fun c_169 => ?_)
                · -- 64
                  rw [hQ]
                  exact y_vret C0 h (Fr.tr (Fr.tr (Fr.up u_155.1 kSM_0 (by decide)) (Fr.up u_157.1 kSM_0 (by decide))) (Fr.mono hF_162 (by decide))) trivial dX12_goesRound_87
                · -- 64
                  refine lv_aload_n C0.1 C0.2.1 dX12_goesRound_67 rfl (lv_at hl 1 rfl) ?_
                  refine ng_X12_bestRow C0 h kSM_0 q_1472 dX12_goesRound_68 ?_
                  refine lv_iload C0.1 C0.2.1 dX12_goesRound_71 (lv_at hl 0 rfl) ?_
                  refine lv_aload_n C0.1 C0.2.1 dX12_goesRound_73 rfl (lv_at hl 1 rfl) ?_
                  refine ng_X12_taken C0 h kSM_0 q_1471 dX12_goesRound_74 ?_
                  refine lv_iload C0.1 C0.2.1 dX12_goesRound_77 (lv_at hl 0 rfl) ?_
                  refine y_iald C0 h kSM_18 rfl (by decide) (o38_57 l2 u2 al0 ah0 e_3 e_4 q_5 c_6 b_167 b_168 hn_166 c_169) (o38_58 l2 u2 al0 ah0 e_3 e_4 q_5 c_6 b_167 b_168 hn_166 c_169) dX12_goesRound_79 (fun v_170 e_171 e_172 e_173 => ?_)
                  refine y_iast C0 h kSM_19 rfl (by decide) (o38_57 l2 u2 al0 ah0 e_3 e_4 q_5 c_6 b_167 b_168 hn_166 c_169) (o38_58 l2 u2 al0 ah0 e_3 e_4 q_5 c_6 b_167 b_168 hn_166 c_169) (le_min v_170) (le_max v_170) dX12_goesRound_80 (fun H locs ws_174 h u_175 => ?_)
                  refine y_inc (kp := 0) (n := 1) (fun v_176 => [(7, .int v_176), (0, .ref (ad 0)), (1, .int a1), (2, .int a2), (3, .int a3), (4, .int a4), (5, .int a5), (6, .int a6)]) C0 hl rfl (by decide) (by decide) (fun _ => rfl) (o38_59 l2 u2 al0 ah0 e_3 e_4 q_5 c_6 b_167 b_168 hn_166 c_169 (le_min x7_160) (le_max x7_160) (le_min a2) (le_max a2) (le_min ap0) (le_max ap0) (le_min v_1) (le_max v_1)) (o38_60 l2 u2 al0 ah0 e_3 e_4 q_5 c_6 b_167 b_168 hn_166 c_169 (le_min x7_160) (le_max x7_160) (le_min a2) (le_max a2) (le_min ap0) (le_max ap0) (le_min v_1) (le_max v_1)) dX12_goesRound_81 (fun v_176 ls e_177 hl => ?_)
                  refine lv_goto (tgt := 61) C0.1 C0.2.1 dX12_goesRound_84 (by decide) ?_
                  exact ih_164 v_176 _ _ _ _ (o38_61 l2 u2 al0 ah0 e_3 e_4 q_5 c_6 b_167 b_168 hn_166 c_169 e_177) (o38_62 l2 u2 al0 ah0 e_3 e_4 q_5 c_6 b_167 b_168 hn_166 c_169 e_177) (o38_63 l2 u2 al0 ah0 e_3 e_4 q_5 c_6 b_167 b_168 hn_166 c_169 e_177) h (Fr.tr hF_162 (Fr.up u_175.1 kSM_19 (by decide))) (lv_sub hl [0, 1, 2, 3, 4, 5, 6, 7] rfl)
            exact lp_163 ((3 - v_158.toInt + 1).toNat) v_158 _ _ _ _ (o38_64 e_159) (o38_13 e_159) (o38_65 e_159) h Fr.rf (lv_sub hl [0, 1, 2, 3, 4, 5, 6, 7] rfl)
          · -- 42
            rw [hQ]
            exact y_vret C0 h Fr.rf trivial dX12_goesRound_45
set_option maxHeartbeats 4000000 in
set_option maxRecDepth 100000 in
theorem c_X12_goesRound_2 (l : Launch) (G : GG) (Z : RZ) (ad : Nat → Nat) (ws0 : va_W) (hT : Ty G (SM tt) ad ws0) (a1 : Int32) (a2 : Int32) (a3 : Int32) (a4 : Int32) (a5 : Int32) (a6 : Int32) (l1 : 0 ≤ a1.toInt) (u1 : a1.toInt ≤ 3) (l2 : 2 ≤ a2.toInt) (u2 : a2.toInt ≤ 2) (l4 : 0 ≤ a4.toInt) (u4 : a4.toInt ≤ 99) (al0 : 2 ≤ (aI ws0 24 a1.toInt.toNat).toInt) (ah0 : (aI ws0 24 a1.toInt.toNat).toInt ≤ 4) (hN : NumOk ws0 a1) (hJ : J ws0) (hLd : Laid ws0) : Mq l yX12_goesRound cX12_goesRound 10 none 10 G Z [.ref (ad 0), .int a1, .int a2, .int a3, .int a4, .int a5, .int a6] ws0 (PV G (SM tt) ad [0, 5, 8, 9, 10, 11, 12, 13, 18, 19] ws0 (fun u => True)) := by
  refine Mq.start (by decide) (Nat.le_of_ble_eq_true rfl) ?_
  intro p e s m below meth c A ls C0 hZ h hl
  have hl : lv_has ls 10 [(0, .ref (ad 0)), (1, .int a1), (2, .int a2), (3, .int a3), (4, .int a4), (5, .int a5), (6, .int a6)] := hl
  have h : Wt G (SM tt) ad A s s.heap [] ws0 := ⟨h, hT⟩
  obtain ⟨args, hargs⟩ : ∃ z, z = ([.ref (ad 0), .int a1, .int a2, .int a3, .int a4, .int a5, .int a6] : List Value).toArray := ⟨_, rfl⟩
  rw [← hargs] at C0 ⊢
  have C0 : Cx p s m args meth c RX12 cX12_goesRound 10 none := C0
  obtain ⟨Q, hQ⟩ : ∃ z, z = MQ below ((PV G (SM tt) ad [0, 5, 8, 9, 10, 11, 12, 13, 18, 19] ws0 (fun u => True)) A) args s 0 0 A := ⟨_, rfl⟩
  rw [← hQ]
  obtain ⟨ap0, ea0⟩ : ∃ v, aI ws0 24 a1.toInt.toNat = v := ⟨_, rfl⟩
  rw [ea0] at al0 ah0
  refine lv_iload_n C0.1 C0.2.1 dX12_goesRound_0 rfl (lv_at hl 2 rfl) ?_
  refine lv_aload_n C0.1 C0.2.1 dX12_goesRound_1 rfl (lv_at hl 0 rfl) ?_
  refine ng_X12_rowMany C0 h kSM_0 q_1480 dX12_goesRound_2 ?_
  refine lv_iload_n C0.1 C0.2.1 dX12_goesRound_5 rfl (lv_at hl 1 rfl) ?_
  refine y_iald C0 h kSM_24 rfl (by decide) (o38_1 l1 u1) (o38_2 l1 u1) dX12_goesRound_6 (fun v_1 e_2 e_3 e_4 => ?_)
  have q_5 : v_1.toInt = ap0.toInt := congrArg Int32.toInt (e_2.symm.trans (Eq.trans rfl (Eq.trans rfl ea0)))
  refine y_icmp_ne (tgt := 88) C0 dX12_goesRound_7 (by decide) (fun c_6 => ?_) (fun c_6 => ?_)
  · -- 7
    refine y_c1 (n := 0) C0 (by decide) dX12_goesRound_88 (fun v_7 e_8 => ?_)
    refine lv_istore (lv' := [(7, .int v_7), (0, .ref (ad 0)), (1, .int a1), (2, .int a2), (3, .int a3), (4, .int a4), (5, .int a5), (6, .int a6)]) C0.1 C0.2.1 dX12_goesRound_89 hl (by decide) rfl (fun ls hl => ?_)
    have lp_12 : ∀ (n_14 : Nat) (x7_9 : Int32) (H : Heap) (locs : List Loc) (ls : Array Slot) (ws_10 : va_W), 4 - x7_9.toInt < (n_14 : Int) → 0 ≤ x7_9.toInt → x7_9.toInt ≤ 4 → Wt G (SM tt) ad A s H locs ws_10 → Fr (SM tt) [0, 5, 8, 9, 10, 11, 12, 13, 18, 19] ws0 ws_10 → lv_has ls 10 [(7, .int x7_9), (0, .ref (ad 0)), (1, .int a1), (2, .int a2), (3, .int a3), (4, .int a4), (5, .int a5), (6, .int a6)] → W p l e (rmd 10 0 0) s m args below meth c H locs 0 0 Q (F0 m 91 ls []) := by
      intro n_14
      induction n_14 with
      | zero => intro x7_9 H locs ls ws_10 hn_15 b_16 b_17 h hF_11 hl; exact ((o38_4 b_16 b_17 hn_15)).elim
      | succ n_14 ih_13 =>
        intro x7_9 H locs ls ws_10 hn_15 b_16 b_17 h hF_11 hl
        refine lv_iload C0.1 C0.2.1 dX12_goesRound_91 (lv_at hl 0 rfl) ?_
        refine lv_aload_n C0.1 C0.2.1 dX12_goesRound_93 rfl (lv_at hl 1 rfl) ?_
        refine ng_X12_rowMany C0 h kSM_0 q_1480 dX12_goesRound_94 ?_
        refine lv_iload_n C0.1 C0.2.1 dX12_goesRound_97 rfl (lv_at hl 2 rfl) ?_
        refine y_iald C0 h kSM_24 rfl (by decide) (o38_1 l1 u1) (o38_2 l1 u1) dX12_goesRound_98 (fun v_18 e_19 e_20 e_21 => ?_)
        have q_22 : v_18.toInt = ap0.toInt := congrArg Int32.toInt (e_19.symm.trans (Eq.trans rfl (Eq.trans (Fr.aI hF_11 kSM_24 (by decide)) ea0)))
        refine y_icmp_ge (tgt := 197) C0 dX12_goesRound_99 (by decide) (fun c_23 => ?_) (fun c_23 => ?_)
        · -- 99
          rw [hQ]
          exact y_vret C0 h hF_11 trivial dX12_goesRound_197
        · -- 99
          refine lv_iload_n C0.1 C0.2.1 dX12_goesRound_102 rfl (lv_at hl 4 rfl) ?_
          refine y_i2l C0 dX12_goesRound_103 (fun w_24 e_25 => ?_)
          refine lv_iload C0.1 C0.2.1 dX12_goesRound_104 (lv_at hl 0 rfl) ?_
          refine y_ci h (y_rS (As := [.long w_24, .int x7_9]) (rest := []) C0 hZ h (c_X12_isIn l G Z ad _ h.2 w_24 x7_9) k_X12_isIn q_1716 q_1715 hl.1 rfl rfl (Nat.le_of_ble_eq_true rfl) dX12_goesRound_106 ⟨Nat.le_of_ble_eq_true rfl, Nat.le_of_ble_eq_true rfl⟩ ⟨Nat.le_of_ble_eq_true rfl, Nat.le_of_ble_eq_true rfl⟩) (fun r_29 H locs ws_26 h u_27 p_28 => ?_)
          obtain ⟨e_30, e_31, e_32⟩ := p_28
          refine y_if_eq (tgt := 115) C0 dX12_goesRound_109 (by decide) (fun c_33 => ?_) (fun c_33 => ?_)
          · -- 109
            refine lv_aload_n C0.1 C0.2.1 dX12_goesRound_115 rfl (lv_at hl 1 rfl) ?_
            refine ng_X12_numbers C0 h kSM_0 q_1481 dX12_goesRound_116 ?_
            refine y_c2 (n := 40) C0 (by decide) dX12_goesRound_119 (fun v_34 e_35 => ?_)
            refine lv_iload_n C0.1 C0.2.1 dX12_goesRound_121 rfl (lv_at hl 2 rfl) ?_
            refine y_cmul (n := 40) C0 (o38_15 e_35) (o38_16 l1 u1 (le_min a1) (le_max a1)) (o38_17 l1 u1 (le_min a1) (le_max a1)) dX12_goesRound_122 (fun v_36 e_37 => ?_)
            refine lv_iload C0.1 C0.2.1 dX12_goesRound_123 (lv_at hl 0 rfl) ?_
            refine y_add C0 (o38_66 l1 u1 l2 u2 al0 ah0 e_3 e_4 q_5 c_6 b_16 b_17 hn_15 e_20 e_21 q_22 c_23 e_37 (le_min v_36) (le_max v_36) (le_min x7_9) (le_max x7_9) (le_min a1) (le_max a1) (le_min a2) (le_max a2) (le_min ap0) (le_max ap0) (le_min v_1) (le_max v_1) (le_min v_18) (le_max v_18)) (o38_67 l1 u1 l2 u2 al0 ah0 e_3 e_4 q_5 c_6 b_16 b_17 hn_15 e_20 e_21 q_22 c_23 e_37 (le_min v_36) (le_max v_36) (le_min x7_9) (le_max x7_9) (le_min a1) (le_max a1) (le_min a2) (le_max a2) (le_min ap0) (le_max ap0) (le_min v_1) (le_max v_1) (le_min v_18) (le_max v_18)) dX12_goesRound_125 (fun v_38 e_39 => ?_)
            refine y_lald C0 h kSM_25 rfl (by decide) (o38_68 l1 u1 l2 u2 al0 ah0 e_3 e_4 q_5 c_6 b_16 b_17 hn_15 e_20 e_21 q_22 c_23 e_37 e_39) (o38_69 l1 u1 l2 u2 al0 ah0 e_3 e_4 q_5 c_6 b_16 b_17 hn_15 e_20 e_21 q_22 c_23 e_37 e_39) dX12_goesRound_126 (fun w_40 e_41 => ?_)
            have g_42 := num_at (NumOk.fr (M := [0, 5, 8, 9, 10, 11, 12, 13, 18, 19]) hN (Fr.tr hF_11 (Fr.mono u_27 (by decide))) (by decide) (by decide)) (Eq.trans rfl (Eq.trans (Eq.trans (Fr.aI u_27 kSM_24 (by decide)) (Fr.aI hF_11 kSM_24 (by decide))) ea0)) (o38_70 l1 u1 l2 u2 al0 ah0 e_3 e_4 q_5 c_6 b_16 b_17 hn_15 e_20 e_21 q_22 c_23 e_37 e_39) (o38_71 l1 u1 l2 u2 al0 ah0 e_3 e_4 q_5 c_6 b_16 b_17 hn_15 e_20 e_21 q_22 c_23 e_37 e_39) e_41
            refine y_l2i C0 (o38_24 g_42.1 g_42.2) (o38_25 g_42.1 g_42.2) dX12_goesRound_127 (fun v_43 e_44 => ?_)
            refine lv_istore (lv' := [(8, .int v_43), (7, .int x7_9), (0, .ref (ad 0)), (1, .int a1), (2, .int a2), (3, .int a3), (4, .int a4), (5, .int a5), (6, .int a6)]) C0.1 C0.2.1 dX12_goesRound_128 hl (by decide) rfl (fun ls hl => ?_)
            refine lv_aload_n C0.1 C0.2.1 dX12_goesRound_130 rfl (lv_at hl 2 rfl) ?_
            refine lv_iload C0.1 C0.2.1 dX12_goesRound_131 (lv_at hl 6 rfl) ?_
            refine lv_iload C0.1 C0.2.1 dX12_goesRound_133 (lv_at hl 8 rfl) ?_
            refine lv_iload C0.1 C0.2.1 dX12_goesRound_135 (lv_at hl 0 rfl) ?_
            refine y_ci h (y_rV (As := [.int a4, .int a6, .int v_43]) (rest := []) C0 hZ h (c_X12_leg l G Z ad _ h.2 a4 a6 v_43 (o38_26 l4 u4) (o38_27 l4 u4) (o38_28 g_42.1 g_42.2 e_44) (o38_29 g_42.1 g_42.2 e_44) (J.pa hT hJ (Pa.tr (Pa.fr hF_11 (by decide)) (Pa.fr u_27 (by decide)))) (Laid.pa hLd (Pa.tr (Pa.fr hF_11 (by decide)) (Pa.fr u_27 (by decide))))) k_X12_leg q_1970 q_114 q_1968 kSM_0 rfl rfl rfl hl.1 rfl rfl (Nat.le_of_ble_eq_true rfl) dX12_goesRound_137 ⟨Nat.le_of_ble_eq_true rfl, Nat.le_of_ble_eq_true rfl⟩ ⟨Nat.le_of_ble_eq_true rfl, Nat.le_of_ble_eq_true rfl⟩) (fun r_48 H locs ws_45 h u_46 p_47 => ?_)
            refine lv_istore (lv' := [(9, .int r_48), (8, .int v_43), (7, .int x7_9), (0, .ref (ad 0)), (1, .int a1), (2, .int a2), (3, .int a3), (4, .int a4), (5, .int a5), (6, .int a6)]) C0.1 C0.2.1 dX12_goesRound_140 hl (by decide) rfl (fun ls hl => ?_)
            refine lv_iload C0.1 C0.2.1 dX12_goesRound_142 (lv_at hl 0 rfl) ?_
            refine y_c5 (n := 1000000000) C0 q_1887 (by decide) dX12_goesRound_144 (fun v_49 e_50 => ?_)
            refine y_icmp_ne (tgt := 153) C0 dX12_goesRound_147 (by decide) (fun c_51 => ?_) (fun c_51 => ?_)
            · -- 147
              refine lv_aload_n C0.1 C0.2.1 dX12_goesRound_153 rfl (lv_at hl 3 rfl) ?_
              refine ng_X12_taken C0 h kSM_0 q_1471 dX12_goesRound_154 ?_
              refine lv_iload_n C0.1 C0.2.1 dX12_goesRound_157 rfl (lv_at hl 5 rfl) ?_
              refine lv_iload C0.1 C0.2.1 dX12_goesRound_158 (lv_at hl 1 rfl) ?_
              refine y_iast C0 h kSM_18 rfl (by decide) (o38_72 l1 u1 l2 u2 al0 ah0 e_3 e_4 q_5 c_6 b_16 b_17 hn_15 e_20 e_21 q_22 c_23 e_37 e_39) (o38_73 l1 u1 l2 u2 al0 ah0 e_3 e_4 q_5 c_6 b_16 b_17 hn_15 e_20 e_21 q_22 c_23 e_37 e_39) (le_min v_43) (le_max v_43) dX12_goesRound_160 (fun H locs ws_52 h u_53 => ?_)
              have e_54 : aI ws_52 18 2 = v_43 := (congrArg (aI ws_52 18) (ix_c (c := 2) (o38_74 l1 u1 l2 u2 al0 ah0 e_3 e_4 q_5 c_6 b_16 b_17 hn_15 e_20 e_21 q_22 c_23 e_37 e_39))).symm.trans u_53.2.1
              refine lv_aload_n C0.1 C0.2.1 dX12_goesRound_161 rfl (lv_at hl 3 rfl) ?_
              refine lv_iload_n C0.1 C0.2.1 dX12_goesRound_162 rfl (lv_at hl 4 rfl) ?_
              refine lv_iload_n C0.1 C0.2.1 dX12_goesRound_163 rfl (lv_at hl 5 rfl) ?_
              refine y_c1 (n := 1) C0 (by decide) dX12_goesRound_164 (fun v_55 e_56 => ?_)
              refine y_add C0 (o38_75 l1 u1 l2 u2 al0 ah0 e_3 e_4 q_5 c_6 b_16 b_17 hn_15 e_20 e_21 q_22 c_23 e_37 e_39 e_56 (le_min a2) (le_max a2) (le_min v_55) (le_max v_55) (le_min a1) (le_max a1) (le_min ap0) (le_max ap0) (le_min v_1) (le_max v_1) (le_min x7_9) (le_max x7_9) (le_min v_18) (le_max v_18) (le_min v_36) (le_max v_36) (le_min v_38) (le_max v_38)) (o38_76 l1 u1 l2 u2 al0 ah0 e_3 e_4 q_5 c_6 b_16 b_17 hn_15 e_20 e_21 q_22 c_23 e_37 e_39 e_56 (le_min a2) (le_max a2) (le_min v_55) (le_max v_55) (le_min a1) (le_max a1) (le_min ap0) (le_max ap0) (le_min v_1) (le_max v_1) (le_min x7_9) (le_max x7_9) (le_min v_18) (le_max v_18) (le_min v_36) (le_max v_36) (le_min v_38) (le_max v_38)) dX12_goesRound_165 (fun v_57 e_58 => ?_)
              refine lv_iload_n C0.1 C0.2.1 dX12_goesRound_166 rfl (lv_at hl 6 rfl) ?_
              refine y_c1 (n := 1) C0 (by decide) dX12_goesRound_167 (fun v_59 e_60 => ?_)
              refine lv_iload C0.1 C0.2.1 dX12_goesRound_168 (lv_at hl 2 rfl) ?_
              refine y_ishlU C0 dX12_goesRound_170 (fun v_61 => ?_)
              refine y_iorU C0 dX12_goesRound_171 (fun v_62 => ?_)
              refine lv_aload_n C0.1 C0.2.1 dX12_goesRound_172 rfl (lv_at hl 3 rfl) ?_
              refine ng_X12_endsAt C0 h kSM_0 q_1466 dX12_goesRound_173 (fun v_63 e_64 e_65 e_66 => ?_)
              refine lv_iload C0.1 C0.2.1 dX12_goesRound_176 (lv_at hl 8 rfl) ?_
              refine lv_iload C0.1 C0.2.1 dX12_goesRound_178 (lv_at hl 0 rfl) ?_
              refine y_iaddU C0 dX12_goesRound_180 (fun v_67 => ?_)
              refine lv_iload C0.1 C0.2.1 dX12_goesRound_181 (lv_at hl 9 rfl) ?_
              refine lv_aload_n C0.1 C0.2.1 dX12_goesRound_183 rfl (lv_at hl 3 rfl) ?_
              refine ng_X12_legStreets C0 h kSM_0 q_1475 dX12_goesRound_184 (fun v_68 e_69 e_70 e_71 => ?_)
              refine y_iaddU C0 dX12_goesRound_187 (fun v_72 => ?_)
              refine y_cv h (y_rV (As := [.int a1, .int v_57, .int v_62, .int v_63, .int v_67, .int v_72]) (rest := []) C0 hZ h (c_X12_goesRound_3 l G Z ad _ h.2 a1 v_57 v_62 v_63 v_67 v_72 (o38_77 l1 u1 l2 u2 al0 ah0 e_3 e_4 q_5 c_6 b_16 b_17 hn_15 e_20 e_21 q_22 c_23 e_37 e_39 e_56 e_58) (o38_78 l1 u1 l2 u2 al0 ah0 e_3 e_4 q_5 c_6 b_16 b_17 hn_15 e_20 e_21 q_22 c_23 e_37 e_39 e_56 e_58) (o38_79 l1 u1 l2 u2 al0 ah0 e_3 e_4 q_5 c_6 b_16 b_17 hn_15 e_20 e_21 q_22 c_23 e_37 e_39 e_56 e_58) (o38_80 l1 u1 l2 u2 al0 ah0 e_3 e_4 q_5 c_6 b_16 b_17 hn_15 e_20 e_21 q_22 c_23 e_37 e_39 e_56 e_58) (o38_26 e_65 e_66) (o38_27 e_65 e_66) (fbd_lo (Eq.trans rfl (Eq.trans (Eq.trans (aI_of (u_53.1 24 (kd_ne (S := SM q0) kSM_24 kSM_18 (by decide)))) (Eq.trans (Fr.aI u_46 kSM_24 (by decide)) (Eq.trans (Fr.aI u_27 kSM_24 (by decide)) (Fr.aI hF_11 kSM_24 (by decide))))) ea0)) (o38_81 l1 u1 l2 u2 al0 ah0 e_3 e_4 q_5 c_6 b_16 b_17 hn_15 e_20 e_21 q_22 c_23 e_37 e_39 e_56 e_58)) (fbd_hi (Eq.trans rfl (Eq.trans (Eq.trans (aI_of (u_53.1 24 (kd_ne (S := SM q0) kSM_24 kSM_18 (by decide)))) (Eq.trans (Fr.aI u_46 kSM_24 (by decide)) (Eq.trans (Fr.aI u_27 kSM_24 (by decide)) (Fr.aI hF_11 kSM_24 (by decide))))) ea0)) (o38_82 l1 u1 l2 u2 al0 ah0 e_3 e_4 q_5 c_6 b_16 b_17 hn_15 e_20 e_21 q_22 c_23 e_37 e_39 e_56 e_58)) (NumOk.fr (M := [0, 5, 8, 9, 10, 11, 12, 13, 18, 19]) hN (Fr.tr (Fr.tr (Fr.tr hF_11 (Fr.mono u_27 (by decide))) (Fr.mono u_46 (by decide))) (Fr.up u_53.1 kSM_18 (by decide))) (by decide) (by decide)) (J.pa hT hJ (Pa.tr (Pa.tr (Pa.tr (Pa.fr hF_11 (by decide)) (Pa.fr u_27 (by decide))) (Pa.fr u_46 (by decide))) (Pa.ud u_53.1 (by decide)))) (Laid.pa hLd (Pa.tr (Pa.tr (Pa.tr (Pa.fr hF_11 (by decide)) (Pa.fr u_27 (by decide))) (Pa.fr u_46 (by decide))) (Pa.ud u_53.1 (by decide))))) k_X12_goesRound q_1966 q_113 q_1964 kSM_0 rfl rfl rfl hl.1 rfl rfl (Nat.le_of_ble_eq_true rfl) dX12_goesRound_188 ⟨Nat.le_of_ble_eq_true rfl, Nat.le_of_ble_eq_true rfl⟩ ⟨Nat.le_of_ble_eq_true rfl, Nat.le_of_ble_eq_true rfl⟩) (fun H locs ws_73 h u_74 p_75 => ?_)
              refine y_inc (kp := 2) (n := 1) (fun v_76 => [(7, .int v_76), (9, .int r_48), (8, .int v_43), (0, .ref (ad 0)), (1, .int a1), (2, .int a2), (3, .int a3), (4, .int a4), (5, .int a5), (6, .int a6)]) C0 hl rfl (by decide) (by decide) (fun _ => rfl) (o38_83 l1 u1 l2 u2 al0 ah0 e_3 e_4 q_5 c_6 b_16 b_17 hn_15 e_20 e_21 q_22 c_23 e_37 e_39 e_56 e_58 (le_min x7_9) (le_max x7_9) (le_min a1) (le_max a1) (le_min a2) (le_max a2) (le_min ap0) (le_max ap0) (le_min v_1) (le_max v_1) (le_min v_18) (le_max v_18) (le_min v_36) (le_max v_36) (le_min v_38) (le_max v_38) (le_min v_55) (le_max v_55) (le_min v_57) (le_max v_57)) (o38_84 l1 u1 l2 u2 al0 ah0 e_3 e_4 q_5 c_6 b_16 b_17 hn_15 e_20 e_21 q_22 c_23 e_37 e_39 e_56 e_58 (le_min x7_9) (le_max x7_9) (le_min a1) (le_max a1) (le_min a2) (le_max a2) (le_min ap0) (le_max ap0) (le_min v_1) (le_max v_1) (le_min v_18) (le_max v_18) (le_min v_36) (le_max v_36) (le_min v_38) (le_max v_38) (le_min v_55) (le_max v_55) (le_min v_57) (le_max v_57)) dX12_goesRound_191 (fun v_76 ls e_77 hl => ?_)
              refine lv_goto (tgt := 91) C0.1 C0.2.1 dX12_goesRound_194 (by decide) ?_
              exact ih_13 v_76 _ _ _ _ (o38_85 l1 u1 l2 u2 al0 ah0 e_3 e_4 q_5 c_6 b_16 b_17 hn_15 e_20 e_21 q_22 c_23 e_37 e_39 e_56 e_58 e_77) (o38_86 l1 u1 l2 u2 al0 ah0 e_3 e_4 q_5 c_6 b_16 b_17 hn_15 e_20 e_21 q_22 c_23 e_37 e_39 e_56 e_58 e_77) (o38_87 l1 u1 l2 u2 al0 ah0 e_3 e_4 q_5 c_6 b_16 b_17 hn_15 e_20 e_21 q_22 c_23 e_37 e_39 e_56 e_58 e_77) h (Fr.tr (Fr.tr (Fr.tr (Fr.tr hF_11 (Fr.mono u_27 (by decide))) (Fr.mono u_46 (by decide))) (Fr.up u_53.1 kSM_18 (by decide))) u_74) (lv_sub hl [0, 3, 4, 5, 6, 7, 8, 9] rfl)
            · -- 147
              refine lv_goto (tgt := 191) C0.1 C0.2.1 dX12_goesRound_150 (by decide) ?_
              refine y_inc (kp := 2) (n := 1) (fun v_78 => [(7, .int v_78), (9, .int r_48), (8, .int v_43), (0, .ref (ad 0)), (1, .int a1), (2, .int a2), (3, .int a3), (4, .int a4), (5, .int a5), (6, .int a6)]) C0 hl rfl (by decide) (by decide) (fun _ => rfl) (o38_88 l1 u1 l2 u2 al0 ah0 e_3 e_4 q_5 c_6 b_16 b_17 hn_15 e_20 e_21 q_22 c_23 e_37 e_39 (le_min x7_9) (le_max x7_9) (le_min a1) (le_max a1) (le_min a2) (le_max a2) (le_min ap0) (le_max ap0) (le_min v_1) (le_max v_1) (le_min v_18) (le_max v_18) (le_min v_36) (le_max v_36) (le_min v_38) (le_max v_38)) (o38_89 l1 u1 l2 u2 al0 ah0 e_3 e_4 q_5 c_6 b_16 b_17 hn_15 e_20 e_21 q_22 c_23 e_37 e_39 (le_min x7_9) (le_max x7_9) (le_min a1) (le_max a1) (le_min a2) (le_max a2) (le_min ap0) (le_max ap0) (le_min v_1) (le_max v_1) (le_min v_18) (le_max v_18) (le_min v_36) (le_max v_36) (le_min v_38) (le_max v_38)) dX12_goesRound_191 (fun v_78 ls e_79 hl => ?_)
              refine lv_goto (tgt := 91) C0.1 C0.2.1 dX12_goesRound_194 (by decide) ?_
              exact ih_13 v_78 _ _ _ _ (o38_90 l1 u1 l2 u2 al0 ah0 e_3 e_4 q_5 c_6 b_16 b_17 hn_15 e_20 e_21 q_22 c_23 e_37 e_39 e_79) (o38_91 l1 u1 l2 u2 al0 ah0 e_3 e_4 q_5 c_6 b_16 b_17 hn_15 e_20 e_21 q_22 c_23 e_37 e_39 e_79) (o38_92 l1 u1 l2 u2 al0 ah0 e_3 e_4 q_5 c_6 b_16 b_17 hn_15 e_20 e_21 q_22 c_23 e_37 e_39 e_79) h (Fr.tr (Fr.tr hF_11 (Fr.mono u_27 (by decide))) (Fr.mono u_46 (by decide))) (lv_sub hl [0, 3, 4, 5, 6, 7, 8, 9] rfl)
          · -- 109
            refine lv_goto (tgt := 191) C0.1 C0.2.1 dX12_goesRound_112 (by decide) ?_
            refine y_inc (kp := 0) (n := 1) (fun v_80 => [(7, .int v_80), (0, .ref (ad 0)), (1, .int a1), (2, .int a2), (3, .int a3), (4, .int a4), (5, .int a5), (6, .int a6)]) C0 hl rfl (by decide) (by decide) (fun _ => rfl) (o38_93 l2 u2 al0 ah0 e_3 e_4 q_5 c_6 b_16 b_17 hn_15 e_20 e_21 q_22 c_23 (le_min x7_9) (le_max x7_9) (le_min a2) (le_max a2) (le_min ap0) (le_max ap0) (le_min v_1) (le_max v_1) (le_min v_18) (le_max v_18)) (o38_94 l2 u2 al0 ah0 e_3 e_4 q_5 c_6 b_16 b_17 hn_15 e_20 e_21 q_22 c_23 (le_min x7_9) (le_max x7_9) (le_min a2) (le_max a2) (le_min ap0) (le_max ap0) (le_min v_1) (le_max v_1) (le_min v_18) (le_max v_18)) dX12_goesRound_191 (fun v_80 ls e_81 hl => ?_)
            refine lv_goto (tgt := 91) C0.1 C0.2.1 dX12_goesRound_194 (by decide) ?_
            exact ih_13 v_80 _ _ _ _ (o38_95 l2 u2 al0 ah0 e_3 e_4 q_5 c_6 b_16 b_17 hn_15 e_20 e_21 q_22 c_23 e_81) (o38_96 l2 u2 al0 ah0 e_3 e_4 q_5 c_6 b_16 b_17 hn_15 e_20 e_21 q_22 c_23 e_81) (o38_97 l2 u2 al0 ah0 e_3 e_4 q_5 c_6 b_16 b_17 hn_15 e_20 e_21 q_22 c_23 e_81) h (Fr.tr hF_11 (Fr.mono u_27 (by decide))) (lv_sub hl [0, 1, 2, 3, 4, 5, 6, 7] rfl)
    exact lp_12 ((4 - v_7.toInt + 1).toNat) v_7 _ _ _ _ (o38_12 e_8) (o38_13 e_8) (o38_14 e_8) h Fr.rf (lv_sub hl [0, 1, 2, 3, 4, 5, 6, 7] rfl)
  · -- 7
    refine lv_aload_n C0.1 C0.2.1 dX12_goesRound_10 rfl (lv_at hl 0 rfl) ?_
    refine ng_X12_bestLefts C0 h kSM_0 q_1473 dX12_goesRound_11 (fun v_82 e_83 e_84 e_85 => ?_)
    refine y_c1 (n := (-1)) C0 (by decide) dX12_goesRound_14 (fun v_86 e_87 => ?_)
    refine y_icmp_eq (tgt := 46) C0 dX12_goesRound_15 (by decide) (fun c_88 => ?_) (fun c_88 => ?_)
    · -- 15
      refine lv_aload_n C0.1 C0.2.1 dX12_goesRound_46 rfl (lv_at hl 0 rfl) ?_
      refine lv_iload C0.1 C0.2.1 dX12_goesRound_47 (lv_at hl 5 rfl) ?_
      refine np_X12_bestLefts C0 h kSM_0 q_1473 (le_min a5) (le_max a5) dX12_goesRound_49 (fun H locs ws_89 h u_90 => ?_)
      refine lv_aload_n C0.1 C0.2.1 dX12_goesRound_52 rfl (lv_at hl 0 rfl) ?_
      refine lv_iload C0.1 C0.2.1 dX12_goesRound_53 (lv_at hl 6 rfl) ?_
      refine np_X12_bestStreets C0 h kSM_0 q_1474 (le_min a6) (le_max a6) dX12_goesRound_55 (fun H locs ws_91 h u_92 => ?_)
      refine y_c1 (n := 0) C0 (by decide) dX12_goesRound_58 (fun v_93 e_94 => ?_)
      refine lv_istore (lv' := [(7, .int v_93), (0, .ref (ad 0)), (1, .int a1), (2, .int a2), (3, .int a3), (4, .int a4), (5, .int a5), (6, .int a6)]) C0.1 C0.2.1 dX12_goesRound_59 hl (by decide) rfl (fun ls hl => ?_)
      have lp_98 : ∀ (n_100 : Nat) (x7_95 : Int32) (H : Heap) (locs : List Loc) (ls : Array Slot) (ws_96 : va_W), 2 - x7_95.toInt < (n_100 : Int) → 0 ≤ x7_95.toInt → x7_95.toInt ≤ 2 → Wt G (SM tt) ad A s H locs ws_96 → Fr (SM tt) [19] ws_91 ws_96 → lv_has ls 10 [(7, .int x7_95), (0, .ref (ad 0)), (1, .int a1), (2, .int a2), (3, .int a3), (4, .int a4), (5, .int a5), (6, .int a6)] → W p l e (rmd 10 0 0) s m args below meth c H locs 0 0 Q (F0 m 61 ls []) := by
        intro n_100
        induction n_100 with
        | zero => intro x7_95 H locs ls ws_96 hn_101 b_102 b_103 h hF_97 hl; exact ((o38_98 b_102 b_103 hn_101)).elim
        | succ n_100 ih_99 =>
          intro x7_95 H locs ls ws_96 hn_101 b_102 b_103 h hF_97 hl
          refine lv_iload C0.1 C0.2.1 dX12_goesRound_61 (lv_at hl 0 rfl) ?_
          refine lv_iload_n C0.1 C0.2.1 dX12_goesRound_63 rfl (lv_at hl 3 rfl) ?_
          refine y_icmp_ge (tgt := 87) C0 dX12_goesRound_64 (by decide) (fun c_104 => ?_) (fun c_104 => ?_)
          · -- 64
            rw [hQ]
            exact y_vret C0 h (Fr.tr (Fr.tr (Fr.up u_90.1 kSM_0 (by decide)) (Fr.up u_92.1 kSM_0 (by decide))) (Fr.mono hF_97 (by decide))) trivial dX12_goesRound_87
          · -- 64
            refine lv_aload_n C0.1 C0.2.1 dX12_goesRound_67 rfl (lv_at hl 1 rfl) ?_
            refine ng_X12_bestRow C0 h kSM_0 q_1472 dX12_goesRound_68 ?_
            refine lv_iload C0.1 C0.2.1 dX12_goesRound_71 (lv_at hl 0 rfl) ?_
            refine lv_aload_n C0.1 C0.2.1 dX12_goesRound_73 rfl (lv_at hl 1 rfl) ?_
            refine ng_X12_taken C0 h kSM_0 q_1471 dX12_goesRound_74 ?_
            refine lv_iload C0.1 C0.2.1 dX12_goesRound_77 (lv_at hl 0 rfl) ?_
            refine y_iald C0 h kSM_18 rfl (by decide) (o38_99 l2 u2 al0 ah0 e_3 e_4 q_5 c_6 b_102 b_103 hn_101 c_104) (o38_100 l2 u2 al0 ah0 e_3 e_4 q_5 c_6 b_102 b_103 hn_101 c_104) dX12_goesRound_79 (fun v_105 e_106 e_107 e_108 => ?_)
            refine y_iast C0 h kSM_19 rfl (by decide) (o38_99 l2 u2 al0 ah0 e_3 e_4 q_5 c_6 b_102 b_103 hn_101 c_104) (o38_100 l2 u2 al0 ah0 e_3 e_4 q_5 c_6 b_102 b_103 hn_101 c_104) (le_min v_105) (le_max v_105) dX12_goesRound_80 (fun H locs ws_109 h u_110 => ?_)
            refine y_inc (kp := 0) (n := 1) (fun v_111 => [(7, .int v_111), (0, .ref (ad 0)), (1, .int a1), (2, .int a2), (3, .int a3), (4, .int a4), (5, .int a5), (6, .int a6)]) C0 hl rfl (by decide) (by decide) (fun _ => rfl) (o38_101 l2 u2 al0 ah0 e_3 e_4 q_5 c_6 b_102 b_103 hn_101 c_104 (le_min x7_95) (le_max x7_95) (le_min a2) (le_max a2) (le_min ap0) (le_max ap0) (le_min v_1) (le_max v_1)) (o38_102 l2 u2 al0 ah0 e_3 e_4 q_5 c_6 b_102 b_103 hn_101 c_104 (le_min x7_95) (le_max x7_95) (le_min a2) (le_max a2) (le_min ap0) (le_max ap0) (le_min v_1) (le_max v_1)) dX12_goesRound_81 (fun v_111 ls e_112 hl => ?_)
            refine lv_goto (tgt := 61) C0.1 C0.2.1 dX12_goesRound_84 (by decide) ?_
            exact ih_99 v_111 _ _ _ _ (o38_103 l2 u2 al0 ah0 e_3 e_4 q_5 c_6 b_102 b_103 hn_101 c_104 e_112) (o38_104 l2 u2 al0 ah0 e_3 e_4 q_5 c_6 b_102 b_103 hn_101 c_104 e_112) (o38_105 l2 u2 al0 ah0 e_3 e_4 q_5 c_6 b_102 b_103 hn_101 c_104 e_112) h (Fr.tr hF_97 (Fr.up u_110.1 kSM_19 (by decide))) (lv_sub hl [0, 1, 2, 3, 4, 5, 6, 7] rfl)
      exact lp_98 ((2 - v_93.toInt + 1).toNat) v_93 _ _ _ _ (o38_106 e_94) (o38_13 e_94) (o38_107 e_94) h Fr.rf (lv_sub hl [0, 1, 2, 3, 4, 5, 6, 7] rfl)
    · -- 15
      refine lv_iload C0.1 C0.2.1 dX12_goesRound_18 (lv_at hl 5 rfl) ?_
      refine lv_aload_n C0.1 C0.2.1 dX12_goesRound_20 rfl (lv_at hl 0 rfl) ?_
      refine ng_X12_bestLefts C0 h kSM_0 q_1473 dX12_goesRound_21 (fun v_113 e_114 e_115 e_116 => ?_)
      have q_117 : v_113.toInt = v_82.toInt := congrArg Int32.toInt (e_114.symm.trans (Eq.trans rfl e_83))
      refine y_icmp_gt (tgt := 45) C0 dX12_goesRound_24 (by decide) (fun c_118 => ?_) (fun c_118 => ?_)
      · -- 24
        rw [hQ]
        exact y_vret C0 h Fr.rf trivial dX12_goesRound_45
      · -- 24
        refine lv_iload C0.1 C0.2.1 dX12_goesRound_27 (lv_at hl 5 rfl) ?_
        refine lv_aload_n C0.1 C0.2.1 dX12_goesRound_29 rfl (lv_at hl 0 rfl) ?_
        refine ng_X12_bestLefts C0 h kSM_0 q_1473 dX12_goesRound_30 (fun v_119 e_120 e_121 e_122 => ?_)
        have q_123 : v_119.toInt = v_82.toInt := congrArg Int32.toInt (e_120.symm.trans (Eq.trans rfl e_83))
        refine y_icmp_ne (tgt := 46) C0 dX12_goesRound_33 (by decide) (fun c_124 => ?_) (fun c_124 => ?_)
        · -- 33
          refine lv_aload_n C0.1 C0.2.1 dX12_goesRound_46 rfl (lv_at hl 0 rfl) ?_
          refine lv_iload C0.1 C0.2.1 dX12_goesRound_47 (lv_at hl 5 rfl) ?_
          refine np_X12_bestLefts C0 h kSM_0 q_1473 (le_min a5) (le_max a5) dX12_goesRound_49 (fun H locs ws_125 h u_126 => ?_)
          refine lv_aload_n C0.1 C0.2.1 dX12_goesRound_52 rfl (lv_at hl 0 rfl) ?_
          refine lv_iload C0.1 C0.2.1 dX12_goesRound_53 (lv_at hl 6 rfl) ?_
          refine np_X12_bestStreets C0 h kSM_0 q_1474 (le_min a6) (le_max a6) dX12_goesRound_55 (fun H locs ws_127 h u_128 => ?_)
          refine y_c1 (n := 0) C0 (by decide) dX12_goesRound_58 (fun v_129 e_130 => ?_)
          refine lv_istore (lv' := [(7, .int v_129), (0, .ref (ad 0)), (1, .int a1), (2, .int a2), (3, .int a3), (4, .int a4), (5, .int a5), (6, .int a6)]) C0.1 C0.2.1 dX12_goesRound_59 hl (by decide) rfl (fun ls hl => ?_)
          have lp_134 : ∀ (n_136 : Nat) (x7_131 : Int32) (H : Heap) (locs : List Loc) (ls : Array Slot) (ws_132 : va_W), 2 - x7_131.toInt < (n_136 : Int) → 0 ≤ x7_131.toInt → x7_131.toInt ≤ 2 → Wt G (SM tt) ad A s H locs ws_132 → Fr (SM tt) [19] ws_127 ws_132 → lv_has ls 10 [(7, .int x7_131), (0, .ref (ad 0)), (1, .int a1), (2, .int a2), (3, .int a3), (4, .int a4), (5, .int a5), (6, .int a6)] → W p l e (rmd 10 0 0) s m args below meth c H locs 0 0 Q (F0 m 61 ls []) := by
            intro n_136
            induction n_136 with
            | zero => intro x7_131 H locs ls ws_132 hn_137 b_138 b_139 h hF_133 hl; exact ((o38_98 b_138 b_139 hn_137)).elim
            | succ n_136 ih_135 =>
              intro x7_131 H locs ls ws_132 hn_137 b_138 b_139 h hF_133 hl
              refine lv_iload C0.1 C0.2.1 dX12_goesRound_61 (lv_at hl 0 rfl) ?_
              refine lv_iload_n C0.1 C0.2.1 dX12_goesRound_63 rfl (lv_at hl 3 rfl) ?_
              refine y_icmp_ge (tgt := 87) C0 dX12_goesRound_64 (by decide) (fun c_140 => ?_) (fun c_140 => ?_)
              · -- 64
                rw [hQ]
                exact y_vret C0 h (Fr.tr (Fr.tr (Fr.up u_126.1 kSM_0 (by decide)) (Fr.up u_128.1 kSM_0 (by decide))) (Fr.mono hF_133 (by decide))) trivial dX12_goesRound_87
              · -- 64
                refine lv_aload_n C0.1 C0.2.1 dX12_goesRound_67 rfl (lv_at hl 1 rfl) ?_
                refine ng_X12_bestRow C0 h kSM_0 q_1472 dX12_goesRound_68 ?_
                refine lv_iload C0.1 C0.2.1 dX12_goesRound_71 (lv_at hl 0 rfl) ?_
                refine lv_aload_n C0.1 C0.2.1 dX12_goesRound_73 rfl (lv_at hl 1 rfl) ?_
                refine ng_X12_taken C0 h kSM_0 q_1471 dX12_goesRound_74 ?_
                refine lv_iload C0.1 C0.2.1 dX12_goesRound_77 (lv_at hl 0 rfl) ?_
                refine y_iald C0 h kSM_18 rfl (by decide) (o38_99 l2 u2 al0 ah0 e_3 e_4 q_5 c_6 b_138 b_139 hn_137 c_140) (o38_100 l2 u2 al0 ah0 e_3 e_4 q_5 c_6 b_138 b_139 hn_137 c_140) dX12_goesRound_79 (fun v_141 e_142 e_143 e_144 => ?_)
                refine y_iast C0 h kSM_19 rfl (by decide) (o38_99 l2 u2 al0 ah0 e_3 e_4 q_5 c_6 b_138 b_139 hn_137 c_140) (o38_100 l2 u2 al0 ah0 e_3 e_4 q_5 c_6 b_138 b_139 hn_137 c_140) (le_min v_141) (le_max v_141) dX12_goesRound_80 (fun H locs ws_145 h u_146 => ?_)
                refine y_inc (kp := 0) (n := 1) (fun v_147 => [(7, .int v_147), (0, .ref (ad 0)), (1, .int a1), (2, .int a2), (3, .int a3), (4, .int a4), (5, .int a5), (6, .int a6)]) C0 hl rfl (by decide) (by decide) (fun _ => rfl) (o38_101 l2 u2 al0 ah0 e_3 e_4 q_5 c_6 b_138 b_139 hn_137 c_140 (le_min x7_131) (le_max x7_131) (le_min a2) (le_max a2) (le_min ap0) (le_max ap0) (le_min v_1) (le_max v_1)) (o38_102 l2 u2 al0 ah0 e_3 e_4 q_5 c_6 b_138 b_139 hn_137 c_140 (le_min x7_131) (le_max x7_131) (le_min a2) (le_max a2) (le_min ap0) (le_max ap0) (le_min v_1) (le_max v_1)) dX12_goesRound_81 (fun v_147 ls e_148 hl => ?_)
                refine lv_goto (tgt := 61) C0.1 C0.2.1 dX12_goesRound_84 (by decide) ?_
                exact ih_135 v_147 _ _ _ _ (o38_103 l2 u2 al0 ah0 e_3 e_4 q_5 c_6 b_138 b_139 hn_137 c_140 e_148) (o38_104 l2 u2 al0 ah0 e_3 e_4 q_5 c_6 b_138 b_139 hn_137 c_140 e_148) (o38_105 l2 u2 al0 ah0 e_3 e_4 q_5 c_6 b_138 b_139 hn_137 c_140 e_148) h (Fr.tr hF_133 (Fr.up u_146.1 kSM_19 (by decide))) (lv_sub hl [0, 1, 2, 3, 4, 5, 6, 7] rfl)
          exact lp_134 ((2 - v_129.toInt + 1).toNat) v_129 _ _ _ _ (o38_106 e_130) (o38_13 e_130) (o38_107 e_130) h Fr.rf (lv_sub hl [0, 1, 2, 3, 4, 5, 6, 7] rfl)
        · -- 33
          refine lv_iload C0.1 C0.2.1 dX12_goesRound_36 (lv_at hl 6 rfl) ?_
          refine lv_aload_n C0.1 C0.2.1 dX12_goesRound_38 rfl (lv_at hl 0 rfl) ?_
          refine ng_X12_bestStreets C0 h kSM_0 q_1474 dX12_goesRound_39 (fun v_149 e_150 e_151 e_152 => ?_)
          refine y_icmp_lt (tgt := 46) C0 dX12_goesRound_42 (by decide) (fun c_153 => ?_) (fun c_153 => ?_)
          · -- 42
            refine lv_aload_n C0.1 C0.2.1 dX12_goesRound_46 rfl (lv_at hl 0 rfl) ?_
            refine lv_iload C0.1 C0.2.1 dX12_goesRound_47 (lv_at hl 5 rfl) ?_
            refine np_X12_bestLefts C0 h kSM_0 q_1473 (le_min a5) (le_max a5) dX12_goesRound_49 (fun H locs ws_154 h u_155 => ?_)
            refine lv_aload_n C0.1 C0.2.1 dX12_goesRound_52 rfl (lv_at hl 0 rfl) ?_
            refine lv_iload C0.1 C0.2.1 dX12_goesRound_53 (lv_at hl 6 rfl) ?_
            refine np_X12_bestStreets C0 h kSM_0 q_1474 (le_min a6) (le_max a6) dX12_goesRound_55 (fun H locs ws_156 h u_157 => ?_)
            refine y_c1 (n := 0) C0 (by decide) dX12_goesRound_58 (fun v_158 e_159 => ?_)
            refine lv_istore (lv' := [(7, .int v_158), (0, .ref (ad 0)), (1, .int a1), (2, .int a2), (3, .int a3), (4, .int a4), (5, .int a5), (6, .int a6)]) C0.1 C0.2.1 dX12_goesRound_59 hl (by decide) rfl (fun ls hl => ?_)
            have lp_163 : ∀ (n_165 : Nat) (x7_160 : Int32) (H : Heap) (locs : List Loc) (ls : Array Slot) (ws_161 : va_W), 2 - x7_160.toInt < (n_165 : Int) → 0 ≤ x7_160.toInt → x7_160.toInt ≤ 2 → Wt G (SM tt) ad A s H locs ws_161 → Fr (SM tt) [19] ws_156 ws_161 → lv_has ls 10 [(7, .int x7_160), (0, .ref (ad 0)), (1, .int a1), (2, .int a2), (3, .int a3), (4, .int a4), (5, .int a5), (6, .int a6)] → W p l e (rmd 10 0 0) s m args below meth c H locs 0 0 Q (F0 m 61 ls []) := by
              intro n_165
              induction n_165 with
              | zero => intro x7_160 H locs ls ws_161 hn_166 b_167 b_168 h hF_162 hl; exact ((o38_98 b_167 b_168 hn_166)).elim
              | succ n_165 ih_164 =>
                intro x7_160 H locs ls ws_161 hn_166 b_167 b_168 h hF_162 hl
                refine lv_iload C0.1 C0.2.1 dX12_goesRound_61 (lv_at hl 0 rfl) ?_
                refine lv_iload_n C0.1 C0.2.1 dX12_goesRound_63 rfl (lv_at hl 3 rfl) ?_
                refine y_icmp_ge (tgt := 87) C0 dX12_goesRound_64 (by decide) (fun c_169 => ?_) (fun c_169 => ?_)
                · -- 64
                  rw [hQ]
                  exact y_vret C0 h (Fr.tr (Fr.tr (Fr.up u_155.1 kSM_0 (by decide)) (Fr.up u_157.1 kSM_0 (by decide))) (Fr.mono hF_162 (by decide))) trivial dX12_goesRound_87
                · -- 64
                  refine lv_aload_n C0.1 C0.2.1 dX12_goesRound_67 rfl (lv_at hl 1 rfl) ?_
                  refine ng_X12_bestRow C0 h kSM_0 q_1472 dX12_goesRound_68 ?_
                  refine lv_iload C0.1 C0.2.1 dX12_goesRound_71 (lv_at hl 0 rfl) ?_
                  refine lv_aload_n C0.1 C0.2.1 dX12_goesRound_73 rfl (lv_at hl 1 rfl) ?_
                  refine ng_X12_taken C0 h kSM_0 q_1471 dX12_goesRound_74 ?_
                  refine lv_iload C0.1 C0.2.1 dX12_goesRound_77 (lv_at hl 0 rfl) ?_
                  refine y_iald C0 h kSM_18 rfl (by decide) (o38_99 l2 u2 al0 ah0 e_3 e_4 q_5 c_6 b_167 b_168 hn_166 c_169) (o38_100 l2 u2 al0 ah0 e_3 e_4 q_5 c_6 b_167 b_168 hn_166 c_169) dX12_goesRound_79 (fun v_170 e_171 e_172 e_173 => ?_)
                  refine y_iast C0 h kSM_19 rfl (by decide) (o38_99 l2 u2 al0 ah0 e_3 e_4 q_5 c_6 b_167 b_168 hn_166 c_169) (o38_100 l2 u2 al0 ah0 e_3 e_4 q_5 c_6 b_167 b_168 hn_166 c_169) (le_min v_170) (le_max v_170) dX12_goesRound_80 (fun H locs ws_174 h u_175 => ?_)
                  refine y_inc (kp := 0) (n := 1) (fun v_176 => [(7, .int v_176), (0, .ref (ad 0)), (1, .int a1), (2, .int a2), (3, .int a3), (4, .int a4), (5, .int a5), (6, .int a6)]) C0 hl rfl (by decide) (by decide) (fun _ => rfl) (o38_101 l2 u2 al0 ah0 e_3 e_4 q_5 c_6 b_167 b_168 hn_166 c_169 (le_min x7_160) (le_max x7_160) (le_min a2) (le_max a2) (le_min ap0) (le_max ap0) (le_min v_1) (le_max v_1)) (o38_102 l2 u2 al0 ah0 e_3 e_4 q_5 c_6 b_167 b_168 hn_166 c_169 (le_min x7_160) (le_max x7_160) (le_min a2) (le_max a2) (le_min ap0) (le_max ap0) (le_min v_1) (le_max v_1)) dX12_goesRound_81 (fun v_176 ls e_177 hl => ?_)
                  refine lv_goto (tgt := 61) C0.1 C0.2.1 dX12_goesRound_84 (by decide) ?_
                  exact ih_164 v_176 _ _ _ _ (o38_103 l2 u2 al0 ah0 e_3 e_4 q_5 c_6 b_167 b_168 hn_166 c_169 e_177) (o38_104 l2 u2 al0 ah0 e_3 e_4 q_5 c_6 b_167 b_168 hn_166 c_169 e_177) (o38_105 l2 u2 al0 ah0 e_3 e_4 q_5 c_6 b_167 b_168 hn_166 c_169 e_177) h (Fr.tr hF_162 (Fr.up u_175.1 kSM_19 (by decide))) (lv_sub hl [0, 1, 2, 3, 4, 5, 6, 7] rfl)
            exact lp_163 ((2 - v_158.toInt + 1).toNat) v_158 _ _ _ _ (o38_106 e_159) (o38_13 e_159) (o38_107 e_159) h Fr.rf (lv_sub hl [0, 1, 2, 3, 4, 5, 6, 7] rfl)
          · -- 42
            rw [hQ]
            exact y_vret C0 h Fr.rf trivial dX12_goesRound_45
set_option maxHeartbeats 4000000 in
set_option maxRecDepth 100000 in
theorem c_X12_goesRound_1 (l : Launch) (G : GG) (Z : RZ) (ad : Nat → Nat) (ws0 : va_W) (hT : Ty G (SM tt) ad ws0) (a1 : Int32) (a2 : Int32) (a3 : Int32) (a4 : Int32) (a5 : Int32) (a6 : Int32) (l1 : 0 ≤ a1.toInt) (u1 : a1.toInt ≤ 3) (l2 : 1 ≤ a2.toInt) (u2 : a2.toInt ≤ 1) (l4 : 0 ≤ a4.toInt) (u4 : a4.toInt ≤ 99) (al0 : 1 ≤ (aI ws0 24 a1.toInt.toNat).toInt) (ah0 : (aI ws0 24 a1.toInt.toNat).toInt ≤ 4) (hN : NumOk ws0 a1) (hJ : J ws0) (hLd : Laid ws0) : Mq l yX12_goesRound cX12_goesRound 10 none 11 G Z [.ref (ad 0), .int a1, .int a2, .int a3, .int a4, .int a5, .int a6] ws0 (PV G (SM tt) ad [0, 5, 8, 9, 10, 11, 12, 13, 18, 19] ws0 (fun u => True)) := by
  refine Mq.start (by decide) (Nat.le_of_ble_eq_true rfl) ?_
  intro p e s m below meth c A ls C0 hZ h hl
  have hl : lv_has ls 10 [(0, .ref (ad 0)), (1, .int a1), (2, .int a2), (3, .int a3), (4, .int a4), (5, .int a5), (6, .int a6)] := hl
  have h : Wt G (SM tt) ad A s s.heap [] ws0 := ⟨h, hT⟩
  obtain ⟨args, hargs⟩ : ∃ z, z = ([.ref (ad 0), .int a1, .int a2, .int a3, .int a4, .int a5, .int a6] : List Value).toArray := ⟨_, rfl⟩
  rw [← hargs] at C0 ⊢
  have C0 : Cx p s m args meth c RX12 cX12_goesRound 10 none := C0
  obtain ⟨Q, hQ⟩ : ∃ z, z = MQ below ((PV G (SM tt) ad [0, 5, 8, 9, 10, 11, 12, 13, 18, 19] ws0 (fun u => True)) A) args s 0 0 A := ⟨_, rfl⟩
  rw [← hQ]
  obtain ⟨ap0, ea0⟩ : ∃ v, aI ws0 24 a1.toInt.toNat = v := ⟨_, rfl⟩
  rw [ea0] at al0 ah0
  refine lv_iload_n C0.1 C0.2.1 dX12_goesRound_0 rfl (lv_at hl 2 rfl) ?_
  refine lv_aload_n C0.1 C0.2.1 dX12_goesRound_1 rfl (lv_at hl 0 rfl) ?_
  refine ng_X12_rowMany C0 h kSM_0 q_1480 dX12_goesRound_2 ?_
  refine lv_iload_n C0.1 C0.2.1 dX12_goesRound_5 rfl (lv_at hl 1 rfl) ?_
  refine y_iald C0 h kSM_24 rfl (by decide) (o38_1 l1 u1) (o38_2 l1 u1) dX12_goesRound_6 (fun v_1 e_2 e_3 e_4 => ?_)
  have q_5 : v_1.toInt = ap0.toInt := congrArg Int32.toInt (e_2.symm.trans (Eq.trans rfl (Eq.trans rfl ea0)))
  refine y_icmp_ne (tgt := 88) C0 dX12_goesRound_7 (by decide) (fun c_6 => ?_) (fun c_6 => ?_)
  · -- 7
    refine y_c1 (n := 0) C0 (by decide) dX12_goesRound_88 (fun v_7 e_8 => ?_)
    refine lv_istore (lv' := [(7, .int v_7), (0, .ref (ad 0)), (1, .int a1), (2, .int a2), (3, .int a3), (4, .int a4), (5, .int a5), (6, .int a6)]) C0.1 C0.2.1 dX12_goesRound_89 hl (by decide) rfl (fun ls hl => ?_)
    have lp_12 : ∀ (n_14 : Nat) (x7_9 : Int32) (H : Heap) (locs : List Loc) (ls : Array Slot) (ws_10 : va_W), 4 - x7_9.toInt < (n_14 : Int) → 0 ≤ x7_9.toInt → x7_9.toInt ≤ 4 → Wt G (SM tt) ad A s H locs ws_10 → Fr (SM tt) [0, 5, 8, 9, 10, 11, 12, 13, 18, 19] ws0 ws_10 → lv_has ls 10 [(7, .int x7_9), (0, .ref (ad 0)), (1, .int a1), (2, .int a2), (3, .int a3), (4, .int a4), (5, .int a5), (6, .int a6)] → W p l e (rmd 11 0 0) s m args below meth c H locs 0 0 Q (F0 m 91 ls []) := by
      intro n_14
      induction n_14 with
      | zero => intro x7_9 H locs ls ws_10 hn_15 b_16 b_17 h hF_11 hl; exact ((o38_4 b_16 b_17 hn_15)).elim
      | succ n_14 ih_13 =>
        intro x7_9 H locs ls ws_10 hn_15 b_16 b_17 h hF_11 hl
        refine lv_iload C0.1 C0.2.1 dX12_goesRound_91 (lv_at hl 0 rfl) ?_
        refine lv_aload_n C0.1 C0.2.1 dX12_goesRound_93 rfl (lv_at hl 1 rfl) ?_
        refine ng_X12_rowMany C0 h kSM_0 q_1480 dX12_goesRound_94 ?_
        refine lv_iload_n C0.1 C0.2.1 dX12_goesRound_97 rfl (lv_at hl 2 rfl) ?_
        refine y_iald C0 h kSM_24 rfl (by decide) (o38_1 l1 u1) (o38_2 l1 u1) dX12_goesRound_98 (fun v_18 e_19 e_20 e_21 => ?_)
        have q_22 : v_18.toInt = ap0.toInt := congrArg Int32.toInt (e_19.symm.trans (Eq.trans rfl (Eq.trans (Fr.aI hF_11 kSM_24 (by decide)) ea0)))
        refine y_icmp_ge (tgt := 197) C0 dX12_goesRound_99 (by decide) (fun c_23 => ?_) (fun c_23 => ?_)
        · -- 99
          rw [hQ]
          exact y_vret C0 h hF_11 trivial dX12_goesRound_197
        · -- 99
          refine lv_iload_n C0.1 C0.2.1 dX12_goesRound_102 rfl (lv_at hl 4 rfl) ?_
          refine y_i2l C0 dX12_goesRound_103 (fun w_24 e_25 => ?_)
          refine lv_iload C0.1 C0.2.1 dX12_goesRound_104 (lv_at hl 0 rfl) ?_
          refine y_ci h (y_rS (As := [.long w_24, .int x7_9]) (rest := []) C0 hZ h (c_X12_isIn l G Z ad _ h.2 w_24 x7_9) k_X12_isIn q_1716 q_1715 hl.1 rfl rfl (Nat.le_of_ble_eq_true rfl) dX12_goesRound_106 ⟨Nat.le_of_ble_eq_true rfl, Nat.le_of_ble_eq_true rfl⟩ ⟨Nat.le_of_ble_eq_true rfl, Nat.le_of_ble_eq_true rfl⟩) (fun r_29 H locs ws_26 h u_27 p_28 => ?_)
          obtain ⟨e_30, e_31, e_32⟩ := p_28
          refine y_if_eq (tgt := 115) C0 dX12_goesRound_109 (by decide) (fun c_33 => ?_) (fun c_33 => ?_)
          · -- 109
            refine lv_aload_n C0.1 C0.2.1 dX12_goesRound_115 rfl (lv_at hl 1 rfl) ?_
            refine ng_X12_numbers C0 h kSM_0 q_1481 dX12_goesRound_116 ?_
            refine y_c2 (n := 40) C0 (by decide) dX12_goesRound_119 (fun v_34 e_35 => ?_)
            refine lv_iload_n C0.1 C0.2.1 dX12_goesRound_121 rfl (lv_at hl 2 rfl) ?_
            refine y_cmul (n := 40) C0 (o38_15 e_35) (o38_16 l1 u1 (le_min a1) (le_max a1)) (o38_17 l1 u1 (le_min a1) (le_max a1)) dX12_goesRound_122 (fun v_36 e_37 => ?_)
            refine lv_iload C0.1 C0.2.1 dX12_goesRound_123 (lv_at hl 0 rfl) ?_
            refine y_add C0 (o38_108 l1 u1 l2 u2 al0 ah0 e_3 e_4 q_5 c_6 b_16 b_17 hn_15 e_20 e_21 q_22 c_23 e_37 (le_min v_36) (le_max v_36) (le_min x7_9) (le_max x7_9) (le_min a1) (le_max a1) (le_min a2) (le_max a2) (le_min ap0) (le_max ap0) (le_min v_1) (le_max v_1) (le_min v_18) (le_max v_18)) (o38_109 l1 u1 l2 u2 al0 ah0 e_3 e_4 q_5 c_6 b_16 b_17 hn_15 e_20 e_21 q_22 c_23 e_37 (le_min v_36) (le_max v_36) (le_min x7_9) (le_max x7_9) (le_min a1) (le_max a1) (le_min a2) (le_max a2) (le_min ap0) (le_max ap0) (le_min v_1) (le_max v_1) (le_min v_18) (le_max v_18)) dX12_goesRound_125 (fun v_38 e_39 => ?_)
            refine y_lald C0 h kSM_25 rfl (by decide) (o38_110 l1 u1 l2 u2 al0 ah0 e_3 e_4 q_5 c_6 b_16 b_17 hn_15 e_20 e_21 q_22 c_23 e_37 e_39) (o38_111 l1 u1 l2 u2 al0 ah0 e_3 e_4 q_5 c_6 b_16 b_17 hn_15 e_20 e_21 q_22 c_23 e_37 e_39) dX12_goesRound_126 (fun w_40 e_41 => ?_)
            have g_42 := num_at (NumOk.fr (M := [0, 5, 8, 9, 10, 11, 12, 13, 18, 19]) hN (Fr.tr hF_11 (Fr.mono u_27 (by decide))) (by decide) (by decide)) (Eq.trans rfl (Eq.trans (Eq.trans (Fr.aI u_27 kSM_24 (by decide)) (Fr.aI hF_11 kSM_24 (by decide))) ea0)) (o38_112 l1 u1 l2 u2 al0 ah0 e_3 e_4 q_5 c_6 b_16 b_17 hn_15 e_20 e_21 q_22 c_23 e_37 e_39) (o38_113 l1 u1 l2 u2 al0 ah0 e_3 e_4 q_5 c_6 b_16 b_17 hn_15 e_20 e_21 q_22 c_23 e_37 e_39) e_41
            refine y_l2i C0 (o38_24 g_42.1 g_42.2) (o38_25 g_42.1 g_42.2) dX12_goesRound_127 (fun v_43 e_44 => ?_)
            refine lv_istore (lv' := [(8, .int v_43), (7, .int x7_9), (0, .ref (ad 0)), (1, .int a1), (2, .int a2), (3, .int a3), (4, .int a4), (5, .int a5), (6, .int a6)]) C0.1 C0.2.1 dX12_goesRound_128 hl (by decide) rfl (fun ls hl => ?_)
            refine lv_aload_n C0.1 C0.2.1 dX12_goesRound_130 rfl (lv_at hl 2 rfl) ?_
            refine lv_iload C0.1 C0.2.1 dX12_goesRound_131 (lv_at hl 6 rfl) ?_
            refine lv_iload C0.1 C0.2.1 dX12_goesRound_133 (lv_at hl 8 rfl) ?_
            refine lv_iload C0.1 C0.2.1 dX12_goesRound_135 (lv_at hl 0 rfl) ?_
            refine y_ci h (y_rV (As := [.int a4, .int a6, .int v_43]) (rest := []) C0 hZ h (c_X12_leg l G Z ad _ h.2 a4 a6 v_43 (o38_26 l4 u4) (o38_27 l4 u4) (o38_28 g_42.1 g_42.2 e_44) (o38_29 g_42.1 g_42.2 e_44) (J.pa hT hJ (Pa.tr (Pa.fr hF_11 (by decide)) (Pa.fr u_27 (by decide)))) (Laid.pa hLd (Pa.tr (Pa.fr hF_11 (by decide)) (Pa.fr u_27 (by decide))))) k_X12_leg q_1970 q_114 q_1968 kSM_0 rfl rfl rfl hl.1 rfl rfl (Nat.le_of_ble_eq_true rfl) dX12_goesRound_137 ⟨Nat.le_of_ble_eq_true rfl, Nat.le_of_ble_eq_true rfl⟩ ⟨Nat.le_of_ble_eq_true rfl, Nat.le_of_ble_eq_true rfl⟩) (fun r_48 H locs ws_45 h u_46 p_47 => ?_)
            refine lv_istore (lv' := [(9, .int r_48), (8, .int v_43), (7, .int x7_9), (0, .ref (ad 0)), (1, .int a1), (2, .int a2), (3, .int a3), (4, .int a4), (5, .int a5), (6, .int a6)]) C0.1 C0.2.1 dX12_goesRound_140 hl (by decide) rfl (fun ls hl => ?_)
            refine lv_iload C0.1 C0.2.1 dX12_goesRound_142 (lv_at hl 0 rfl) ?_
            refine y_c5 (n := 1000000000) C0 q_1887 (by decide) dX12_goesRound_144 (fun v_49 e_50 => ?_)
            refine y_icmp_ne (tgt := 153) C0 dX12_goesRound_147 (by decide) (fun c_51 => ?_) (fun c_51 => ?_)
            · -- 147
              refine lv_aload_n C0.1 C0.2.1 dX12_goesRound_153 rfl (lv_at hl 3 rfl) ?_
              refine ng_X12_taken C0 h kSM_0 q_1471 dX12_goesRound_154 ?_
              refine lv_iload_n C0.1 C0.2.1 dX12_goesRound_157 rfl (lv_at hl 5 rfl) ?_
              refine lv_iload C0.1 C0.2.1 dX12_goesRound_158 (lv_at hl 1 rfl) ?_
              refine y_iast C0 h kSM_18 rfl (by decide) (o38_114 l1 u1 l2 u2 al0 ah0 e_3 e_4 q_5 c_6 b_16 b_17 hn_15 e_20 e_21 q_22 c_23 e_37 e_39) (o38_115 l1 u1 l2 u2 al0 ah0 e_3 e_4 q_5 c_6 b_16 b_17 hn_15 e_20 e_21 q_22 c_23 e_37 e_39) (le_min v_43) (le_max v_43) dX12_goesRound_160 (fun H locs ws_52 h u_53 => ?_)
              have e_54 : aI ws_52 18 1 = v_43 := (congrArg (aI ws_52 18) (ix_c (c := 1) (o38_116 l1 u1 l2 u2 al0 ah0 e_3 e_4 q_5 c_6 b_16 b_17 hn_15 e_20 e_21 q_22 c_23 e_37 e_39))).symm.trans u_53.2.1
              refine lv_aload_n C0.1 C0.2.1 dX12_goesRound_161 rfl (lv_at hl 3 rfl) ?_
              refine lv_iload_n C0.1 C0.2.1 dX12_goesRound_162 rfl (lv_at hl 4 rfl) ?_
              refine lv_iload_n C0.1 C0.2.1 dX12_goesRound_163 rfl (lv_at hl 5 rfl) ?_
              refine y_c1 (n := 1) C0 (by decide) dX12_goesRound_164 (fun v_55 e_56 => ?_)
              refine y_add C0 (o38_117 l1 u1 l2 u2 al0 ah0 e_3 e_4 q_5 c_6 b_16 b_17 hn_15 e_20 e_21 q_22 c_23 e_37 e_39 e_56 (le_min a2) (le_max a2) (le_min v_55) (le_max v_55) (le_min a1) (le_max a1) (le_min ap0) (le_max ap0) (le_min v_1) (le_max v_1) (le_min x7_9) (le_max x7_9) (le_min v_18) (le_max v_18) (le_min v_36) (le_max v_36) (le_min v_38) (le_max v_38)) (o38_118 l1 u1 l2 u2 al0 ah0 e_3 e_4 q_5 c_6 b_16 b_17 hn_15 e_20 e_21 q_22 c_23 e_37 e_39 e_56 (le_min a2) (le_max a2) (le_min v_55) (le_max v_55) (le_min a1) (le_max a1) (le_min ap0) (le_max ap0) (le_min v_1) (le_max v_1) (le_min x7_9) (le_max x7_9) (le_min v_18) (le_max v_18) (le_min v_36) (le_max v_36) (le_min v_38) (le_max v_38)) dX12_goesRound_165 (fun v_57 e_58 => ?_)
              refine lv_iload_n C0.1 C0.2.1 dX12_goesRound_166 rfl (lv_at hl 6 rfl) ?_
              refine y_c1 (n := 1) C0 (by decide) dX12_goesRound_167 (fun v_59 e_60 => ?_)
              refine lv_iload C0.1 C0.2.1 dX12_goesRound_168 (lv_at hl 2 rfl) ?_
              refine y_ishlU C0 dX12_goesRound_170 (fun v_61 => ?_)
              refine y_iorU C0 dX12_goesRound_171 (fun v_62 => ?_)
              refine lv_aload_n C0.1 C0.2.1 dX12_goesRound_172 rfl (lv_at hl 3 rfl) ?_
              refine ng_X12_endsAt C0 h kSM_0 q_1466 dX12_goesRound_173 (fun v_63 e_64 e_65 e_66 => ?_)
              refine lv_iload C0.1 C0.2.1 dX12_goesRound_176 (lv_at hl 8 rfl) ?_
              refine lv_iload C0.1 C0.2.1 dX12_goesRound_178 (lv_at hl 0 rfl) ?_
              refine y_iaddU C0 dX12_goesRound_180 (fun v_67 => ?_)
              refine lv_iload C0.1 C0.2.1 dX12_goesRound_181 (lv_at hl 9 rfl) ?_
              refine lv_aload_n C0.1 C0.2.1 dX12_goesRound_183 rfl (lv_at hl 3 rfl) ?_
              refine ng_X12_legStreets C0 h kSM_0 q_1475 dX12_goesRound_184 (fun v_68 e_69 e_70 e_71 => ?_)
              refine y_iaddU C0 dX12_goesRound_187 (fun v_72 => ?_)
              refine y_cv h (y_rV (As := [.int a1, .int v_57, .int v_62, .int v_63, .int v_67, .int v_72]) (rest := []) C0 hZ h (c_X12_goesRound_2 l G Z ad _ h.2 a1 v_57 v_62 v_63 v_67 v_72 (o38_119 l1 u1 l2 u2 al0 ah0 e_3 e_4 q_5 c_6 b_16 b_17 hn_15 e_20 e_21 q_22 c_23 e_37 e_39 e_56 e_58) (o38_120 l1 u1 l2 u2 al0 ah0 e_3 e_4 q_5 c_6 b_16 b_17 hn_15 e_20 e_21 q_22 c_23 e_37 e_39 e_56 e_58) (o38_121 l1 u1 l2 u2 al0 ah0 e_3 e_4 q_5 c_6 b_16 b_17 hn_15 e_20 e_21 q_22 c_23 e_37 e_39 e_56 e_58) (o38_122 l1 u1 l2 u2 al0 ah0 e_3 e_4 q_5 c_6 b_16 b_17 hn_15 e_20 e_21 q_22 c_23 e_37 e_39 e_56 e_58) (o38_26 e_65 e_66) (o38_27 e_65 e_66) (fbd_lo (Eq.trans rfl (Eq.trans (Eq.trans (aI_of (u_53.1 24 (kd_ne (S := SM q0) kSM_24 kSM_18 (by decide)))) (Eq.trans (Fr.aI u_46 kSM_24 (by decide)) (Eq.trans (Fr.aI u_27 kSM_24 (by decide)) (Fr.aI hF_11 kSM_24 (by decide))))) ea0)) (o38_123 l1 u1 l2 u2 al0 ah0 e_3 e_4 q_5 c_6 b_16 b_17 hn_15 e_20 e_21 q_22 c_23 e_37 e_39 e_56 e_58)) (fbd_hi (Eq.trans rfl (Eq.trans (Eq.trans (aI_of (u_53.1 24 (kd_ne (S := SM q0) kSM_24 kSM_18 (by decide)))) (Eq.trans (Fr.aI u_46 kSM_24 (by decide)) (Eq.trans (Fr.aI u_27 kSM_24 (by decide)) (Fr.aI hF_11 kSM_24 (by decide))))) ea0)) (o38_124 l1 u1 l2 u2 al0 ah0 e_3 e_4 q_5 c_6 b_16 b_17 hn_15 e_20 e_21 q_22 c_23 e_37 e_39 e_56 e_58)) (NumOk.fr (M := [0, 5, 8, 9, 10, 11, 12, 13, 18, 19]) hN (Fr.tr (Fr.tr (Fr.tr hF_11 (Fr.mono u_27 (by decide))) (Fr.mono u_46 (by decide))) (Fr.up u_53.1 kSM_18 (by decide))) (by decide) (by decide)) (J.pa hT hJ (Pa.tr (Pa.tr (Pa.tr (Pa.fr hF_11 (by decide)) (Pa.fr u_27 (by decide))) (Pa.fr u_46 (by decide))) (Pa.ud u_53.1 (by decide)))) (Laid.pa hLd (Pa.tr (Pa.tr (Pa.tr (Pa.fr hF_11 (by decide)) (Pa.fr u_27 (by decide))) (Pa.fr u_46 (by decide))) (Pa.ud u_53.1 (by decide))))) k_X12_goesRound q_1966 q_113 q_1964 kSM_0 rfl rfl rfl hl.1 rfl rfl (Nat.le_of_ble_eq_true rfl) dX12_goesRound_188 ⟨Nat.le_of_ble_eq_true rfl, Nat.le_of_ble_eq_true rfl⟩ ⟨Nat.le_of_ble_eq_true rfl, Nat.le_of_ble_eq_true rfl⟩) (fun H locs ws_73 h u_74 p_75 => ?_)
              refine y_inc (kp := 2) (n := 1) (fun v_76 => [(7, .int v_76), (9, .int r_48), (8, .int v_43), (0, .ref (ad 0)), (1, .int a1), (2, .int a2), (3, .int a3), (4, .int a4), (5, .int a5), (6, .int a6)]) C0 hl rfl (by decide) (by decide) (fun _ => rfl) (o38_125 l1 u1 l2 u2 al0 ah0 e_3 e_4 q_5 c_6 b_16 b_17 hn_15 e_20 e_21 q_22 c_23 e_37 e_39 e_56 e_58 (le_min x7_9) (le_max x7_9) (le_min a1) (le_max a1) (le_min a2) (le_max a2) (le_min ap0) (le_max ap0) (le_min v_1) (le_max v_1) (le_min v_18) (le_max v_18) (le_min v_36) (le_max v_36) (le_min v_38) (le_max v_38) (le_min v_55) (le_max v_55) (le_min v_57) (le_max v_57)) (o38_126 l1 u1 l2 u2 al0 ah0 e_3 e_4 q_5 c_6 b_16 b_17 hn_15 e_20 e_21 q_22 c_23 e_37 e_39 e_56 e_58 (le_min x7_9) (le_max x7_9) (le_min a1) (le_max a1) (le_min a2) (le_max a2) (le_min ap0) (le_max ap0) (le_min v_1) (le_max v_1) (le_min v_18) (le_max v_18) (le_min v_36) (le_max v_36) (le_min v_38) (le_max v_38) (le_min v_55) (le_max v_55) (le_min v_57) (le_max v_57)) dX12_goesRound_191 (fun v_76 ls e_77 hl => ?_)
              refine lv_goto (tgt := 91) C0.1 C0.2.1 dX12_goesRound_194 (by decide) ?_
              exact ih_13 v_76 _ _ _ _ (o38_127 l1 u1 l2 u2 al0 ah0 e_3 e_4 q_5 c_6 b_16 b_17 hn_15 e_20 e_21 q_22 c_23 e_37 e_39 e_56 e_58 e_77) (o38_128 l1 u1 l2 u2 al0 ah0 e_3 e_4 q_5 c_6 b_16 b_17 hn_15 e_20 e_21 q_22 c_23 e_37 e_39 e_56 e_58 e_77) (o38_129 l1 u1 l2 u2 al0 ah0 e_3 e_4 q_5 c_6 b_16 b_17 hn_15 e_20 e_21 q_22 c_23 e_37 e_39 e_56 e_58 e_77) h (Fr.tr (Fr.tr (Fr.tr (Fr.tr hF_11 (Fr.mono u_27 (by decide))) (Fr.mono u_46 (by decide))) (Fr.up u_53.1 kSM_18 (by decide))) u_74) (lv_sub hl [0, 3, 4, 5, 6, 7, 8, 9] rfl)
            · -- 147
              refine lv_goto (tgt := 191) C0.1 C0.2.1 dX12_goesRound_150 (by decide) ?_
              refine y_inc (kp := 2) (n := 1) (fun v_78 => [(7, .int v_78), (9, .int r_48), (8, .int v_43), (0, .ref (ad 0)), (1, .int a1), (2, .int a2), (3, .int a3), (4, .int a4), (5, .int a5), (6, .int a6)]) C0 hl rfl (by decide) (by decide) (fun _ => rfl) (o38_130 l1 u1 l2 u2 al0 ah0 e_3 e_4 q_5 c_6 b_16 b_17 hn_15 e_20 e_21 q_22 c_23 e_37 e_39 (le_min x7_9) (le_max x7_9) (le_min a1) (le_max a1) (le_min a2) (le_max a2) (le_min ap0) (le_max ap0) (le_min v_1) (le_max v_1) (le_min v_18) (le_max v_18) (le_min v_36) (le_max v_36) (le_min v_38) (le_max v_38)) (o38_131 l1 u1 l2 u2 al0 ah0 e_3 e_4 q_5 c_6 b_16 b_17 hn_15 e_20 e_21 q_22 c_23 e_37 e_39 (le_min x7_9) (le_max x7_9) (le_min a1) (le_max a1) (le_min a2) (le_max a2) (le_min ap0) (le_max ap0) (le_min v_1) (le_max v_1) (le_min v_18) (le_max v_18) (le_min v_36) (le_max v_36) (le_min v_38) (le_max v_38)) dX12_goesRound_191 (fun v_78 ls e_79 hl => ?_)
              refine lv_goto (tgt := 91) C0.1 C0.2.1 dX12_goesRound_194 (by decide) ?_
              exact ih_13 v_78 _ _ _ _ (o38_132 l1 u1 l2 u2 al0 ah0 e_3 e_4 q_5 c_6 b_16 b_17 hn_15 e_20 e_21 q_22 c_23 e_37 e_39 e_79) (o38_133 l1 u1 l2 u2 al0 ah0 e_3 e_4 q_5 c_6 b_16 b_17 hn_15 e_20 e_21 q_22 c_23 e_37 e_39 e_79) (o38_134 l1 u1 l2 u2 al0 ah0 e_3 e_4 q_5 c_6 b_16 b_17 hn_15 e_20 e_21 q_22 c_23 e_37 e_39 e_79) h (Fr.tr (Fr.tr hF_11 (Fr.mono u_27 (by decide))) (Fr.mono u_46 (by decide))) (lv_sub hl [0, 3, 4, 5, 6, 7, 8, 9] rfl)
          · -- 109
            refine lv_goto (tgt := 191) C0.1 C0.2.1 dX12_goesRound_112 (by decide) ?_
            refine y_inc (kp := 0) (n := 1) (fun v_80 => [(7, .int v_80), (0, .ref (ad 0)), (1, .int a1), (2, .int a2), (3, .int a3), (4, .int a4), (5, .int a5), (6, .int a6)]) C0 hl rfl (by decide) (by decide) (fun _ => rfl) (o38_135 l2 u2 al0 ah0 e_3 e_4 q_5 c_6 b_16 b_17 hn_15 e_20 e_21 q_22 c_23 (le_min x7_9) (le_max x7_9) (le_min a2) (le_max a2) (le_min ap0) (le_max ap0) (le_min v_1) (le_max v_1) (le_min v_18) (le_max v_18)) (o38_136 l2 u2 al0 ah0 e_3 e_4 q_5 c_6 b_16 b_17 hn_15 e_20 e_21 q_22 c_23 (le_min x7_9) (le_max x7_9) (le_min a2) (le_max a2) (le_min ap0) (le_max ap0) (le_min v_1) (le_max v_1) (le_min v_18) (le_max v_18)) dX12_goesRound_191 (fun v_80 ls e_81 hl => ?_)
            refine lv_goto (tgt := 91) C0.1 C0.2.1 dX12_goesRound_194 (by decide) ?_
            exact ih_13 v_80 _ _ _ _ (o38_137 l2 u2 al0 ah0 e_3 e_4 q_5 c_6 b_16 b_17 hn_15 e_20 e_21 q_22 c_23 e_81) (o38_138 l2 u2 al0 ah0 e_3 e_4 q_5 c_6 b_16 b_17 hn_15 e_20 e_21 q_22 c_23 e_81) (o38_139 l2 u2 al0 ah0 e_3 e_4 q_5 c_6 b_16 b_17 hn_15 e_20 e_21 q_22 c_23 e_81) h (Fr.tr hF_11 (Fr.mono u_27 (by decide))) (lv_sub hl [0, 1, 2, 3, 4, 5, 6, 7] rfl)
    exact lp_12 ((4 - v_7.toInt + 1).toNat) v_7 _ _ _ _ (o38_12 e_8) (o38_13 e_8) (o38_14 e_8) h Fr.rf (lv_sub hl [0, 1, 2, 3, 4, 5, 6, 7] rfl)
  · -- 7
    refine lv_aload_n C0.1 C0.2.1 dX12_goesRound_10 rfl (lv_at hl 0 rfl) ?_
    refine ng_X12_bestLefts C0 h kSM_0 q_1473 dX12_goesRound_11 (fun v_82 e_83 e_84 e_85 => ?_)
    refine y_c1 (n := (-1)) C0 (by decide) dX12_goesRound_14 (fun v_86 e_87 => ?_)
    refine y_icmp_eq (tgt := 46) C0 dX12_goesRound_15 (by decide) (fun c_88 => ?_) (fun c_88 => ?_)
    · -- 15
      refine lv_aload_n C0.1 C0.2.1 dX12_goesRound_46 rfl (lv_at hl 0 rfl) ?_
      refine lv_iload C0.1 C0.2.1 dX12_goesRound_47 (lv_at hl 5 rfl) ?_
      refine np_X12_bestLefts C0 h kSM_0 q_1473 (le_min a5) (le_max a5) dX12_goesRound_49 (fun H locs ws_89 h u_90 => ?_)
      refine lv_aload_n C0.1 C0.2.1 dX12_goesRound_52 rfl (lv_at hl 0 rfl) ?_
      refine lv_iload C0.1 C0.2.1 dX12_goesRound_53 (lv_at hl 6 rfl) ?_
      refine np_X12_bestStreets C0 h kSM_0 q_1474 (le_min a6) (le_max a6) dX12_goesRound_55 (fun H locs ws_91 h u_92 => ?_)
      refine y_c1 (n := 0) C0 (by decide) dX12_goesRound_58 (fun v_93 e_94 => ?_)
      refine lv_istore (lv' := [(7, .int v_93), (0, .ref (ad 0)), (1, .int a1), (2, .int a2), (3, .int a3), (4, .int a4), (5, .int a5), (6, .int a6)]) C0.1 C0.2.1 dX12_goesRound_59 hl (by decide) rfl (fun ls hl => ?_)
      have lp_98 : ∀ (n_100 : Nat) (x7_95 : Int32) (H : Heap) (locs : List Loc) (ls : Array Slot) (ws_96 : va_W), 1 - x7_95.toInt < (n_100 : Int) → 0 ≤ x7_95.toInt → x7_95.toInt ≤ 1 → Wt G (SM tt) ad A s H locs ws_96 → Fr (SM tt) [19] ws_91 ws_96 → lv_has ls 10 [(7, .int x7_95), (0, .ref (ad 0)), (1, .int a1), (2, .int a2), (3, .int a3), (4, .int a4), (5, .int a5), (6, .int a6)] → W p l e (rmd 11 0 0) s m args below meth c H locs 0 0 Q (F0 m 61 ls []) := by
        intro n_100
        induction n_100 with
        | zero => intro x7_95 H locs ls ws_96 hn_101 b_102 b_103 h hF_97 hl; exact ((o38_140 b_102 b_103 hn_101)).elim
        | succ n_100 ih_99 =>
          intro x7_95 H locs ls ws_96 hn_101 b_102 b_103 h hF_97 hl
          refine lv_iload C0.1 C0.2.1 dX12_goesRound_61 (lv_at hl 0 rfl) ?_
          refine lv_iload_n C0.1 C0.2.1 dX12_goesRound_63 rfl (lv_at hl 3 rfl) ?_
          refine y_icmp_ge (tgt := 87) C0 dX12_goesRound_64 (by decide) (fun c_104 => ?_) (fun c_104 => ?_)
          · -- 64
            rw [hQ]
            exact y_vret C0 h (Fr.tr (Fr.tr (Fr.up u_90.1 kSM_0 (by decide)) (Fr.up u_92.1 kSM_0 (by decide))) (Fr.mono hF_97 (by decide))) trivial dX12_goesRound_87
          · -- 64
            refine lv_aload_n C0.1 C0.2.1 dX12_goesRound_67 rfl (lv_at hl 1 rfl) ?_
            refine ng_X12_bestRow C0 h kSM_0 q_1472 dX12_goesRound_68 ?_
            refine lv_iload C0.1 C0.2.1 dX12_goesRound_71 (lv_at hl 0 rfl) ?_
            refine lv_aload_n C0.1 C0.2.1 dX12_goesRound_73 rfl (lv_at hl 1 rfl) ?_
            refine ng_X12_taken C0 h kSM_0 q_1471 dX12_goesRound_74 ?_
            refine lv_iload C0.1 C0.2.1 dX12_goesRound_77 (lv_at hl 0 rfl) ?_
            refine y_iald C0 h kSM_18 rfl (by decide) (o38_141 l2 u2 al0 ah0 e_3 e_4 q_5 c_6 b_102 b_103 hn_101 c_104) (o38_142 l2 u2 al0 ah0 e_3 e_4 q_5 c_6 b_102 b_103 hn_101 c_104) dX12_goesRound_79 (fun v_105 e_106 e_107 e_108 => ?_)
            have e_109 : aI ws_96 18 0 = v_105 := (congrArg (aI ws_96 18) (ix_c (c := 0) (o38_143 l2 u2 al0 ah0 e_3 e_4 q_5 c_6 b_102 b_103 hn_101 c_104))).symm.trans e_106
            refine y_iast C0 h kSM_19 rfl (by decide) (o38_141 l2 u2 al0 ah0 e_3 e_4 q_5 c_6 b_102 b_103 hn_101 c_104) (o38_142 l2 u2 al0 ah0 e_3 e_4 q_5 c_6 b_102 b_103 hn_101 c_104) (le_min v_105) (le_max v_105) dX12_goesRound_80 (fun H locs ws_110 h u_111 => ?_)
            have e_112 : aI ws_110 19 0 = v_105 := (congrArg (aI ws_110 19) (ix_c (c := 0) (o38_143 l2 u2 al0 ah0 e_3 e_4 q_5 c_6 b_102 b_103 hn_101 c_104))).symm.trans u_111.2.1
            refine y_inc (kp := 0) (n := 1) (fun v_113 => [(7, .int v_113), (0, .ref (ad 0)), (1, .int a1), (2, .int a2), (3, .int a3), (4, .int a4), (5, .int a5), (6, .int a6)]) C0 hl rfl (by decide) (by decide) (fun _ => rfl) (o38_144 l2 u2 al0 ah0 e_3 e_4 q_5 c_6 b_102 b_103 hn_101 c_104 (le_min x7_95) (le_max x7_95) (le_min a2) (le_max a2) (le_min ap0) (le_max ap0) (le_min v_1) (le_max v_1)) (o38_145 l2 u2 al0 ah0 e_3 e_4 q_5 c_6 b_102 b_103 hn_101 c_104 (le_min x7_95) (le_max x7_95) (le_min a2) (le_max a2) (le_min ap0) (le_max ap0) (le_min v_1) (le_max v_1)) dX12_goesRound_81 (fun v_113 ls e_114 hl => ?_)
            refine lv_goto (tgt := 61) C0.1 C0.2.1 dX12_goesRound_84 (by decide) ?_
            exact ih_99 v_113 _ _ _ _ (o38_146 l2 u2 al0 ah0 e_3 e_4 q_5 c_6 b_102 b_103 hn_101 c_104 e_114) (o38_147 l2 u2 al0 ah0 e_3 e_4 q_5 c_6 b_102 b_103 hn_101 c_104 e_114) (o38_148 l2 u2 al0 ah0 e_3 e_4 q_5 c_6 b_102 b_103 hn_101 c_104 e_114) h (Fr.tr hF_97 (Fr.up u_111.1 kSM_19 (by decide))) (lv_sub hl [0, 1, 2, 3, 4, 5, 6, 7] rfl)
      exact lp_98 ((1 - v_93.toInt + 1).toNat) v_93 _ _ _ _ (o38_149 e_94) (o38_13 e_94) (o38_150 e_94) h Fr.rf (lv_sub hl [0, 1, 2, 3, 4, 5, 6, 7] rfl)
    · -- 15
      refine lv_iload C0.1 C0.2.1 dX12_goesRound_18 (lv_at hl 5 rfl) ?_
      refine lv_aload_n C0.1 C0.2.1 dX12_goesRound_20 rfl (lv_at hl 0 rfl) ?_
      refine ng_X12_bestLefts C0 h kSM_0 q_1473 dX12_goesRound_21 (fun v_115 e_116 e_117 e_118 => ?_)
      have q_119 : v_115.toInt = v_82.toInt := congrArg Int32.toInt (e_116.symm.trans (Eq.trans rfl e_83))
      refine y_icmp_gt (tgt := 45) C0 dX12_goesRound_24 (by decide) (fun c_120 => ?_) (fun c_120 => ?_)
      · -- 24
        rw [hQ]
        exact y_vret C0 h Fr.rf trivial dX12_goesRound_45
      · -- 24
        refine lv_iload C0.1 C0.2.1 dX12_goesRound_27 (lv_at hl 5 rfl) ?_
        refine lv_aload_n C0.1 C0.2.1 dX12_goesRound_29 rfl (lv_at hl 0 rfl) ?_
        refine ng_X12_bestLefts C0 h kSM_0 q_1473 dX12_goesRound_30 (fun v_121 e_122 e_123 e_124 => ?_)
        have q_125 : v_121.toInt = v_82.toInt := congrArg Int32.toInt (e_122.symm.trans (Eq.trans rfl e_83))
        refine y_icmp_ne (tgt := 46) C0 dX12_goesRound_33 (by decide) (fun c_126 => ?_) (fun c_126 => ?_)
        · -- 33
          refine lv_aload_n C0.1 C0.2.1 dX12_goesRound_46 rfl (lv_at hl 0 rfl) ?_
          refine lv_iload C0.1 C0.2.1 dX12_goesRound_47 (lv_at hl 5 rfl) ?_
          refine np_X12_bestLefts C0 h kSM_0 q_1473 (le_min a5) (le_max a5) dX12_goesRound_49 (fun H locs ws_127 h u_128 => ?_)
          refine lv_aload_n C0.1 C0.2.1 dX12_goesRound_52 rfl (lv_at hl 0 rfl) ?_
          refine lv_iload C0.1 C0.2.1 dX12_goesRound_53 (lv_at hl 6 rfl) ?_
          refine np_X12_bestStreets C0 h kSM_0 q_1474 (le_min a6) (le_max a6) dX12_goesRound_55 (fun H locs ws_129 h u_130 => ?_)
          refine y_c1 (n := 0) C0 (by decide) dX12_goesRound_58 (fun v_131 e_132 => ?_)
          refine lv_istore (lv' := [(7, .int v_131), (0, .ref (ad 0)), (1, .int a1), (2, .int a2), (3, .int a3), (4, .int a4), (5, .int a5), (6, .int a6)]) C0.1 C0.2.1 dX12_goesRound_59 hl (by decide) rfl (fun ls hl => ?_)
          have lp_136 : ∀ (n_138 : Nat) (x7_133 : Int32) (H : Heap) (locs : List Loc) (ls : Array Slot) (ws_134 : va_W), 1 - x7_133.toInt < (n_138 : Int) → 0 ≤ x7_133.toInt → x7_133.toInt ≤ 1 → Wt G (SM tt) ad A s H locs ws_134 → Fr (SM tt) [19] ws_129 ws_134 → lv_has ls 10 [(7, .int x7_133), (0, .ref (ad 0)), (1, .int a1), (2, .int a2), (3, .int a3), (4, .int a4), (5, .int a5), (6, .int a6)] → W p l e (rmd 11 0 0) s m args below meth c H locs 0 0 Q (F0 m 61 ls []) := by
            intro n_138
            induction n_138 with
            | zero => intro x7_133 H locs ls ws_134 hn_139 b_140 b_141 h hF_135 hl; exact ((o38_140 b_140 b_141 hn_139)).elim
            | succ n_138 ih_137 =>
              intro x7_133 H locs ls ws_134 hn_139 b_140 b_141 h hF_135 hl
              refine lv_iload C0.1 C0.2.1 dX12_goesRound_61 (lv_at hl 0 rfl) ?_
              refine lv_iload_n C0.1 C0.2.1 dX12_goesRound_63 rfl (lv_at hl 3 rfl) ?_
              refine y_icmp_ge (tgt := 87) C0 dX12_goesRound_64 (by decide) (fun c_142 => ?_) (fun c_142 => ?_)
              · -- 64
                rw [hQ]
                exact y_vret C0 h (Fr.tr (Fr.tr (Fr.up u_128.1 kSM_0 (by decide)) (Fr.up u_130.1 kSM_0 (by decide))) (Fr.mono hF_135 (by decide))) trivial dX12_goesRound_87
              · -- 64
                refine lv_aload_n C0.1 C0.2.1 dX12_goesRound_67 rfl (lv_at hl 1 rfl) ?_
                refine ng_X12_bestRow C0 h kSM_0 q_1472 dX12_goesRound_68 ?_
                refine lv_iload C0.1 C0.2.1 dX12_goesRound_71 (lv_at hl 0 rfl) ?_
                refine lv_aload_n C0.1 C0.2.1 dX12_goesRound_73 rfl (lv_at hl 1 rfl) ?_
                refine ng_X12_taken C0 h kSM_0 q_1471 dX12_goesRound_74 ?_
                refine lv_iload C0.1 C0.2.1 dX12_goesRound_77 (lv_at hl 0 rfl) ?_
                refine y_iald C0 h kSM_18 rfl (by decide) (o38_141 l2 u2 al0 ah0 e_3 e_4 q_5 c_6 b_140 b_141 hn_139 c_142) (o38_142 l2 u2 al0 ah0 e_3 e_4 q_5 c_6 b_140 b_141 hn_139 c_142) dX12_goesRound_79 (fun v_143 e_144 e_145 e_146 => ?_)
                have e_147 : aI ws_134 18 0 = v_143 := (congrArg (aI ws_134 18) (ix_c (c := 0) (o38_143 l2 u2 al0 ah0 e_3 e_4 q_5 c_6 b_140 b_141 hn_139 c_142))).symm.trans e_144
                refine y_iast C0 h kSM_19 rfl (by decide) (o38_141 l2 u2 al0 ah0 e_3 e_4 q_5 c_6 b_140 b_141 hn_139 c_142) (o38_142 l2 u2 al0 ah0 e_3 e_4 q_5 c_6 b_140 b_141 hn_139 c_142) (le_min v_143) (le_max v_143) dX12_goesRound_80 (fun H locs ws_148 h u_149 => ?_)
                have e_150 : aI ws_148 19 0 = v_143 := (congrArg (aI ws_148 19) (ix_c (c := 0) (o38_143 l2 u2 al0 ah0 e_3 e_4 q_5 c_6 b_140 b_141 hn_139 c_142))).symm.trans u_149.2.1
                refine y_inc (kp := 0) (n := 1) (fun v_151 => [(7, .int v_151), (0, .ref (ad 0)), (1, .int a1), (2, .int a2), (3, .int a3), (4, .int a4), (5, .int a5), (6, .int a6)]) C0 hl rfl (by decide) (by decide) (fun _ => rfl) (o38_144 l2 u2 al0 ah0 e_3 e_4 q_5 c_6 b_140 b_141 hn_139 c_142 (le_min x7_133) (le_max x7_133) (le_min a2) (le_max a2) (le_min ap0) (le_max ap0) (le_min v_1) (le_max v_1)) (o38_145 l2 u2 al0 ah0 e_3 e_4 q_5 c_6 b_140 b_141 hn_139 c_142 (le_min x7_133) (le_max x7_133) (le_min a2) (le_max a2) (le_min ap0) (le_max ap0) (le_min v_1) (le_max v_1)) dX12_goesRound_81 (fun v_151 ls e_152 hl => ?_)
                refine lv_goto (tgt := 61) C0.1 C0.2.1 dX12_goesRound_84 (by decide) ?_
                exact ih_137 v_151 _ _ _ _ (o38_146 l2 u2 al0 ah0 e_3 e_4 q_5 c_6 b_140 b_141 hn_139 c_142 e_152) (o38_147 l2 u2 al0 ah0 e_3 e_4 q_5 c_6 b_140 b_141 hn_139 c_142 e_152) (o38_148 l2 u2 al0 ah0 e_3 e_4 q_5 c_6 b_140 b_141 hn_139 c_142 e_152) h (Fr.tr hF_135 (Fr.up u_149.1 kSM_19 (by decide))) (lv_sub hl [0, 1, 2, 3, 4, 5, 6, 7] rfl)
          exact lp_136 ((1 - v_131.toInt + 1).toNat) v_131 _ _ _ _ (o38_149 e_132) (o38_13 e_132) (o38_150 e_132) h Fr.rf (lv_sub hl [0, 1, 2, 3, 4, 5, 6, 7] rfl)
        · -- 33
          refine lv_iload C0.1 C0.2.1 dX12_goesRound_36 (lv_at hl 6 rfl) ?_
          refine lv_aload_n C0.1 C0.2.1 dX12_goesRound_38 rfl (lv_at hl 0 rfl) ?_
          refine ng_X12_bestStreets C0 h kSM_0 q_1474 dX12_goesRound_39 (fun v_153 e_154 e_155 e_156 => ?_)
          refine y_icmp_lt (tgt := 46) C0 dX12_goesRound_42 (by decide) (fun c_157 => ?_) (fun c_157 => ?_)
          · -- 42
            refine lv_aload_n C0.1 C0.2.1 dX12_goesRound_46 rfl (lv_at hl 0 rfl) ?_
            refine lv_iload C0.1 C0.2.1 dX12_goesRound_47 (lv_at hl 5 rfl) ?_
            refine np_X12_bestLefts C0 h kSM_0 q_1473 (le_min a5) (le_max a5) dX12_goesRound_49 (fun H locs ws_158 h u_159 => ?_)
            refine lv_aload_n C0.1 C0.2.1 dX12_goesRound_52 rfl (lv_at hl 0 rfl) ?_
            refine lv_iload C0.1 C0.2.1 dX12_goesRound_53 (lv_at hl 6 rfl) ?_
            refine np_X12_bestStreets C0 h kSM_0 q_1474 (le_min a6) (le_max a6) dX12_goesRound_55 (fun H locs ws_160 h u_161 => ?_)
            refine y_c1 (n := 0) C0 (by decide) dX12_goesRound_58 (fun v_162 e_163 => ?_)
            refine lv_istore (lv' := [(7, .int v_162), (0, .ref (ad 0)), (1, .int a1), (2, .int a2), (3, .int a3), (4, .int a4), (5, .int a5), (6, .int a6)]) C0.1 C0.2.1 dX12_goesRound_59 hl (by decide) rfl (fun ls hl => ?_)
            have lp_167 : ∀ (n_169 : Nat) (x7_164 : Int32) (H : Heap) (locs : List Loc) (ls : Array Slot) (ws_165 : va_W), 1 - x7_164.toInt < (n_169 : Int) → 0 ≤ x7_164.toInt → x7_164.toInt ≤ 1 → Wt G (SM tt) ad A s H locs ws_165 → Fr (SM tt) [19] ws_160 ws_165 → lv_has ls 10 [(7, .int x7_164), (0, .ref (ad 0)), (1, .int a1), (2, .int a2), (3, .int a3), (4, .int a4), (5, .int a5), (6, .int a6)] → W p l e (rmd 11 0 0) s m args below meth c H locs 0 0 Q (F0 m 61 ls []) := by
              intro n_169
              induction n_169 with
              | zero => intro x7_164 H locs ls ws_165 hn_170 b_171 b_172 h hF_166 hl; exact ((o38_140 b_171 b_172 hn_170)).elim
              | succ n_169 ih_168 =>
                intro x7_164 H locs ls ws_165 hn_170 b_171 b_172 h hF_166 hl
                refine lv_iload C0.1 C0.2.1 dX12_goesRound_61 (lv_at hl 0 rfl) ?_
                refine lv_iload_n C0.1 C0.2.1 dX12_goesRound_63 rfl (lv_at hl 3 rfl) ?_
                refine y_icmp_ge (tgt := 87) C0 dX12_goesRound_64 (by decide) (fun c_173 => ?_) (fun c_173 => ?_)
                · -- 64
                  rw [hQ]
                  exact y_vret C0 h (Fr.tr (Fr.tr (Fr.up u_159.1 kSM_0 (by decide)) (Fr.up u_161.1 kSM_0 (by decide))) (Fr.mono hF_166 (by decide))) trivial dX12_goesRound_87
                · -- 64
                  refine lv_aload_n C0.1 C0.2.1 dX12_goesRound_67 rfl (lv_at hl 1 rfl) ?_
                  refine ng_X12_bestRow C0 h kSM_0 q_1472 dX12_goesRound_68 ?_
                  refine lv_iload C0.1 C0.2.1 dX12_goesRound_71 (lv_at hl 0 rfl) ?_
                  refine lv_aload_n C0.1 C0.2.1 dX12_goesRound_73 rfl (lv_at hl 1 rfl) ?_
                  refine ng_X12_taken C0 h kSM_0 q_1471 dX12_goesRound_74 ?_
                  refine lv_iload C0.1 C0.2.1 dX12_goesRound_77 (lv_at hl 0 rfl) ?_
                  refine y_iald C0 h kSM_18 rfl (by decide) (o38_141 l2 u2 al0 ah0 e_3 e_4 q_5 c_6 b_171 b_172 hn_170 c_173) (o38_142 l2 u2 al0 ah0 e_3 e_4 q_5 c_6 b_171 b_172 hn_170 c_173) dX12_goesRound_79 (fun v_174 e_175 e_176 e_177 => ?_)
                  have e_178 : aI ws_165 18 0 = v_174 := (congrArg (aI ws_165 18) (ix_c (c := 0) (o38_143 l2 u2 al0 ah0 e_3 e_4 q_5 c_6 b_171 b_172 hn_170 c_173))).symm.trans e_175
                  refine y_iast C0 h kSM_19 rfl (by decide) (o38_141 l2 u2 al0 ah0 e_3 e_4 q_5 c_6 b_171 b_172 hn_170 c_173) (o38_142 l2 u2 al0 ah0 e_3 e_4 q_5 c_6 b_171 b_172 hn_170 c_173) (le_min v_174) (le_max v_174) dX12_goesRound_80 (fun H locs ws_179 h u_180 => ?_)
                  have e_181 : aI ws_179 19 0 = v_174 := (congrArg (aI ws_179 19) (ix_c (c := 0) (o38_143 l2 u2 al0 ah0 e_3 e_4 q_5 c_6 b_171 b_172 hn_170 c_173))).symm.trans u_180.2.1
                  refine y_inc (kp := 0) (n := 1) (fun v_182 => [(7, .int v_182), (0, .ref (ad 0)), (1, .int a1), (2, .int a2), (3, .int a3), (4, .int a4), (5, .int a5), (6, .int a6)]) C0 hl rfl (by decide) (by decide) (fun _ => rfl) (o38_144 l2 u2 al0 ah0 e_3 e_4 q_5 c_6 b_171 b_172 hn_170 c_173 (le_min x7_164) (le_max x7_164) (le_min a2) (le_max a2) (le_min ap0) (le_max ap0) (le_min v_1) (le_max v_1)) (o38_145 l2 u2 al0 ah0 e_3 e_4 q_5 c_6 b_171 b_172 hn_170 c_173 (le_min x7_164) (le_max x7_164) (le_min a2) (le_max a2) (le_min ap0) (le_max ap0) (le_min v_1) (le_max v_1)) dX12_goesRound_81 (fun v_182 ls e_183 hl => ?_)
                  refine lv_goto (tgt := 61) C0.1 C0.2.1 dX12_goesRound_84 (by decide) ?_
                  exact ih_168 v_182 _ _ _ _ (o38_146 l2 u2 al0 ah0 e_3 e_4 q_5 c_6 b_171 b_172 hn_170 c_173 e_183) (o38_147 l2 u2 al0 ah0 e_3 e_4 q_5 c_6 b_171 b_172 hn_170 c_173 e_183) (o38_148 l2 u2 al0 ah0 e_3 e_4 q_5 c_6 b_171 b_172 hn_170 c_173 e_183) h (Fr.tr hF_166 (Fr.up u_180.1 kSM_19 (by decide))) (lv_sub hl [0, 1, 2, 3, 4, 5, 6, 7] rfl)
            exact lp_167 ((1 - v_162.toInt + 1).toNat) v_162 _ _ _ _ (o38_149 e_163) (o38_13 e_163) (o38_150 e_163) h Fr.rf (lv_sub hl [0, 1, 2, 3, 4, 5, 6, 7] rfl)
          · -- 42
            rw [hQ]
            exact y_vret C0 h Fr.rf trivial dX12_goesRound_45
set_option maxHeartbeats 4000000 in
set_option maxRecDepth 100000 in
theorem c_X12_goesRound_0 (l : Launch) (G : GG) (Z : RZ) (ad : Nat → Nat) (ws0 : va_W) (hT : Ty G (SM tt) ad ws0) (a1 : Int32) (a2 : Int32) (a3 : Int32) (a4 : Int32) (a5 : Int32) (a6 : Int32) (l1 : 0 ≤ a1.toInt) (u1 : a1.toInt ≤ 3) (l2 : 0 ≤ a2.toInt) (u2 : a2.toInt ≤ 0) (l4 : 0 ≤ a4.toInt) (u4 : a4.toInt ≤ 99) (al0 : 1 ≤ (aI ws0 24 a1.toInt.toNat).toInt) (ah0 : (aI ws0 24 a1.toInt.toNat).toInt ≤ 4) (hN : NumOk ws0 a1) (hJ : J ws0) (hLd : Laid ws0) : Mq l yX12_goesRound cX12_goesRound 10 none 12 G Z [.ref (ad 0), .int a1, .int a2, .int a3, .int a4, .int a5, .int a6] ws0 (PV G (SM tt) ad [0, 5, 8, 9, 10, 11, 12, 13, 18, 19] ws0 (fun u => True)) := by
  refine Mq.start (by decide) (Nat.le_of_ble_eq_true rfl) ?_
  intro p e s m below meth c A ls C0 hZ h hl
  have hl : lv_has ls 10 [(0, .ref (ad 0)), (1, .int a1), (2, .int a2), (3, .int a3), (4, .int a4), (5, .int a5), (6, .int a6)] := hl
  have h : Wt G (SM tt) ad A s s.heap [] ws0 := ⟨h, hT⟩
  obtain ⟨args, hargs⟩ : ∃ z, z = ([.ref (ad 0), .int a1, .int a2, .int a3, .int a4, .int a5, .int a6] : List Value).toArray := ⟨_, rfl⟩
  rw [← hargs] at C0 ⊢
  have C0 : Cx p s m args meth c RX12 cX12_goesRound 10 none := C0
  obtain ⟨Q, hQ⟩ : ∃ z, z = MQ below ((PV G (SM tt) ad [0, 5, 8, 9, 10, 11, 12, 13, 18, 19] ws0 (fun u => True)) A) args s 0 0 A := ⟨_, rfl⟩
  rw [← hQ]
  obtain ⟨ap0, ea0⟩ : ∃ v, aI ws0 24 a1.toInt.toNat = v := ⟨_, rfl⟩
  rw [ea0] at al0 ah0
  refine lv_iload_n C0.1 C0.2.1 dX12_goesRound_0 rfl (lv_at hl 2 rfl) ?_
  refine lv_aload_n C0.1 C0.2.1 dX12_goesRound_1 rfl (lv_at hl 0 rfl) ?_
  refine ng_X12_rowMany C0 h kSM_0 q_1480 dX12_goesRound_2 ?_
  refine lv_iload_n C0.1 C0.2.1 dX12_goesRound_5 rfl (lv_at hl 1 rfl) ?_
  refine y_iald C0 h kSM_24 rfl (by decide) (o38_1 l1 u1) (o38_2 l1 u1) dX12_goesRound_6 (fun v_1 e_2 e_3 e_4 => ?_)
  have q_5 : v_1.toInt = ap0.toInt := congrArg Int32.toInt (e_2.symm.trans (Eq.trans rfl (Eq.trans rfl ea0)))
  refine y_icmp_ne (tgt := 88) C0 dX12_goesRound_7 (by decide) (fun c_6 => ?_) (fun c_6 => ((o38_151 l2 u2 al0 ah0 e_3 e_4 q_5 c_6)).elim)
  refine y_c1 (n := 0) C0 (by decide) dX12_goesRound_88 (fun v_7 e_8 => ?_)
  refine lv_istore (lv' := [(7, .int v_7), (0, .ref (ad 0)), (1, .int a1), (2, .int a2), (3, .int a3), (4, .int a4), (5, .int a5), (6, .int a6)]) C0.1 C0.2.1 dX12_goesRound_89 hl (by decide) rfl (fun ls hl => ?_)
  have lp_12 : ∀ (n_14 : Nat) (x7_9 : Int32) (H : Heap) (locs : List Loc) (ls : Array Slot) (ws_10 : va_W), 4 - x7_9.toInt < (n_14 : Int) → 0 ≤ x7_9.toInt → x7_9.toInt ≤ 4 → Wt G (SM tt) ad A s H locs ws_10 → Fr (SM tt) [0, 5, 8, 9, 10, 11, 12, 13, 18, 19] ws0 ws_10 → lv_has ls 10 [(7, .int x7_9), (0, .ref (ad 0)), (1, .int a1), (2, .int a2), (3, .int a3), (4, .int a4), (5, .int a5), (6, .int a6)] → W p l e (rmd 12 0 0) s m args below meth c H locs 0 0 Q (F0 m 91 ls []) := by
    intro n_14
    induction n_14 with
    | zero => intro x7_9 H locs ls ws_10 hn_15 b_16 b_17 h hF_11 hl; exact ((o38_4 b_16 b_17 hn_15)).elim
    | succ n_14 ih_13 =>
      intro x7_9 H locs ls ws_10 hn_15 b_16 b_17 h hF_11 hl
      refine lv_iload C0.1 C0.2.1 dX12_goesRound_91 (lv_at hl 0 rfl) ?_
      refine lv_aload_n C0.1 C0.2.1 dX12_goesRound_93 rfl (lv_at hl 1 rfl) ?_
      refine ng_X12_rowMany C0 h kSM_0 q_1480 dX12_goesRound_94 ?_
      refine lv_iload_n C0.1 C0.2.1 dX12_goesRound_97 rfl (lv_at hl 2 rfl) ?_
      refine y_iald C0 h kSM_24 rfl (by decide) (o38_1 l1 u1) (o38_2 l1 u1) dX12_goesRound_98 (fun v_18 e_19 e_20 e_21 => ?_)
      have q_22 : v_18.toInt = ap0.toInt := congrArg Int32.toInt (e_19.symm.trans (Eq.trans rfl (Eq.trans (Fr.aI hF_11 kSM_24 (by decide)) ea0)))
      refine y_icmp_ge (tgt := 197) C0 dX12_goesRound_99 (by decide) (fun c_23 => ?_) (fun c_23 => ?_)
      · -- 99
        rw [hQ]
        exact y_vret C0 h hF_11 trivial dX12_goesRound_197
      · -- 99
        refine lv_iload_n C0.1 C0.2.1 dX12_goesRound_102 rfl (lv_at hl 4 rfl) ?_
        refine y_i2l C0 dX12_goesRound_103 (fun w_24 e_25 => ?_)
        refine lv_iload C0.1 C0.2.1 dX12_goesRound_104 (lv_at hl 0 rfl) ?_
        refine y_ci h (y_rS (As := [.long w_24, .int x7_9]) (rest := []) C0 hZ h (c_X12_isIn l G Z ad _ h.2 w_24 x7_9) k_X12_isIn q_1716 q_1715 hl.1 rfl rfl (Nat.le_of_ble_eq_true rfl) dX12_goesRound_106 ⟨Nat.le_of_ble_eq_true rfl, Nat.le_of_ble_eq_true rfl⟩ ⟨Nat.le_of_ble_eq_true rfl, Nat.le_of_ble_eq_true rfl⟩) (fun r_29 H locs ws_26 h u_27 p_28 => ?_)
        obtain ⟨e_30, e_31, e_32⟩ := p_28
        refine y_if_eq (tgt := 115) C0 dX12_goesRound_109 (by decide) (fun c_33 => ?_) (fun c_33 => ?_)
        · -- 109
          refine lv_aload_n C0.1 C0.2.1 dX12_goesRound_115 rfl (lv_at hl 1 rfl) ?_
          refine ng_X12_numbers C0 h kSM_0 q_1481 dX12_goesRound_116 ?_
          refine y_c2 (n := 40) C0 (by decide) dX12_goesRound_119 (fun v_34 e_35 => ?_)
          refine lv_iload_n C0.1 C0.2.1 dX12_goesRound_121 rfl (lv_at hl 2 rfl) ?_
          refine y_cmul (n := 40) C0 (o38_15 e_35) (o38_16 l1 u1 (le_min a1) (le_max a1)) (o38_17 l1 u1 (le_min a1) (le_max a1)) dX12_goesRound_122 (fun v_36 e_37 => ?_)
          refine lv_iload C0.1 C0.2.1 dX12_goesRound_123 (lv_at hl 0 rfl) ?_
          refine y_add C0 (o38_152 l1 u1 l2 u2 al0 ah0 e_3 e_4 q_5 c_6 b_16 b_17 hn_15 e_20 e_21 q_22 c_23 e_37 (le_min v_36) (le_max v_36) (le_min x7_9) (le_max x7_9) (le_min a1) (le_max a1) (le_min a2) (le_max a2) (le_min ap0) (le_max ap0) (le_min v_1) (le_max v_1) (le_min v_18) (le_max v_18)) (o38_153 l1 u1 l2 u2 al0 ah0 e_3 e_4 q_5 c_6 b_16 b_17 hn_15 e_20 e_21 q_22 c_23 e_37 (le_min v_36) (le_max v_36) (le_min x7_9) (le_max x7_9) (le_min a1) (le_max a1) (le_min a2) (le_max a2) (le_min ap0) (le_max ap0) (le_min v_1) (le_max v_1) (le_min v_18) (le_max v_18)) dX12_goesRound_125 (fun v_38 e_39 => ?_)
          refine y_lald C0 h kSM_25 rfl (by decide) (o38_154 l1 u1 l2 u2 al0 ah0 e_3 e_4 q_5 c_6 b_16 b_17 hn_15 e_20 e_21 q_22 c_23 e_37 e_39) (o38_155 l1 u1 l2 u2 al0 ah0 e_3 e_4 q_5 c_6 b_16 b_17 hn_15 e_20 e_21 q_22 c_23 e_37 e_39) dX12_goesRound_126 (fun w_40 e_41 => ?_)
          have g_42 := num_at (NumOk.fr (M := [0, 5, 8, 9, 10, 11, 12, 13, 18, 19]) hN (Fr.tr hF_11 (Fr.mono u_27 (by decide))) (by decide) (by decide)) (Eq.trans rfl (Eq.trans (Eq.trans (Fr.aI u_27 kSM_24 (by decide)) (Fr.aI hF_11 kSM_24 (by decide))) ea0)) (o38_156 l1 u1 l2 u2 al0 ah0 e_3 e_4 q_5 c_6 b_16 b_17 hn_15 e_20 e_21 q_22 c_23 e_37 e_39) (o38_157 l1 u1 l2 u2 al0 ah0 e_3 e_4 q_5 c_6 b_16 b_17 hn_15 e_20 e_21 q_22 c_23 e_37 e_39) e_41
          refine y_l2i C0 (o38_24 g_42.1 g_42.2) (o38_25 g_42.1 g_42.2) dX12_goesRound_127 (fun v_43 e_44 => ?_)
          refine lv_istore (lv' := [(8, .int v_43), (7, .int x7_9), (0, .ref (ad 0)), (1, .int a1), (2, .int a2), (3, .int a3), (4, .int a4), (5, .int a5), (6, .int a6)]) C0.1 C0.2.1 dX12_goesRound_128 hl (by decide) rfl (fun ls hl => ?_)
          refine lv_aload_n C0.1 C0.2.1 dX12_goesRound_130 rfl (lv_at hl 2 rfl) ?_
          refine lv_iload C0.1 C0.2.1 dX12_goesRound_131 (lv_at hl 6 rfl) ?_
          refine lv_iload C0.1 C0.2.1 dX12_goesRound_133 (lv_at hl 8 rfl) ?_
          refine lv_iload C0.1 C0.2.1 dX12_goesRound_135 (lv_at hl 0 rfl) ?_
          refine y_ci h (y_rV (As := [.int a4, .int a6, .int v_43]) (rest := []) C0 hZ h (c_X12_leg l G Z ad _ h.2 a4 a6 v_43 (o38_26 l4 u4) (o38_27 l4 u4) (o38_28 g_42.1 g_42.2 e_44) (o38_29 g_42.1 g_42.2 e_44) (J.pa hT hJ (Pa.tr (Pa.fr hF_11 (by decide)) (Pa.fr u_27 (by decide)))) (Laid.pa hLd (Pa.tr (Pa.fr hF_11 (by decide)) (Pa.fr u_27 (by decide))))) k_X12_leg q_1970 q_114 q_1968 kSM_0 rfl rfl rfl hl.1 rfl rfl (Nat.le_of_ble_eq_true rfl) dX12_goesRound_137 ⟨Nat.le_of_ble_eq_true rfl, Nat.le_of_ble_eq_true rfl⟩ ⟨Nat.le_of_ble_eq_true rfl, Nat.le_of_ble_eq_true rfl⟩) (fun r_48 H locs ws_45 h u_46 p_47 => ?_)
          refine lv_istore (lv' := [(9, .int r_48), (8, .int v_43), (7, .int x7_9), (0, .ref (ad 0)), (1, .int a1), (2, .int a2), (3, .int a3), (4, .int a4), (5, .int a5), (6, .int a6)]) C0.1 C0.2.1 dX12_goesRound_140 hl (by decide) rfl (fun ls hl => ?_)
          refine lv_iload C0.1 C0.2.1 dX12_goesRound_142 (lv_at hl 0 rfl) ?_
          refine y_c5 (n := 1000000000) C0 q_1887 (by decide) dX12_goesRound_144 (fun v_49 e_50 => ?_)
          refine y_icmp_ne (tgt := 153) C0 dX12_goesRound_147 (by decide) (fun c_51 => ?_) (fun c_51 => ?_)
          · -- 147
            refine lv_aload_n C0.1 C0.2.1 dX12_goesRound_153 rfl (lv_at hl 3 rfl) ?_
            refine ng_X12_taken C0 h kSM_0 q_1471 dX12_goesRound_154 ?_
            refine lv_iload_n C0.1 C0.2.1 dX12_goesRound_157 rfl (lv_at hl 5 rfl) ?_
            refine lv_iload C0.1 C0.2.1 dX12_goesRound_158 (lv_at hl 1 rfl) ?_
            refine y_iast C0 h kSM_18 rfl (by decide) (o38_158 l1 u1 l2 u2 al0 ah0 e_3 e_4 q_5 c_6 b_16 b_17 hn_15 e_20 e_21 q_22 c_23 e_37 e_39) (o38_159 l1 u1 l2 u2 al0 ah0 e_3 e_4 q_5 c_6 b_16 b_17 hn_15 e_20 e_21 q_22 c_23 e_37 e_39) (le_min v_43) (le_max v_43) dX12_goesRound_160 (fun H locs ws_52 h u_53 => ?_)
            have e_54 : aI ws_52 18 0 = v_43 := (congrArg (aI ws_52 18) (ix_c (c := 0) (o38_160 l1 u1 l2 u2 al0 ah0 e_3 e_4 q_5 c_6 b_16 b_17 hn_15 e_20 e_21 q_22 c_23 e_37 e_39))).symm.trans u_53.2.1
            refine lv_aload_n C0.1 C0.2.1 dX12_goesRound_161 rfl (lv_at hl 3 rfl) ?_
            refine lv_iload_n C0.1 C0.2.1 dX12_goesRound_162 rfl (lv_at hl 4 rfl) ?_
            refine lv_iload_n C0.1 C0.2.1 dX12_goesRound_163 rfl (lv_at hl 5 rfl) ?_
            refine y_c1 (n := 1) C0 (by decide) dX12_goesRound_164 (fun v_55 e_56 => ?_)
            refine y_add C0 (o38_161 l1 u1 l2 u2 al0 ah0 e_3 e_4 q_5 c_6 b_16 b_17 hn_15 e_20 e_21 q_22 c_23 e_37 e_39 e_56 (le_min a2) (le_max a2) (le_min v_55) (le_max v_55) (le_min a1) (le_max a1) (le_min ap0) (le_max ap0) (le_min v_1) (le_max v_1) (le_min x7_9) (le_max x7_9) (le_min v_18) (le_max v_18) (le_min v_36) (le_max v_36) (le_min v_38) (le_max v_38)) (o38_162 l1 u1 l2 u2 al0 ah0 e_3 e_4 q_5 c_6 b_16 b_17 hn_15 e_20 e_21 q_22 c_23 e_37 e_39 e_56 (le_min a2) (le_max a2) (le_min v_55) (le_max v_55) (le_min a1) (le_max a1) (le_min ap0) (le_max ap0) (le_min v_1) (le_max v_1) (le_min x7_9) (le_max x7_9) (le_min v_18) (le_max v_18) (le_min v_36) (le_max v_36) (le_min v_38) (le_max v_38)) dX12_goesRound_165 (fun v_57 e_58 => ?_)
            refine lv_iload_n C0.1 C0.2.1 dX12_goesRound_166 rfl (lv_at hl 6 rfl) ?_
            refine y_c1 (n := 1) C0 (by decide) dX12_goesRound_167 (fun v_59 e_60 => ?_)
            refine lv_iload C0.1 C0.2.1 dX12_goesRound_168 (lv_at hl 2 rfl) ?_
            refine y_ishlU C0 dX12_goesRound_170 (fun v_61 => ?_)
            refine y_iorU C0 dX12_goesRound_171 (fun v_62 => ?_)
            refine lv_aload_n C0.1 C0.2.1 dX12_goesRound_172 rfl (lv_at hl 3 rfl) ?_
            refine ng_X12_endsAt C0 h kSM_0 q_1466 dX12_goesRound_173 (fun v_63 e_64 e_65 e_66 => ?_)
            refine lv_iload C0.1 C0.2.1 dX12_goesRound_176 (lv_at hl 8 rfl) ?_
            refine lv_iload C0.1 C0.2.1 dX12_goesRound_178 (lv_at hl 0 rfl) ?_
            refine y_iaddU C0 dX12_goesRound_180 (fun v_67 => ?_)
            refine lv_iload C0.1 C0.2.1 dX12_goesRound_181 (lv_at hl 9 rfl) ?_
            refine lv_aload_n C0.1 C0.2.1 dX12_goesRound_183 rfl (lv_at hl 3 rfl) ?_
            refine ng_X12_legStreets C0 h kSM_0 q_1475 dX12_goesRound_184 (fun v_68 e_69 e_70 e_71 => ?_)
            refine y_iaddU C0 dX12_goesRound_187 (fun v_72 => ?_)
            refine y_cv h (y_rV (As := [.int a1, .int v_57, .int v_62, .int v_63, .int v_67, .int v_72]) (rest := []) C0 hZ h (c_X12_goesRound_1 l G Z ad _ h.2 a1 v_57 v_62 v_63 v_67 v_72 (o38_163 l1 u1 l2 u2 al0 ah0 e_3 e_4 q_5 c_6 b_16 b_17 hn_15 e_20 e_21 q_22 c_23 e_37 e_39 e_56 e_58) (o38_164 l1 u1 l2 u2 al0 ah0 e_3 e_4 q_5 c_6 b_16 b_17 hn_15 e_20 e_21 q_22 c_23 e_37 e_39 e_56 e_58) (o38_165 l1 u1 l2 u2 al0 ah0 e_3 e_4 q_5 c_6 b_16 b_17 hn_15 e_20 e_21 q_22 c_23 e_37 e_39 e_56 e_58) (o38_166 l1 u1 l2 u2 al0 ah0 e_3 e_4 q_5 c_6 b_16 b_17 hn_15 e_20 e_21 q_22 c_23 e_37 e_39 e_56 e_58) (o38_26 e_65 e_66) (o38_27 e_65 e_66) (fbd_lo (Eq.trans rfl (Eq.trans (Eq.trans (aI_of (u_53.1 24 (kd_ne (S := SM q0) kSM_24 kSM_18 (by decide)))) (Eq.trans (Fr.aI u_46 kSM_24 (by decide)) (Eq.trans (Fr.aI u_27 kSM_24 (by decide)) (Fr.aI hF_11 kSM_24 (by decide))))) ea0)) (o38_167 l1 u1 l2 u2 al0 ah0 e_3 e_4 q_5 c_6 b_16 b_17 hn_15 e_20 e_21 q_22 c_23 e_37 e_39 e_56 e_58)) (fbd_hi (Eq.trans rfl (Eq.trans (Eq.trans (aI_of (u_53.1 24 (kd_ne (S := SM q0) kSM_24 kSM_18 (by decide)))) (Eq.trans (Fr.aI u_46 kSM_24 (by decide)) (Eq.trans (Fr.aI u_27 kSM_24 (by decide)) (Fr.aI hF_11 kSM_24 (by decide))))) ea0)) (o38_168 l1 u1 l2 u2 al0 ah0 e_3 e_4 q_5 c_6 b_16 b_17 hn_15 e_20 e_21 q_22 c_23 e_37 e_39 e_56 e_58)) (NumOk.fr (M := [0, 5, 8, 9, 10, 11, 12, 13, 18, 19]) hN (Fr.tr (Fr.tr (Fr.tr hF_11 (Fr.mono u_27 (by decide))) (Fr.mono u_46 (by decide))) (Fr.up u_53.1 kSM_18 (by decide))) (by decide) (by decide)) (J.pa hT hJ (Pa.tr (Pa.tr (Pa.tr (Pa.fr hF_11 (by decide)) (Pa.fr u_27 (by decide))) (Pa.fr u_46 (by decide))) (Pa.ud u_53.1 (by decide)))) (Laid.pa hLd (Pa.tr (Pa.tr (Pa.tr (Pa.fr hF_11 (by decide)) (Pa.fr u_27 (by decide))) (Pa.fr u_46 (by decide))) (Pa.ud u_53.1 (by decide))))) k_X12_goesRound q_1966 q_113 q_1964 kSM_0 rfl rfl rfl hl.1 rfl rfl (Nat.le_of_ble_eq_true rfl) dX12_goesRound_188 ⟨Nat.le_of_ble_eq_true rfl, Nat.le_of_ble_eq_true rfl⟩ ⟨Nat.le_of_ble_eq_true rfl, Nat.le_of_ble_eq_true rfl⟩) (fun H locs ws_73 h u_74 p_75 => ?_)
            refine y_inc (kp := 2) (n := 1) (fun v_76 => [(7, .int v_76), (9, .int r_48), (8, .int v_43), (0, .ref (ad 0)), (1, .int a1), (2, .int a2), (3, .int a3), (4, .int a4), (5, .int a5), (6, .int a6)]) C0 hl rfl (by decide) (by decide) (fun _ => rfl) (o38_169 l1 u1 l2 u2 al0 ah0 e_3 e_4 q_5 c_6 b_16 b_17 hn_15 e_20 e_21 q_22 c_23 e_37 e_39 e_56 e_58 (le_min x7_9) (le_max x7_9) (le_min a1) (le_max a1) (le_min a2) (le_max a2) (le_min ap0) (le_max ap0) (le_min v_1) (le_max v_1) (le_min v_18) (le_max v_18) (le_min v_36) (le_max v_36) (le_min v_38) (le_max v_38) (le_min v_55) (le_max v_55) (le_min v_57) (le_max v_57)) (o38_170 l1 u1 l2 u2 al0 ah0 e_3 e_4 q_5 c_6 b_16 b_17 hn_15 e_20 e_21 q_22 c_23 e_37 e_39 e_56 e_58 (le_min x7_9) (le_max x7_9) (le_min a1) (le_max a1) (le_min a2) (le_max a2) (le_min ap0) (le_max ap0) (le_min v_1) (le_max v_1) (le_min v_18) (le_max v_18) (le_min v_36) (le_max v_36) (le_min v_38) (le_max v_38) (le_min v_55) (le_max v_55) (le_min v_57) (le_max v_57)) dX12_goesRound_191 (fun v_76 ls e_77 hl => ?_)
            refine lv_goto (tgt := 91) C0.1 C0.2.1 dX12_goesRound_194 (by decide) ?_
            exact ih_13 v_76 _ _ _ _ (o38_171 l1 u1 l2 u2 al0 ah0 e_3 e_4 q_5 c_6 b_16 b_17 hn_15 e_20 e_21 q_22 c_23 e_37 e_39 e_56 e_58 e_77) (o38_172 l1 u1 l2 u2 al0 ah0 e_3 e_4 q_5 c_6 b_16 b_17 hn_15 e_20 e_21 q_22 c_23 e_37 e_39 e_56 e_58 e_77) (o38_173 l1 u1 l2 u2 al0 ah0 e_3 e_4 q_5 c_6 b_16 b_17 hn_15 e_20 e_21 q_22 c_23 e_37 e_39 e_56 e_58 e_77) h (Fr.tr (Fr.tr (Fr.tr (Fr.tr hF_11 (Fr.mono u_27 (by decide))) (Fr.mono u_46 (by decide))) (Fr.up u_53.1 kSM_18 (by decide))) u_74) (lv_sub hl [0, 3, 4, 5, 6, 7, 8, 9] rfl)
          · -- 147
            refine lv_goto (tgt := 191) C0.1 C0.2.1 dX12_goesRound_150 (by decide) ?_
            refine y_inc (kp := 2) (n := 1) (fun v_78 => [(7, .int v_78), (9, .int r_48), (8, .int v_43), (0, .ref (ad 0)), (1, .int a1), (2, .int a2), (3, .int a3), (4, .int a4), (5, .int a5), (6, .int a6)]) C0 hl rfl (by decide) (by decide) (fun _ => rfl) (o38_174 l1 u1 l2 u2 al0 ah0 e_3 e_4 q_5 c_6 b_16 b_17 hn_15 e_20 e_21 q_22 c_23 e_37 e_39 (le_min x7_9) (le_max x7_9) (le_min a1) (le_max a1) (le_min a2) (le_max a2) (le_min ap0) (le_max ap0) (le_min v_1) (le_max v_1) (le_min v_18) (le_max v_18) (le_min v_36) (le_max v_36) (le_min v_38) (le_max v_38)) (o38_175 l1 u1 l2 u2 al0 ah0 e_3 e_4 q_5 c_6 b_16 b_17 hn_15 e_20 e_21 q_22 c_23 e_37 e_39 (le_min x7_9) (le_max x7_9) (le_min a1) (le_max a1) (le_min a2) (le_max a2) (le_min ap0) (le_max ap0) (le_min v_1) (le_max v_1) (le_min v_18) (le_max v_18) (le_min v_36) (le_max v_36) (le_min v_38) (le_max v_38)) dX12_goesRound_191 (fun v_78 ls e_79 hl => ?_)
            refine lv_goto (tgt := 91) C0.1 C0.2.1 dX12_goesRound_194 (by decide) ?_
            exact ih_13 v_78 _ _ _ _ (o38_176 l1 u1 l2 u2 al0 ah0 e_3 e_4 q_5 c_6 b_16 b_17 hn_15 e_20 e_21 q_22 c_23 e_37 e_39 e_79) (o38_177 l1 u1 l2 u2 al0 ah0 e_3 e_4 q_5 c_6 b_16 b_17 hn_15 e_20 e_21 q_22 c_23 e_37 e_39 e_79) (o38_178 l1 u1 l2 u2 al0 ah0 e_3 e_4 q_5 c_6 b_16 b_17 hn_15 e_20 e_21 q_22 c_23 e_37 e_39 e_79) h (Fr.tr (Fr.tr hF_11 (Fr.mono u_27 (by decide))) (Fr.mono u_46 (by decide))) (lv_sub hl [0, 3, 4, 5, 6, 7, 8, 9] rfl)
        · -- 109
          refine lv_goto (tgt := 191) C0.1 C0.2.1 dX12_goesRound_112 (by decide) ?_
          refine y_inc (kp := 0) (n := 1) (fun v_80 => [(7, .int v_80), (0, .ref (ad 0)), (1, .int a1), (2, .int a2), (3, .int a3), (4, .int a4), (5, .int a5), (6, .int a6)]) C0 hl rfl (by decide) (by decide) (fun _ => rfl) (o38_179 l2 u2 al0 ah0 e_3 e_4 q_5 c_6 b_16 b_17 hn_15 e_20 e_21 q_22 c_23 (le_min x7_9) (le_max x7_9) (le_min a2) (le_max a2) (le_min ap0) (le_max ap0) (le_min v_1) (le_max v_1) (le_min v_18) (le_max v_18)) (o38_180 l2 u2 al0 ah0 e_3 e_4 q_5 c_6 b_16 b_17 hn_15 e_20 e_21 q_22 c_23 (le_min x7_9) (le_max x7_9) (le_min a2) (le_max a2) (le_min ap0) (le_max ap0) (le_min v_1) (le_max v_1) (le_min v_18) (le_max v_18)) dX12_goesRound_191 (fun v_80 ls e_81 hl => ?_)
          refine lv_goto (tgt := 91) C0.1 C0.2.1 dX12_goesRound_194 (by decide) ?_
          exact ih_13 v_80 _ _ _ _ (o38_181 l2 u2 al0 ah0 e_3 e_4 q_5 c_6 b_16 b_17 hn_15 e_20 e_21 q_22 c_23 e_81) (o38_182 l2 u2 al0 ah0 e_3 e_4 q_5 c_6 b_16 b_17 hn_15 e_20 e_21 q_22 c_23 e_81) (o38_183 l2 u2 al0 ah0 e_3 e_4 q_5 c_6 b_16 b_17 hn_15 e_20 e_21 q_22 c_23 e_81) h (Fr.tr hF_11 (Fr.mono u_27 (by decide))) (lv_sub hl [0, 1, 2, 3, 4, 5, 6, 7] rfl)
  exact lp_12 ((4 - v_7.toInt + 1).toNat) v_7 _ _ _ _ (o38_12 e_8) (o38_13 e_8) (o38_14 e_8) h Fr.rf (lv_sub hl [0, 1, 2, 3, 4, 5, 6, 7] rfl)
set_option maxHeartbeats 4000000 in
set_option maxRecDepth 100000 in
theorem c_X12_round (l : Launch) (G : GG) (Z : RZ) (ad : Nat → Nat) (ws0 : va_W) (hT : Ty G (SM tt) ad ws0) (a1 : Int32) (a2 : Int32) (a3 : Int32) (hJ : J ws0) : Mq l yX12_round cX12_round 6 (some .int) 13 G Z [.ref (ad 0), .int a1, .int a2, .int a3] ws0 (PI G (SM tt) ad [0, 5, 8, 9, 10, 11, 12, 13, 18, 19] ws0 (fun r u => True)) := by
  refine Mq.start (by decide) (Nat.le_of_ble_eq_true rfl) ?_
  intro p e s m below meth c A ls C0 hZ h hl
  have hl : lv_has ls 6 [(0, .ref (ad 0)), (1, .int a1), (2, .int a2), (3, .int a3)] := hl
  have h : Wt G (SM tt) ad A s s.heap [] ws0 := ⟨h, hT⟩
  obtain ⟨args, hargs⟩ : ∃ z, z = ([.ref (ad 0), .int a1, .int a2, .int a3] : List Value).toArray := ⟨_, rfl⟩
  rw [← hargs] at C0 ⊢
  have C0 : Cx p s m args meth c RX12 cX12_round 6 (some .int) := C0
  obtain ⟨Q, hQ⟩ : ∃ z, z = MQ below ((PI G (SM tt) ad [0, 5, 8, 9, 10, 11, 12, 13, 18, 19] ws0 (fun r u => True)) A) args s 0 0 A := ⟨_, rfl⟩
  rw [← hQ]
  refine lv_aload_n C0.1 C0.2.1 dX12_round_0 rfl (lv_at hl 0 rfl) ?_
  refine y_c1 (n := 0) C0 (by decide) dX12_round_1 (fun v_1 e_2 => ?_)
  refine np_X12_thrown C0 h kSM_0 q_1438 (le_min v_1) (le_max v_1) dX12_round_2 (fun H locs ws_3 h u_4 => ?_)
  refine lv_aload_n C0.1 C0.2.1 dX12_round_5 rfl (lv_at hl 0 rfl) ?_
  refine lv_iload_n C0.1 C0.2.1 dX12_round_6 rfl (lv_at hl 1 rfl) ?_
  refine y_i2l C0 dX12_round_7 (fun w_5 e_6 => ?_)
  refine y_ci h (y_rV (As := [.long w_5]) (rest := []) C0 hZ h (c_X12_isPerson l G Z ad _ h.2 w_5 (J.pa hT hJ (Pa.ud u_4.1 (by decide)))) k_X12_isPerson q_1693 q_77 q_1691 kSM_0 rfl rfl rfl hl.1 rfl rfl (Nat.le_of_ble_eq_true rfl) dX12_round_8 ⟨Nat.le_of_ble_eq_true rfl, Nat.le_of_ble_eq_true rfl⟩ ⟨Nat.le_of_ble_eq_true rfl, Nat.le_of_ble_eq_true rfl⟩) (fun r_10 H locs ws_7 h u_8 p_9 => ?_)
  obtain ⟨e_11, e_12, e_13, e_14⟩ := p_9
  refine y_if_eq (tgt := 50) C0 dX12_round_11 (by decide) (fun c_15 => ?_) (fun c_15 => ?_)
  · -- 11
    refine y_c2 (n := (-2)) C0 (by decide) dX12_round_50 (fun v_16 e_17 => ?_)
    rw [hQ]
    exact y_iret C0 h (Fr.tr (Fr.up u_4.1 kSM_0 (by decide)) (Fr.mono u_8 (by decide))) trivial dX12_round_52
  · -- 11
    refine lv_iload_n C0.1 C0.2.1 dX12_round_14 rfl (lv_at hl 2 rfl) ?_
    refine y_i2l C0 dX12_round_15 (fun w_18 e_19 => ?_)
    refine y_lc (v := 0) C0 (by decide) dX12_round_16 (fun w_20 e_21 => ?_)
    refine y_lc2 (n := 3) C0 q_1710 (by decide) dX12_round_17 (fun w_22 e_23 => ?_)
    refine y_ci h (y_rS (As := [.long w_18, .long w_20, .long w_22]) (rest := []) C0 hZ h (c_X12_within l G Z ad _ h.2 w_18 w_20 w_22) k_X12_within q_1580 q_1579 hl.1 rfl rfl (Nat.le_of_ble_eq_true rfl) dX12_round_20 ⟨Nat.le_of_ble_eq_true rfl, Nat.le_of_ble_eq_true rfl⟩ ⟨Nat.le_of_ble_eq_true rfl, Nat.le_of_ble_eq_true rfl⟩) (fun r_27 H locs ws_24 h u_25 p_26 => ?_)
    obtain ⟨e_28, e_29, e_30⟩ := p_26
    refine y_if_eq (tgt := 50) C0 dX12_round_23 (by decide) (fun c_31 => ?_) (fun c_31 => ?_)
    · -- 23
      refine y_c2 (n := (-2)) C0 (by decide) dX12_round_50 (fun v_32 e_33 => ?_)
      rw [hQ]
      exact y_iret C0 h (Fr.tr (Fr.tr (Fr.up u_4.1 kSM_0 (by decide)) (Fr.mono u_8 (by decide))) (Fr.mono u_25 (by decide))) trivial dX12_round_52
    · -- 23
      refine lv_iload_n C0.1 C0.2.1 dX12_round_26 rfl (lv_at hl 3 rfl) ?_
      refine y_i2l C0 dX12_round_27 (fun w_34 e_35 => ?_)
      refine y_lc (v := 0) C0 (by decide) dX12_round_28 (fun w_36 e_37 => ?_)
      refine y_lc (v := 1) C0 (by decide) dX12_round_29 (fun w_38 e_39 => ?_)
      refine y_ci h (y_rS (As := [.long w_34, .long w_36, .long w_38]) (rest := []) C0 hZ h (c_X12_within l G Z ad _ h.2 w_34 w_36 w_38) k_X12_within q_1580 q_1579 hl.1 rfl rfl (Nat.le_of_ble_eq_true rfl) dX12_round_30 ⟨Nat.le_of_ble_eq_true rfl, Nat.le_of_ble_eq_true rfl⟩ ⟨Nat.le_of_ble_eq_true rfl, Nat.le_of_ble_eq_true rfl⟩) (fun r_43 H locs ws_40 h u_41 p_42 => ?_)
      obtain ⟨e_44, e_45, e_46⟩ := p_42
      refine y_if_ne (tgt := 53) C0 dX12_round_33 (by decide) (fun c_47 => ?_) (fun c_47 => ?_)
      · -- 33
        refine lv_aload_n C0.1 C0.2.1 dX12_round_53 rfl (lv_at hl 0 rfl) ?_
        refine lv_iload_n C0.1 C0.2.1 dX12_round_54 rfl (lv_at hl 2 rfl) ?_
        refine y_ci h (y_rV (As := [.int a2]) (rest := []) C0 hZ h (c_X12_noTray l G Z ad _ h.2 a2) k_X12_noTray q_1796 q_91 q_1794 kSM_0 rfl rfl rfl hl.1 rfl rfl (Nat.le_of_ble_eq_true rfl) dX12_round_55 ⟨Nat.le_of_ble_eq_true rfl, Nat.le_of_ble_eq_true rfl⟩ ⟨Nat.le_of_ble_eq_true rfl, Nat.le_of_ble_eq_true rfl⟩) (fun r_51 H locs ws_48 h u_49 p_50 => ?_)
        obtain ⟨e_52, e_53, e_54⟩ := p_50
        refine lv_istore (lv' := [(4, .int r_51), (0, .ref (ad 0)), (1, .int a1), (2, .int a2), (3, .int a3)]) C0.1 C0.2.1 dX12_round_58 hl (by decide) rfl (fun ls hl => ?_)
        refine lv_iload C0.1 C0.2.1 dX12_round_60 (lv_at hl 0 rfl) ?_
        refine y_if_eq (tgt := 68) C0 dX12_round_62 (by decide) (fun c_55 => ?_) (fun c_55 => ?_)
        · -- 62
          refine lv_aload_n C0.1 C0.2.1 dX12_round_68 rfl (lv_at hl 1 rfl) ?_
          refine ng_X12_rowMany C0 h kSM_0 q_1480 dX12_round_69 ?_
          refine lv_iload_n C0.1 C0.2.1 dX12_round_72 rfl (lv_at hl 3 rfl) ?_
          refine y_iald C0 h kSM_24 rfl (by decide) (o38_184 e_19 e_21 e_23 e_28 e_29 e_30 c_31 e_52 e_53 e_54 c_55) (o38_185 e_19 e_21 e_23 e_28 e_29 e_30 c_31 e_52 e_53 e_54 c_55) dX12_round_73 (fun v_56 e_57 e_58 e_59 => ?_)
          refine y_i2l C0 dX12_round_74 (fun w_60 e_61 => ?_)
          refine y_lc (v := 1) C0 (by decide) dX12_round_75 (fun w_62 e_63 => ?_)
          refine y_lc2 (n := 4) C0 q_1963 (by decide) dX12_round_76 (fun w_64 e_65 => ?_)
          refine y_ci h (y_rS (As := [.long w_60, .long w_62, .long w_64]) (rest := []) C0 hZ h (c_X12_within l G Z ad _ h.2 w_60 w_62 w_64) k_X12_within q_1580 q_1579 hl.1 rfl rfl (Nat.le_of_ble_eq_true rfl) dX12_round_79 ⟨Nat.le_of_ble_eq_true rfl, Nat.le_of_ble_eq_true rfl⟩ ⟨Nat.le_of_ble_eq_true rfl, Nat.le_of_ble_eq_true rfl⟩) (fun r_69 H locs ws_66 h u_67 p_68 => ?_)
          obtain ⟨e_70, e_71, e_72⟩ := p_68
          refine y_if_ne (tgt := 88) C0 dX12_round_82 (by decide) (fun c_73 => ?_) (fun c_73 => ?_)
          · -- 82
            refine y_c1 (n := 0) C0 (by decide) dX12_round_88 (fun v_74 e_75 => ?_)
            refine lv_istore (lv' := [(5, .int v_74), (4, .int r_51), (0, .ref (ad 0)), (1, .int a1), (2, .int a2), (3, .int a3)]) C0.1 C0.2.1 dX12_round_89 hl (by decide) rfl (fun ls hl => ?_)
            have lp_79 : ∀ (n_81 : Nat) (x5_76 : Int32) (H : Heap) (locs : List Loc) (ls : Array Slot) (ws_77 : va_W), 4 - x5_76.toInt < (n_81 : Int) → 0 ≤ x5_76.toInt → x5_76.toInt ≤ 4 → (∀ j : Nat, (j : Int) < x5_76.toInt → 0 ≤ (aL ws_77 25 (40 * a2.toInt.toNat + j)).toInt ∧ (aL ws_77 25 (40 * a2.toInt.toNat + j)).toInt ≤ 24) → Wt G (SM tt) ad A s H locs ws_77 → Fr (SM tt) [] ws_66 ws_77 → lv_has ls 6 [(5, .int x5_76), (4, .int r_51), (0, .ref (ad 0)), (1, .int a1), (2, .int a2), (3, .int a3)] → W p l e (rmd 13 0 0) s m args below meth c H locs 0 0 Q (F0 m 91 ls []) := by
              intro n_81
              induction n_81 with
              | zero => intro x5_76 H locs ls ws_77 hn_82 b_83 b_84 hNu h hF_78 hl; exact ((o38_4 b_83 b_84 hn_82)).elim
              | succ n_81 ih_80 =>
                intro x5_76 H locs ls ws_77 hn_82 b_83 b_84 hNu h hF_78 hl
                refine lv_iload C0.1 C0.2.1 dX12_round_91 (lv_at hl 0 rfl) ?_
                refine lv_aload_n C0.1 C0.2.1 dX12_round_93 rfl (lv_at hl 2 rfl) ?_
                refine ng_X12_rowMany C0 h kSM_0 q_1480 dX12_round_94 ?_
                refine lv_iload_n C0.1 C0.2.1 dX12_round_97 rfl (lv_at hl 4 rfl) ?_
                refine y_iald C0 h kSM_24 rfl (by decide) (o38_184 e_19 e_21 e_23 e_28 e_29 e_30 c_31 e_52 e_53 e_54 c_55) (o38_185 e_19 e_21 e_23 e_28 e_29 e_30 c_31 e_52 e_53 e_54 c_55) dX12_round_98 (fun v_85 e_86 e_87 e_88 => ?_)
                have q_89 : v_85.toInt = v_56.toInt := congrArg Int32.toInt (e_86.symm.trans (Eq.trans rfl (Eq.trans (Eq.trans (Fr.aI hF_78 kSM_24 (by decide)) (Fr.aI u_67 kSM_24 (by decide))) e_57)))
                refine y_icmp_ge (tgt := 130) C0 dX12_round_99 (by decide) (fun c_90 => ?_) (fun c_90 => ?_)
                · -- 99
                  have hN_91 : NumOk ws_77 a2 := num_e hNu (Eq.trans rfl (Eq.trans (Eq.trans (Fr.aI hF_78 kSM_24 (by decide)) (Fr.aI u_67 kSM_24 (by decide))) e_57)) (o38_186 e_58 e_59 e_61 e_63 e_65 e_70 e_71 e_72 c_73 b_83 b_84 hn_82 e_87 e_88 q_89 c_90)
                  refine lv_aload_n C0.1 C0.2.1 dX12_round_130 rfl (lv_at hl 2 rfl) ?_
                  refine y_c1 (n := (-1)) C0 (by decide) dX12_round_131 (fun v_92 e_93 => ?_)
                  refine np_X12_bestLefts C0 h kSM_0 q_1473 (le_min v_92) (le_max v_92) dX12_round_132 (fun H locs ws_94 h u_95 => ?_)
                  refine lv_aload_n C0.1 C0.2.1 dX12_round_135 rfl (lv_at hl 2 rfl) ?_
                  refine lv_iload_n C0.1 C0.2.1 dX12_round_136 rfl (lv_at hl 4 rfl) ?_
                  refine y_c1 (n := 0) C0 (by decide) dX12_round_137 (fun v_96 e_97 => ?_)
                  refine y_c1 (n := 0) C0 (by decide) dX12_round_138 (fun v_98 e_99 => ?_)
                  refine y_c1 (n := 4) C0 (by decide) dX12_round_139 (fun v_100 e_101 => ?_)
                  refine lv_aload_n C0.1 C0.2.1 dX12_round_140 rfl (lv_at hl 2 rfl) ?_
                  refine ng_X12_all C0 h kSM_0 q_1439 dX12_round_141 ?_
                  refine y_c2 (n := 36) C0 (by decide) dX12_round_144 (fun v_102 e_103 => ?_)
                  refine lv_iload_n C0.1 C0.2.1 dX12_round_146 rfl (lv_at hl 3 rfl) ?_
                  refine y_add C0 (o38_187 e_6 e_11 e_12 e_13 c_15 e_103 (le_min v_102) (le_max v_102) (le_min a1) (le_max a1) (le_min r_10) (le_max r_10)) (o38_188 e_6 e_11 e_12 e_13 c_15 e_103 (le_min v_102) (le_max v_102) (le_min a1) (le_max a1) (le_min r_10) (le_max r_10)) dX12_round_147 (fun v_104 e_105 => ?_)
                  refine y_iald C0 h kSM_1 rfl (by decide) (o38_189 e_6 e_11 e_12 e_13 c_15 e_103 e_105) (o38_190 e_6 e_11 e_12 e_13 c_15 e_103 e_105) dX12_round_148 (fun v_106 e_107 e_108 e_109 => ?_)
                  have f_110 := o38_191 v_104.toInt.toNat (o38_192 e_6 e_11 e_12 e_13 c_15 e_103 e_105) (o38_193 e_6 e_11 e_12 e_13 c_15 e_103 e_105)
                  refine y_cmul (n := 4) C0 (o38_194 e_101) (o38_195 (Int.le_trans f_110.1 e_108) (Int.le_trans e_109 f_110.2) (le_min v_106) (le_max v_106)) (o38_196 (Int.le_trans f_110.1 e_108) (Int.le_trans e_109 f_110.2) (le_min v_106) (le_max v_106)) dX12_round_149 (fun v_111 e_112 => ?_)
                  refine lv_aload_n C0.1 C0.2.1 dX12_round_150 rfl (lv_at hl 2 rfl) ?_
                  refine ng_X12_all C0 h kSM_0 q_1439 dX12_round_151 ?_
                  refine y_c2 (n := 41) C0 (by decide) dX12_round_154 (fun v_113 e_114 => ?_)
                  refine lv_iload_n C0.1 C0.2.1 dX12_round_156 rfl (lv_at hl 3 rfl) ?_
                  refine y_add C0 (o38_197 e_6 e_11 e_12 e_13 c_15 e_103 e_105 e_114 (le_min v_113) (le_max v_113) (le_min a1) (le_max a1) (le_min r_10) (le_max r_10) (le_min v_102) (le_max v_102) (le_min v_104) (le_max v_104)) (o38_198 e_6 e_11 e_12 e_13 c_15 e_103 e_105 e_114 (le_min v_113) (le_max v_113) (le_min a1) (le_max a1) (le_min r_10) (le_max r_10) (le_min v_102) (le_max v_102) (le_min v_104) (le_max v_104)) dX12_round_157 (fun v_115 e_116 => ?_)
                  refine y_iald C0 h kSM_1 rfl (by decide) (o38_199 e_6 e_11 e_12 e_13 c_15 e_103 e_105 e_114 e_116) (o38_200 e_6 e_11 e_12 e_13 c_15 e_103 e_105 e_114 e_116) dX12_round_158 (fun v_117 e_118 e_119 e_120 => ?_)
                  have f_121 := o38_201 v_115.toInt.toNat (o38_202 e_6 e_11 e_12 e_13 c_15 e_103 e_105 e_114 e_116) (o38_203 e_6 e_11 e_12 e_13 c_15 e_103 e_105 e_114 e_116)
                  refine y_add C0 (o38_204 (Int.le_trans f_110.1 e_108) (Int.le_trans e_109 f_110.2) e_112 (Int.le_trans f_121.1 e_119) (Int.le_trans e_120 f_121.2) (le_min v_111) (le_max v_111) (le_min v_117) (le_max v_117) (le_min v_106) (le_max v_106)) (o38_205 (Int.le_trans f_110.1 e_108) (Int.le_trans e_109 f_110.2) e_112 (Int.le_trans f_121.1 e_119) (Int.le_trans e_120 f_121.2) (le_min v_111) (le_max v_111) (le_min v_117) (le_max v_117) (le_min v_106) (le_max v_106)) dX12_round_159 (fun v_122 e_123 => ?_)
                  refine y_c1 (n := 0) C0 (by decide) dX12_round_160 (fun v_124 e_125 => ?_)
                  refine y_c1 (n := 0) C0 (by decide) dX12_round_161 (fun v_126 e_127 => ?_)
                  refine y_cv h (y_rV (As := [.int a2, .int v_96, .int v_98, .int v_122, .int v_124, .int v_126]) (rest := []) C0 hZ h (c_X12_goesRound_0 l G Z ad _ h.2 a2 v_96 v_98 v_122 v_124 v_126 (o38_184 e_19 e_21 e_23 e_28 e_29 e_30 c_31 e_52 e_53 e_54 c_55) (o38_206 e_19 e_21 e_23 e_28 e_29 e_30 c_31 e_52 e_53 e_54 c_55) (o38_13 e_97) (o38_207 e_97) (o38_208 (Int.le_trans f_110.1 e_108) (Int.le_trans e_109 f_110.2) e_112 (Int.le_trans f_121.1 e_119) (Int.le_trans e_120 f_121.2) e_123) (o38_209 (Int.le_trans f_110.1 e_108) (Int.le_trans e_109 f_110.2) e_112 (Int.le_trans f_121.1 e_119) (Int.le_trans e_120 f_121.2) e_123) (fbd_lo (Eq.trans rfl (Eq.trans (Eq.trans (aI_of (u_95.1 24 (kd_ne (S := SM q0) kSM_24 kSM_0 (by decide)))) (Eq.trans (Fr.aI hF_78 kSM_24 (by decide)) (Fr.aI u_67 kSM_24 (by decide)))) e_57)) (o38_210 e_58 e_59 e_61 e_63 e_65 e_70 e_71 e_72 c_73 b_83 b_84 hn_82 e_87 e_88 q_89 c_90)) (fbd_hi (Eq.trans rfl (Eq.trans (Eq.trans (aI_of (u_95.1 24 (kd_ne (S := SM q0) kSM_24 kSM_0 (by decide)))) (Eq.trans (Fr.aI hF_78 kSM_24 (by decide)) (Fr.aI u_67 kSM_24 (by decide)))) e_57)) (o38_211 e_58 e_59 e_61 e_63 e_65 e_70 e_71 e_72 c_73 b_83 b_84 hn_82 e_87 e_88 q_89 c_90)) (NumOk.fr (M := [0]) hN_91 (Fr.up u_95.1 kSM_0 (by decide)) (by decide) (by decide)) (J.pa hT hJ (Pa.tr (Pa.tr (Pa.tr (Pa.tr (Pa.tr (Pa.tr (Pa.tr (Pa.ud u_4.1 (by decide)) (Pa.fr u_8 (by decide))) (Pa.fr u_25 (by decide))) (Pa.fr u_41 (by decide))) (Pa.fr u_49 (by decide))) (Pa.fr u_67 (by decide))) (Pa.fr hF_78 (by decide))) (Pa.ud u_95.1 (by decide)))) (Laid.pa (Or.resolve_left e_14 (o38_212 e_6 e_11 e_12 e_13 c_15 e_103 e_105 e_114 e_116)) (Pa.tr (Pa.tr (Pa.tr (Pa.tr (Pa.tr (Pa.tr (Pa.fr u_8 (by decide)) (Pa.fr u_25 (by decide))) (Pa.fr u_41 (by decide))) (Pa.fr u_49 (by decide))) (Pa.fr u_67 (by decide))) (Pa.fr hF_78 (by decide))) (Pa.ud u_95.1 (by decide))))) k_X12_goesRound q_1966 q_113 q_1964 kSM_0 rfl rfl rfl hl.1 rfl rfl (Nat.le_of_ble_eq_true rfl) dX12_round_162 ⟨Nat.le_of_ble_eq_true rfl, Nat.le_of_ble_eq_true rfl⟩ ⟨Nat.le_of_ble_eq_true rfl, Nat.le_of_ble_eq_true rfl⟩) (fun H locs ws_128 h u_129 p_130 => ?_)
                  refine lv_aload_n C0.1 C0.2.1 dX12_round_165 rfl (lv_at hl 2 rfl) ?_
                  refine ng_X12_bestLefts C0 h kSM_0 q_1473 dX12_round_166 (fun v_131 e_132 e_133 e_134 => ?_)
                  refine y_c1 (n := (-1)) C0 (by decide) dX12_round_169 (fun v_135 e_136 => ?_)
                  refine y_icmp_ne (tgt := 175) C0 dX12_round_170 (by decide) (fun c_137 => ?_) (fun c_137 => ?_)
                  · -- 170
                    refine lv_iload_n C0.1 C0.2.1 dX12_round_175 rfl (lv_at hl 5 rfl) ?_
                    refine y_if_ne (tgt := 186) C0 dX12_round_176 (by decide) (fun c_138 => ?_) (fun c_138 => ?_)
                    · -- 176
                      refine lv_iload_n C0.1 C0.2.1 dX12_round_186 rfl (lv_at hl 5 rfl) ?_
                      refine y_c1 (n := 1) C0 (by decide) dX12_round_187 (fun v_139 e_140 => ?_)
                      refine y_icmp_ne (tgt := 198) C0 dX12_round_188 (by decide) (fun c_141 => ((o38_213 e_35 e_37 e_39 e_44 e_45 e_46 c_47 c_138 e_140 c_141)).elim) (fun c_141 => ?_)
                      refine lv_aload_n C0.1 C0.2.1 dX12_round_191 rfl (lv_at hl 2 rfl) ?_
                      refine ng_X12_bestStreets C0 h kSM_0 q_1474 dX12_round_192 (fun v_142 e_143 e_144 e_145 => ?_)
                      refine lv_goto (tgt := 224) C0.1 C0.2.1 dX12_round_195 (by decide) ?_
                      rw [hQ]
                      exact y_iret C0 h (Fr.tr (Fr.tr (Fr.tr (Fr.tr (Fr.tr (Fr.tr (Fr.tr (Fr.tr (Fr.up u_4.1 kSM_0 (by decide)) (Fr.mono u_8 (by decide))) (Fr.mono u_25 (by decide))) (Fr.mono u_41 (by decide))) (Fr.mono u_49 (by decide))) (Fr.mono u_67 (by decide))) (Fr.mono hF_78 (by decide))) (Fr.up u_95.1 kSM_0 (by decide))) u_129) trivial dX12_round_224
                    · -- 176
                      refine lv_aload_n C0.1 C0.2.1 dX12_round_179 rfl (lv_at hl 2 rfl) ?_
                      refine ng_X12_bestLefts C0 h kSM_0 q_1473 dX12_round_180 (fun v_146 e_147 e_148 e_149 => ?_)
                      have q_150 : v_146.toInt = v_131.toInt := congrArg Int32.toInt (e_147.symm.trans (Eq.trans rfl e_132))
                      refine lv_goto (tgt := 224) C0.1 C0.2.1 dX12_round_183 (by decide) ?_
                      rw [hQ]
                      exact y_iret C0 h (Fr.tr (Fr.tr (Fr.tr (Fr.tr (Fr.tr (Fr.tr (Fr.tr (Fr.tr (Fr.up u_4.1 kSM_0 (by decide)) (Fr.mono u_8 (by decide))) (Fr.mono u_25 (by decide))) (Fr.mono u_41 (by decide))) (Fr.mono u_49 (by decide))) (Fr.mono u_67 (by decide))) (Fr.mono hF_78 (by decide))) (Fr.up u_95.1 kSM_0 (by decide))) u_129) trivial dX12_round_224
                  · -- 170
                    refine y_c1 (n := (-1)) C0 (by decide) dX12_round_173 (fun v_151 e_152 => ?_)
                    rw [hQ]
                    exact y_iret C0 h (Fr.tr (Fr.tr (Fr.tr (Fr.tr (Fr.tr (Fr.tr (Fr.tr (Fr.tr (Fr.up u_4.1 kSM_0 (by decide)) (Fr.mono u_8 (by decide))) (Fr.mono u_25 (by decide))) (Fr.mono u_41 (by decide))) (Fr.mono u_49 (by decide))) (Fr.mono u_67 (by decide))) (Fr.mono hF_78 (by decide))) (Fr.up u_95.1 kSM_0 (by decide))) u_129) trivial dX12_round_174
                · -- 99
                  refine lv_aload_n C0.1 C0.2.1 dX12_round_102 rfl (lv_at hl 2 rfl) ?_
                  refine lv_aload_n C0.1 C0.2.1 dX12_round_103 rfl (lv_at hl 2 rfl) ?_
                  refine ng_X12_numbers C0 h kSM_0 q_1481 dX12_round_104 ?_
                  refine y_c2 (n := 40) C0 (by decide) dX12_round_107 (fun v_153 e_154 => ?_)
                  refine lv_iload_n C0.1 C0.2.1 dX12_round_109 rfl (lv_at hl 4 rfl) ?_
                  refine y_cmul (n := 40) C0 (o38_15 e_154) (o38_214 e_19 e_21 e_23 e_28 e_29 e_30 c_31 e_52 e_53 e_54 c_55 (le_min a2) (le_max a2) (le_min r_27) (le_max r_27) (le_min r_51) (le_max r_51)) (o38_215 e_19 e_21 e_23 e_28 e_29 e_30 c_31 e_52 e_53 e_54 c_55 (le_min a2) (le_max a2) (le_min r_27) (le_max r_27) (le_min r_51) (le_max r_51)) dX12_round_110 (fun v_155 e_156 => ?_)
                  refine lv_iload C0.1 C0.2.1 dX12_round_111 (lv_at hl 0 rfl) ?_
                  refine y_add C0 (o38_216 e_19 e_21 e_23 e_28 e_29 e_30 c_31 e_52 e_53 e_54 c_55 e_58 e_59 e_61 e_63 e_65 e_70 e_71 e_72 c_73 b_83 b_84 hn_82 e_87 e_88 q_89 c_90 e_156 (le_min v_155) (le_max v_155) (le_min x5_76) (le_max x5_76) (le_min a2) (le_max a2) (le_min r_27) (le_max r_27) (le_min r_51) (le_max r_51) (le_min v_56) (le_max v_56) (le_min r_69) (le_max r_69) (le_min v_85) (le_max v_85)) (o38_217 e_19 e_21 e_23 e_28 e_29 e_30 c_31 e_52 e_53 e_54 c_55 e_58 e_59 e_61 e_63 e_65 e_70 e_71 e_72 c_73 b_83 b_84 hn_82 e_87 e_88 q_89 c_90 e_156 (le_min v_155) (le_max v_155) (le_min x5_76) (le_max x5_76) (le_min a2) (le_max a2) (le_min r_27) (le_max r_27) (le_min r_51) (le_max r_51) (le_min v_56) (le_max v_56) (le_min r_69) (le_max r_69) (le_min v_85) (le_max v_85)) dX12_round_113 (fun v_157 e_158 => ?_)
                  refine y_lald C0 h kSM_25 rfl (by decide) (o38_218 e_19 e_21 e_23 e_28 e_29 e_30 c_31 e_52 e_53 e_54 c_55 e_58 e_59 e_61 e_63 e_65 e_70 e_71 e_72 c_73 b_83 b_84 hn_82 e_87 e_88 q_89 c_90 e_156 e_158) (o38_219 e_19 e_21 e_23 e_28 e_29 e_30 c_31 e_52 e_53 e_54 c_55 e_58 e_59 e_61 e_63 e_65 e_70 e_71 e_72 c_73 b_83 b_84 hn_82 e_87 e_88 q_89 c_90 e_156 e_158) dX12_round_114 (fun w_159 e_160 => ?_)
                  refine y_ci h (y_rV (As := [.long w_159]) (rest := []) C0 hZ h (c_X12_isCrossing l G Z ad _ h.2 w_159) k_X12_isCrossing q_1701 q_78 q_1699 kSM_0 rfl rfl rfl hl.1 rfl rfl (Nat.le_of_ble_eq_true rfl) dX12_round_115 ⟨Nat.le_of_ble_eq_true rfl, Nat.le_of_ble_eq_true rfl⟩ ⟨Nat.le_of_ble_eq_true rfl, Nat.le_of_ble_eq_true rfl⟩) (fun r_164 H locs ws_161 h u_162 p_163 => ?_)
                  obtain ⟨e_165, e_166, e_167, e_168⟩ := p_163
                  refine y_if_ne (tgt := 124) C0 dX12_round_118 (by decide) (fun c_169 => ?_) (fun c_169 => ?_)
                  · -- 118
                    refine y_inc (kp := 0) (n := 1) (fun v_170 => [(5, .int v_170), (4, .int r_51), (0, .ref (ad 0)), (1, .int a1), (2, .int a2), (3, .int a3)]) C0 hl rfl (by decide) (by decide) (fun _ => rfl) (o38_220 e_19 e_21 e_23 e_28 e_29 e_30 c_31 e_52 e_53 e_54 c_55 e_58 e_59 e_61 e_63 e_65 e_70 e_71 e_72 c_73 b_83 b_84 hn_82 e_87 e_88 q_89 c_90 e_156 e_158 (le_min x5_76) (le_max x5_76) (le_min a2) (le_max a2) (le_min r_27) (le_max r_27) (le_min r_51) (le_max r_51) (le_min v_56) (le_max v_56) (le_min r_69) (le_max r_69) (le_min v_85) (le_max v_85) (le_min v_155) (le_max v_155) (le_min v_157) (le_max v_157)) (o38_221 e_19 e_21 e_23 e_28 e_29 e_30 c_31 e_52 e_53 e_54 c_55 e_58 e_59 e_61 e_63 e_65 e_70 e_71 e_72 c_73 b_83 b_84 hn_82 e_87 e_88 q_89 c_90 e_156 e_158 (le_min x5_76) (le_max x5_76) (le_min a2) (le_max a2) (le_min r_27) (le_max r_27) (le_min r_51) (le_max r_51) (le_min v_56) (le_max v_56) (le_min r_69) (le_max r_69) (le_min v_85) (le_max v_85) (le_min v_155) (le_max v_155) (le_min v_157) (le_max v_157)) dX12_round_124 (fun v_170 ls e_171 hl => ?_)
                    refine lv_goto (tgt := 91) C0.1 C0.2.1 dX12_round_127 (by decide) ?_
                    exact ih_80 v_170 _ _ _ _ (o38_222 e_19 e_21 e_23 e_28 e_29 e_30 c_31 e_52 e_53 e_54 c_55 e_58 e_59 e_61 e_63 e_65 e_70 e_71 e_72 c_73 b_83 b_84 hn_82 e_87 e_88 q_89 c_90 e_156 e_158 e_171) (o38_223 e_19 e_21 e_23 e_28 e_29 e_30 c_31 e_52 e_53 e_54 c_55 e_58 e_59 e_61 e_63 e_65 e_70 e_71 e_72 c_73 b_83 b_84 hn_82 e_87 e_88 q_89 c_90 e_156 e_158 e_171) (o38_224 e_19 e_21 e_23 e_28 e_29 e_30 c_31 e_52 e_53 e_54 c_55 e_58 e_59 e_61 e_63 e_65 e_70 e_71 e_72 c_73 b_83 b_84 hn_82 e_87 e_88 q_89 c_90 e_156 e_158 e_171) ((num_s (M := []) hNu u_162 (by decide) (o38_225 e_19 e_21 e_23 e_28 e_29 e_30 c_31 e_52 e_53 e_54 c_55 e_58 e_59 e_61 e_63 e_65 e_70 e_71 e_72 c_73 b_83 b_84 hn_82 e_87 e_88 q_89 c_90 e_156 e_158 e_171) (Eq.trans (Fr.aL u_162 kSM_25 (by decide)) e_160) e_171 (o38_226 e_19 e_21 e_23 e_28 e_29 e_30 c_31 e_52 e_53 e_54 c_55 e_58 e_59 e_61 e_63 e_65 e_70 e_71 e_72 c_73 b_83 b_84 hn_82 e_87 e_88 q_89 c_90 e_156 e_158 e_165 e_166 e_167 c_169 e_171))) h (Fr.tr hF_78 u_162) (lv_sub hl [0, 1, 2, 3, 4, 5] rfl)
                  · -- 118
                    refine y_c2 (n := (-3)) C0 (by decide) dX12_round_121 (fun v_172 e_173 => ?_)
                    rw [hQ]
                    exact y_iret C0 h (Fr.tr (Fr.tr (Fr.tr (Fr.tr (Fr.tr (Fr.tr (Fr.tr (Fr.up u_4.1 kSM_0 (by decide)) (Fr.mono u_8 (by decide))) (Fr.mono u_25 (by decide))) (Fr.mono u_41 (by decide))) (Fr.mono u_49 (by decide))) (Fr.mono u_67 (by decide))) (Fr.mono hF_78 (by decide))) (Fr.mono u_162 (by decide))) trivial dX12_round_123
            exact lp_79 ((4 - v_74.toInt + 1).toNat) v_74 _ _ _ _ (o38_12 e_75) (o38_13 e_75) (o38_14 e_75) ((num_0 e_75)) h Fr.rf (lv_sub hl [0, 1, 2, 3, 4, 5] rfl)
          · -- 82
            refine y_c2 (n := (-4)) C0 (by decide) dX12_round_85 (fun v_174 e_175 => ?_)
            rw [hQ]
            exact y_iret C0 h (Fr.tr (Fr.tr (Fr.tr (Fr.tr (Fr.tr (Fr.up u_4.1 kSM_0 (by decide)) (Fr.mono u_8 (by decide))) (Fr.mono u_25 (by decide))) (Fr.mono u_41 (by decide))) (Fr.mono u_49 (by decide))) (Fr.mono u_67 (by decide))) trivial dX12_round_87
        · -- 62
          refine lv_iload C0.1 C0.2.1 dX12_round_65 (lv_at hl 0 rfl) ?_
          rw [hQ]
          exact y_iret C0 h (Fr.tr (Fr.tr (Fr.tr (Fr.tr (Fr.up u_4.1 kSM_0 (by decide)) (Fr.mono u_8 (by decide))) (Fr.mono u_25 (by decide))) (Fr.mono u_41 (by decide))) (Fr.mono u_49 (by decide))) trivial dX12_round_67
      · -- 33
        refine lv_iload_n C0.1 C0.2.1 dX12_round_36 rfl (lv_at hl 3 rfl) ?_
        refine y_i2l C0 dX12_round_37 (fun w_176 e_177 => ?_)
        refine y_lc2 (n := 10) C0 q_1847 (by decide) dX12_round_38 (fun w_178 e_179 => ?_)
        refine y_lc2 (n := 13) C0 q_1962 (by decide) dX12_round_41 (fun w_180 e_181 => ?_)
        refine y_ci h (y_rS (As := [.long w_176, .long w_178, .long w_180]) (rest := []) C0 hZ h (c_X12_within l G Z ad _ h.2 w_176 w_178 w_180) k_X12_within q_1580 q_1579 hl.1 rfl rfl (Nat.le_of_ble_eq_true rfl) dX12_round_44 ⟨Nat.le_of_ble_eq_true rfl, Nat.le_of_ble_eq_true rfl⟩ ⟨Nat.le_of_ble_eq_true rfl, Nat.le_of_ble_eq_true rfl⟩) (fun r_185 H locs ws_182 h u_183 p_184 => ?_)
        obtain ⟨e_186, e_187, e_188⟩ := p_184
        refine y_if_ne (tgt := 53) C0 dX12_round_47 (by decide) (fun c_189 => ?_) (fun c_189 => ?_)
        · -- 47
          refine lv_aload_n C0.1 C0.2.1 dX12_round_53 rfl (lv_at hl 0 rfl) ?_
          refine lv_iload_n C0.1 C0.2.1 dX12_round_54 rfl (lv_at hl 2 rfl) ?_
          refine y_ci h (y_rV (As := [.int a2]) (rest := []) C0 hZ h (c_X12_noTray l G Z ad _ h.2 a2) k_X12_noTray q_1796 q_91 q_1794 kSM_0 rfl rfl rfl hl.1 rfl rfl (Nat.le_of_ble_eq_true rfl) dX12_round_55 ⟨Nat.le_of_ble_eq_true rfl, Nat.le_of_ble_eq_true rfl⟩ ⟨Nat.le_of_ble_eq_true rfl, Nat.le_of_ble_eq_true rfl⟩) (fun r_193 H locs ws_190 h u_191 p_192 => ?_)
          obtain ⟨e_194, e_195, e_196⟩ := p_192
          refine lv_istore (lv' := [(4, .int r_193), (0, .ref (ad 0)), (1, .int a1), (2, .int a2), (3, .int a3)]) C0.1 C0.2.1 dX12_round_58 hl (by decide) rfl (fun ls hl => ?_)
          refine lv_iload C0.1 C0.2.1 dX12_round_60 (lv_at hl 0 rfl) ?_
          refine y_if_eq (tgt := 68) C0 dX12_round_62 (by decide) (fun c_197 => ?_) (fun c_197 => ?_)
          · -- 62
            refine lv_aload_n C0.1 C0.2.1 dX12_round_68 rfl (lv_at hl 1 rfl) ?_
            refine ng_X12_rowMany C0 h kSM_0 q_1480 dX12_round_69 ?_
            refine lv_iload_n C0.1 C0.2.1 dX12_round_72 rfl (lv_at hl 3 rfl) ?_
            refine y_iald C0 h kSM_24 rfl (by decide) (o38_184 e_19 e_21 e_23 e_28 e_29 e_30 c_31 e_194 e_195 e_196 c_197) (o38_185 e_19 e_21 e_23 e_28 e_29 e_30 c_31 e_194 e_195 e_196 c_197) dX12_round_73 (fun v_198 e_199 e_200 e_201 => ?_)
            refine y_i2l C0 dX12_round_74 (fun w_202 e_203 => ?_)
            refine y_lc (v := 1) C0 (by decide) dX12_round_75 (fun w_204 e_205 => ?_)
            refine y_lc2 (n := 4) C0 q_1963 (by decide) dX12_round_76 (fun w_206 e_207 => ?_)
            refine y_ci h (y_rS (As := [.long w_202, .long w_204, .long w_206]) (rest := []) C0 hZ h (c_X12_within l G Z ad _ h.2 w_202 w_204 w_206) k_X12_within q_1580 q_1579 hl.1 rfl rfl (Nat.le_of_ble_eq_true rfl) dX12_round_79 ⟨Nat.le_of_ble_eq_true rfl, Nat.le_of_ble_eq_true rfl⟩ ⟨Nat.le_of_ble_eq_true rfl, Nat.le_of_ble_eq_true rfl⟩) (fun r_211 H locs ws_208 h u_209 p_210 => ?_)
            obtain ⟨e_212, e_213, e_214⟩ := p_210
            refine y_if_ne (tgt := 88) C0 dX12_round_82 (by decide) (fun c_215 => ?_) (fun c_215 => ?_)
            · -- 82
              refine y_c1 (n := 0) C0 (by decide) dX12_round_88 (fun v_216 e_217 => ?_)
              refine lv_istore (lv' := [(5, .int v_216), (4, .int r_193), (0, .ref (ad 0)), (1, .int a1), (2, .int a2), (3, .int a3)]) C0.1 C0.2.1 dX12_round_89 hl (by decide) rfl (fun ls hl => ?_)
              have lp_221 : ∀ (n_223 : Nat) (x5_218 : Int32) (H : Heap) (locs : List Loc) (ls : Array Slot) (ws_219 : va_W), 4 - x5_218.toInt < (n_223 : Int) → 0 ≤ x5_218.toInt → x5_218.toInt ≤ 4 → (∀ j : Nat, (j : Int) < x5_218.toInt → 0 ≤ (aL ws_219 25 (40 * a2.toInt.toNat + j)).toInt ∧ (aL ws_219 25 (40 * a2.toInt.toNat + j)).toInt ≤ 24) → Wt G (SM tt) ad A s H locs ws_219 → Fr (SM tt) [] ws_208 ws_219 → lv_has ls 6 [(5, .int x5_218), (4, .int r_193), (0, .ref (ad 0)), (1, .int a1), (2, .int a2), (3, .int a3)] → W p l e (rmd 13 0 0) s m args below meth c H locs 0 0 Q (F0 m 91 ls []) := by
                intro n_223
                induction n_223 with
                | zero => intro x5_218 H locs ls ws_219 hn_224 b_225 b_226 hNu h hF_220 hl; exact ((o38_4 b_225 b_226 hn_224)).elim
                | succ n_223 ih_222 =>
                  intro x5_218 H locs ls ws_219 hn_224 b_225 b_226 hNu h hF_220 hl
                  refine lv_iload C0.1 C0.2.1 dX12_round_91 (lv_at hl 0 rfl) ?_
                  refine lv_aload_n C0.1 C0.2.1 dX12_round_93 rfl (lv_at hl 2 rfl) ?_
                  refine ng_X12_rowMany C0 h kSM_0 q_1480 dX12_round_94 ?_
                  refine lv_iload_n C0.1 C0.2.1 dX12_round_97 rfl (lv_at hl 4 rfl) ?_
                  refine y_iald C0 h kSM_24 rfl (by decide) (o38_184 e_19 e_21 e_23 e_28 e_29 e_30 c_31 e_194 e_195 e_196 c_197) (o38_185 e_19 e_21 e_23 e_28 e_29 e_30 c_31 e_194 e_195 e_196 c_197) dX12_round_98 (fun v_227 e_228 e_229 e_230 => ?_)
                  have q_231 : v_227.toInt = v_198.toInt := congrArg Int32.toInt (e_228.symm.trans (Eq.trans rfl (Eq.trans (Eq.trans (Fr.aI hF_220 kSM_24 (by decide)) (Fr.aI u_209 kSM_24 (by decide))) e_199)))
                  refine y_icmp_ge (tgt := 130) C0 dX12_round_99 (by decide) (fun c_232 => ?_) (fun c_232 => ?_)
                  · -- 99
                    have hN_233 : NumOk ws_219 a2 := num_e hNu (Eq.trans rfl (Eq.trans (Eq.trans (Fr.aI hF_220 kSM_24 (by decide)) (Fr.aI u_209 kSM_24 (by decide))) e_199)) (o38_186 e_200 e_201 e_203 e_205 e_207 e_212 e_213 e_214 c_215 b_225 b_226 hn_224 e_229 e_230 q_231 c_232)
                    refine lv_aload_n C0.1 C0.2.1 dX12_round_130 rfl (lv_at hl 2 rfl) ?_
                    refine y_c1 (n := (-1)) C0 (by decide) dX12_round_131 (fun v_234 e_235 => ?_)
                    refine np_X12_bestLefts C0 h kSM_0 q_1473 (le_min v_234) (le_max v_234) dX12_round_132 (fun H locs ws_236 h u_237 => ?_)
                    refine lv_aload_n C0.1 C0.2.1 dX12_round_135 rfl (lv_at hl 2 rfl) ?_
                    refine lv_iload_n C0.1 C0.2.1 dX12_round_136 rfl (lv_at hl 4 rfl) ?_
                    refine y_c1 (n := 0) C0 (by decide) dX12_round_137 (fun v_238 e_239 => ?_)
                    refine y_c1 (n := 0) C0 (by decide) dX12_round_138 (fun v_240 e_241 => ?_)
                    refine y_c1 (n := 4) C0 (by decide) dX12_round_139 (fun v_242 e_243 => ?_)
                    refine lv_aload_n C0.1 C0.2.1 dX12_round_140 rfl (lv_at hl 2 rfl) ?_
                    refine ng_X12_all C0 h kSM_0 q_1439 dX12_round_141 ?_
                    refine y_c2 (n := 36) C0 (by decide) dX12_round_144 (fun v_244 e_245 => ?_)
                    refine lv_iload_n C0.1 C0.2.1 dX12_round_146 rfl (lv_at hl 3 rfl) ?_
                    refine y_add C0 (o38_187 e_6 e_11 e_12 e_13 c_15 e_245 (le_min v_244) (le_max v_244) (le_min a1) (le_max a1) (le_min r_10) (le_max r_10)) (o38_188 e_6 e_11 e_12 e_13 c_15 e_245 (le_min v_244) (le_max v_244) (le_min a1) (le_max a1) (le_min r_10) (le_max r_10)) dX12_round_147 (fun v_246 e_247 => ?_)
                    refine y_iald C0 h kSM_1 rfl (by decide) (o38_189 e_6 e_11 e_12 e_13 c_15 e_245 e_247) (o38_190 e_6 e_11 e_12 e_13 c_15 e_245 e_247) dX12_round_148 (fun v_248 e_249 e_250 e_251 => ?_)
                    have f_252 := o38_191 v_246.toInt.toNat (o38_192 e_6 e_11 e_12 e_13 c_15 e_245 e_247) (o38_193 e_6 e_11 e_12 e_13 c_15 e_245 e_247)
                    refine y_cmul (n := 4) C0 (o38_194 e_243) (o38_195 (Int.le_trans f_252.1 e_250) (Int.le_trans e_251 f_252.2) (le_min v_248) (le_max v_248)) (o38_196 (Int.le_trans f_252.1 e_250) (Int.le_trans e_251 f_252.2) (le_min v_248) (le_max v_248)) dX12_round_149 (fun v_253 e_254 => ?_)
                    refine lv_aload_n C0.1 C0.2.1 dX12_round_150 rfl (lv_at hl 2 rfl) ?_
                    refine ng_X12_all C0 h kSM_0 q_1439 dX12_round_151 ?_
                    refine y_c2 (n := 41) C0 (by decide) dX12_round_154 (fun v_255 e_256 => ?_)
                    refine lv_iload_n C0.1 C0.2.1 dX12_round_156 rfl (lv_at hl 3 rfl) ?_
                    refine y_add C0 (o38_197 e_6 e_11 e_12 e_13 c_15 e_245 e_247 e_256 (le_min v_255) (le_max v_255) (le_min a1) (le_max a1) (le_min r_10) (le_max r_10) (le_min v_244) (le_max v_244) (le_min v_246) (le_max v_246)) (o38_198 e_6 e_11 e_12 e_13 c_15 e_245 e_247 e_256 (le_min v_255) (le_max v_255) (le_min a1) (le_max a1) (le_min r_10) (le_max r_10) (le_min v_244) (le_max v_244) (le_min v_246) (le_max v_246)) dX12_round_157 (fun v_257 e_258 => ?_)
                    refine y_iald C0 h kSM_1 rfl (by decide) (o38_199 e_6 e_11 e_12 e_13 c_15 e_245 e_247 e_256 e_258) (o38_200 e_6 e_11 e_12 e_13 c_15 e_245 e_247 e_256 e_258) dX12_round_158 (fun v_259 e_260 e_261 e_262 => ?_)
                    have f_263 := o38_201 v_257.toInt.toNat (o38_202 e_6 e_11 e_12 e_13 c_15 e_245 e_247 e_256 e_258) (o38_203 e_6 e_11 e_12 e_13 c_15 e_245 e_247 e_256 e_258)
                    refine y_add C0 (o38_204 (Int.le_trans f_252.1 e_250) (Int.le_trans e_251 f_252.2) e_254 (Int.le_trans f_263.1 e_261) (Int.le_trans e_262 f_263.2) (le_min v_253) (le_max v_253) (le_min v_259) (le_max v_259) (le_min v_248) (le_max v_248)) (o38_205 (Int.le_trans f_252.1 e_250) (Int.le_trans e_251 f_252.2) e_254 (Int.le_trans f_263.1 e_261) (Int.le_trans e_262 f_263.2) (le_min v_253) (le_max v_253) (le_min v_259) (le_max v_259) (le_min v_248) (le_max v_248)) dX12_round_159 (fun v_264 e_265 => ?_)
                    refine y_c1 (n := 0) C0 (by decide) dX12_round_160 (fun v_266 e_267 => ?_)
                    refine y_c1 (n := 0) C0 (by decide) dX12_round_161 (fun v_268 e_269 => ?_)
                    refine y_cv h (y_rV (As := [.int a2, .int v_238, .int v_240, .int v_264, .int v_266, .int v_268]) (rest := []) C0 hZ h (c_X12_goesRound_0 l G Z ad _ h.2 a2 v_238 v_240 v_264 v_266 v_268 (o38_184 e_19 e_21 e_23 e_28 e_29 e_30 c_31 e_194 e_195 e_196 c_197) (o38_206 e_19 e_21 e_23 e_28 e_29 e_30 c_31 e_194 e_195 e_196 c_197) (o38_13 e_239) (o38_207 e_239) (o38_208 (Int.le_trans f_252.1 e_250) (Int.le_trans e_251 f_252.2) e_254 (Int.le_trans f_263.1 e_261) (Int.le_trans e_262 f_263.2) e_265) (o38_209 (Int.le_trans f_252.1 e_250) (Int.le_trans e_251 f_252.2) e_254 (Int.le_trans f_263.1 e_261) (Int.le_trans e_262 f_263.2) e_265) (fbd_lo (Eq.trans rfl (Eq.trans (Eq.trans (aI_of (u_237.1 24 (kd_ne (S := SM q0) kSM_24 kSM_0 (by decide)))) (Eq.trans (Fr.aI hF_220 kSM_24 (by decide)) (Fr.aI u_209 kSM_24 (by decide)))) e_199)) (o38_210 e_200 e_201 e_203 e_205 e_207 e_212 e_213 e_214 c_215 b_225 b_226 hn_224 e_229 e_230 q_231 c_232)) (fbd_hi (Eq.trans rfl (Eq.trans (Eq.trans (aI_of (u_237.1 24 (kd_ne (S := SM q0) kSM_24 kSM_0 (by decide)))) (Eq.trans (Fr.aI hF_220 kSM_24 (by decide)) (Fr.aI u_209 kSM_24 (by decide)))) e_199)) (o38_211 e_200 e_201 e_203 e_205 e_207 e_212 e_213 e_214 c_215 b_225 b_226 hn_224 e_229 e_230 q_231 c_232)) (NumOk.fr (M := [0]) hN_233 (Fr.up u_237.1 kSM_0 (by decide)) (by decide) (by decide)) (J.pa hT hJ (Pa.tr (Pa.tr (Pa.tr (Pa.tr (Pa.tr (Pa.tr (Pa.tr (Pa.tr (Pa.ud u_4.1 (by decide)) (Pa.fr u_8 (by decide))) (Pa.fr u_25 (by decide))) (Pa.fr u_41 (by decide))) (Pa.fr u_183 (by decide))) (Pa.fr u_191 (by decide))) (Pa.fr u_209 (by decide))) (Pa.fr hF_220 (by decide))) (Pa.ud u_237.1 (by decide)))) (Laid.pa (Or.resolve_left e_14 (o38_212 e_6 e_11 e_12 e_13 c_15 e_245 e_247 e_256 e_258)) (Pa.tr (Pa.tr (Pa.tr (Pa.tr (Pa.tr (Pa.tr (Pa.tr (Pa.fr u_8 (by decide)) (Pa.fr u_25 (by decide))) (Pa.fr u_41 (by decide))) (Pa.fr u_183 (by decide))) (Pa.fr u_191 (by decide))) (Pa.fr u_209 (by decide))) (Pa.fr hF_220 (by decide))) (Pa.ud u_237.1 (by decide))))) k_X12_goesRound q_1966 q_113 q_1964 kSM_0 rfl rfl rfl hl.1 rfl rfl (Nat.le_of_ble_eq_true rfl) dX12_round_162 ⟨Nat.le_of_ble_eq_true rfl, Nat.le_of_ble_eq_true rfl⟩ ⟨Nat.le_of_ble_eq_true rfl, Nat.le_of_ble_eq_true rfl⟩) (fun H locs ws_270 h u_271 p_272 => ?_)
                    refine lv_aload_n C0.1 C0.2.1 dX12_round_165 rfl (lv_at hl 2 rfl) ?_
                    refine ng_X12_bestLefts C0 h kSM_0 q_1473 dX12_round_166 (fun v_273 e_274 e_275 e_276 => ?_)
                    refine y_c1 (n := (-1)) C0 (by decide) dX12_round_169 (fun v_277 e_278 => ?_)
                    refine y_icmp_ne (tgt := 175) C0 dX12_round_170 (by decide) (fun c_279 => ?_) (fun c_279 => ?_)
                    · -- 170
                      refine lv_iload_n C0.1 C0.2.1 dX12_round_175 rfl (lv_at hl 5 rfl) ?_
                      refine y_if_ne (tgt := 186) C0 dX12_round_176 (by decide) (fun c_280 => ?_) (fun c_280 => ((o38_227 e_35 e_37 e_39 e_44 e_45 e_46 c_47 e_177 e_179 e_181 e_186 e_187 e_188 c_189 c_280)).elim)
                      refine lv_iload_n C0.1 C0.2.1 dX12_round_186 rfl (lv_at hl 5 rfl) ?_
                      refine y_c1 (n := 1) C0 (by decide) dX12_round_187 (fun v_281 e_282 => ?_)
                      refine y_icmp_ne (tgt := 198) C0 dX12_round_188 (by decide) (fun c_283 => ?_) (fun c_283 => ((o38_228 e_35 e_37 e_39 e_44 e_45 e_46 c_47 e_177 e_179 e_181 e_186 e_187 e_188 c_189 c_280 e_282 c_283)).elim)
                      refine lv_iload_n C0.1 C0.2.1 dX12_round_198 rfl (lv_at hl 5 rfl) ?_
                      refine y_c2 (n := 10) C0 (by decide) dX12_round_199 (fun v_284 e_285 => ?_)
                      refine y_sub C0 (o38_229 e_35 e_37 e_39 e_44 e_45 e_46 c_47 e_177 e_179 e_181 e_186 e_187 e_188 c_189 c_280 e_282 c_283 e_285 (le_min a3) (le_max a3) (le_min v_284) (le_max v_284) (le_min r_43) (le_max r_43) (le_min r_185) (le_max r_185) (le_min v_281) (le_max v_281)) (o38_230 e_35 e_37 e_39 e_44 e_45 e_46 c_47 e_177 e_179 e_181 e_186 e_187 e_188 c_189 c_280 e_282 c_283 e_285 (le_min a3) (le_max a3) (le_min v_284) (le_max v_284) (le_min r_43) (le_max r_43) (le_min r_185) (le_max r_185) (le_min v_281) (le_max v_281)) dX12_round_201 (fun v_286 e_287 => ?_)
                      refine lv_aload_n C0.1 C0.2.1 dX12_round_202 rfl (lv_at hl 2 rfl) ?_
                      refine ng_X12_rowMany C0 h kSM_0 q_1480 dX12_round_203 ?_
                      refine lv_iload_n C0.1 C0.2.1 dX12_round_206 rfl (lv_at hl 4 rfl) ?_
                      refine y_iald C0 h kSM_24 rfl (by decide) (o38_184 e_19 e_21 e_23 e_28 e_29 e_30 c_31 e_194 e_195 e_196 c_197) (o38_185 e_19 e_21 e_23 e_28 e_29 e_30 c_31 e_194 e_195 e_196 c_197) dX12_round_207 (fun v_288 e_289 e_290 e_291 => ?_)
                      have q_292 : v_288.toInt = v_198.toInt := congrArg Int32.toInt (e_289.symm.trans (Eq.trans rfl (Eq.trans (Eq.trans (Fr.aI u_271 kSM_24 (by decide)) (Eq.trans (aI_of (u_237.1 24 (kd_ne (S := SM q0) kSM_24 kSM_0 (by decide)))) (Eq.trans (Fr.aI hF_220 kSM_24 (by decide)) (Fr.aI u_209 kSM_24 (by decide))))) e_199)))
                      refine y_icmp_ge (tgt := 223) C0 dX12_round_208 (by decide) (fun c_293 => ?_) (fun c_293 => ?_)
                      · -- 208
                        refine y_c1 (n := (-1)) C0 (by decide) dX12_round_223 (fun v_294 e_295 => ?_)
                        rw [hQ]
                        exact y_iret C0 h (Fr.tr (Fr.tr (Fr.tr (Fr.tr (Fr.tr (Fr.tr (Fr.tr (Fr.tr (Fr.tr (Fr.up u_4.1 kSM_0 (by decide)) (Fr.mono u_8 (by decide))) (Fr.mono u_25 (by decide))) (Fr.mono u_41 (by decide))) (Fr.mono u_183 (by decide))) (Fr.mono u_191 (by decide))) (Fr.mono u_209 (by decide))) (Fr.mono hF_220 (by decide))) (Fr.up u_237.1 kSM_0 (by decide))) u_271) trivial dX12_round_224
                      · -- 208
                        refine lv_aload_n C0.1 C0.2.1 dX12_round_211 rfl (lv_at hl 2 rfl) ?_
                        refine ng_X12_bestRow C0 h kSM_0 q_1472 dX12_round_212 ?_
                        refine lv_iload_n C0.1 C0.2.1 dX12_round_215 rfl (lv_at hl 5 rfl) ?_
                        refine y_c2 (n := 10) C0 (by decide) dX12_round_216 (fun v_296 e_297 => ?_)
                        refine y_sub C0 (o38_231 e_35 e_37 e_39 e_44 e_45 e_46 c_47 e_177 e_179 e_181 e_186 e_187 e_188 c_189 e_200 e_201 e_203 e_205 e_207 e_212 e_213 e_214 c_215 b_225 b_226 hn_224 e_229 e_230 q_231 c_232 c_280 e_282 c_283 e_285 e_287 e_290 e_291 q_292 c_293 e_297 (le_min a3) (le_max a3) (le_min v_296) (le_max v_296) (le_min r_43) (le_max r_43) (le_min r_185) (le_max r_185) (le_min v_198) (le_max v_198) (le_min r_211) (le_max r_211) (le_min x5_218) (le_max x5_218) (le_min v_227) (le_max v_227) (le_min v_281) (le_max v_281) (le_min v_284) (le_max v_284) (le_min v_286) (le_max v_286) (le_min v_288) (le_max v_288)) (o38_232 e_35 e_37 e_39 e_44 e_45 e_46 c_47 e_177 e_179 e_181 e_186 e_187 e_188 c_189 e_200 e_201 e_203 e_205 e_207 e_212 e_213 e_214 c_215 b_225 b_226 hn_224 e_229 e_230 q_231 c_232 c_280 e_282 c_283 e_285 e_287 e_290 e_291 q_292 c_293 e_297 (le_min a3) (le_max a3) (le_min v_296) (le_max v_296) (le_min r_43) (le_max r_43) (le_min r_185) (le_max r_185) (le_min v_198) (le_max v_198) (le_min r_211) (le_max r_211) (le_min x5_218) (le_max x5_218) (le_min v_227) (le_max v_227) (le_min v_281) (le_max v_281) (le_min v_284) (le_max v_284) (le_min v_286) (le_max v_286) (le_min v_288) (le_max v_288)) dX12_round_218 (fun v_298 e_299 => ?_)
                        refine y_iald C0 h kSM_19 rfl (by decide) (o38_233 e_35 e_37 e_39 e_44 e_45 e_46 c_47 e_177 e_179 e_181 e_186 e_187 e_188 c_189 e_200 e_201 e_203 e_205 e_207 e_212 e_213 e_214 c_215 b_225 b_226 hn_224 e_229 e_230 q_231 c_232 c_280 e_282 c_283 e_285 e_287 e_290 e_291 q_292 c_293 e_297 e_299) (o38_234 e_35 e_37 e_39 e_44 e_45 e_46 c_47 e_177 e_179 e_181 e_186 e_187 e_188 c_189 e_200 e_201 e_203 e_205 e_207 e_212 e_213 e_214 c_215 b_225 b_226 hn_224 e_229 e_230 q_231 c_232 c_280 e_282 c_283 e_285 e_287 e_290 e_291 q_292 c_293 e_297 e_299) dX12_round_219 (fun v_300 e_301 e_302 e_303 => ?_)
                        refine lv_goto (tgt := 224) C0.1 C0.2.1 dX12_round_220 (by decide) ?_
                        rw [hQ]
                        exact y_iret C0 h (Fr.tr (Fr.tr (Fr.tr (Fr.tr (Fr.tr (Fr.tr (Fr.tr (Fr.tr (Fr.tr (Fr.up u_4.1 kSM_0 (by decide)) (Fr.mono u_8 (by decide))) (Fr.mono u_25 (by decide))) (Fr.mono u_41 (by decide))) (Fr.mono u_183 (by decide))) (Fr.mono u_191 (by decide))) (Fr.mono u_209 (by decide))) (Fr.mono hF_220 (by decide))) (Fr.up u_237.1 kSM_0 (by decide))) u_271) trivial dX12_round_224
                    · -- 170
                      refine y_c1 (n := (-1)) C0 (by decide) dX12_round_173 (fun v_304 e_305 => ?_)
                      rw [hQ]
                      exact y_iret C0 h (Fr.tr (Fr.tr (Fr.tr (Fr.tr (Fr.tr (Fr.tr (Fr.tr (Fr.tr (Fr.tr (Fr.up u_4.1 kSM_0 (by decide)) (Fr.mono u_8 (by decide))) (Fr.mono u_25 (by decide))) (Fr.mono u_41 (by decide))) (Fr.mono u_183 (by decide))) (Fr.mono u_191 (by decide))) (Fr.mono u_209 (by decide))) (Fr.mono hF_220 (by decide))) (Fr.up u_237.1 kSM_0 (by decide))) u_271) trivial dX12_round_174
                  · -- 99
                    refine lv_aload_n C0.1 C0.2.1 dX12_round_102 rfl (lv_at hl 2 rfl) ?_
                    refine lv_aload_n C0.1 C0.2.1 dX12_round_103 rfl (lv_at hl 2 rfl) ?_
                    refine ng_X12_numbers C0 h kSM_0 q_1481 dX12_round_104 ?_
                    refine y_c2 (n := 40) C0 (by decide) dX12_round_107 (fun v_306 e_307 => ?_)
                    refine lv_iload_n C0.1 C0.2.1 dX12_round_109 rfl (lv_at hl 4 rfl) ?_
                    refine y_cmul (n := 40) C0 (o38_15 e_307) (o38_214 e_19 e_21 e_23 e_28 e_29 e_30 c_31 e_194 e_195 e_196 c_197 (le_min a2) (le_max a2) (le_min r_27) (le_max r_27) (le_min r_193) (le_max r_193)) (o38_215 e_19 e_21 e_23 e_28 e_29 e_30 c_31 e_194 e_195 e_196 c_197 (le_min a2) (le_max a2) (le_min r_27) (le_max r_27) (le_min r_193) (le_max r_193)) dX12_round_110 (fun v_308 e_309 => ?_)
                    refine lv_iload C0.1 C0.2.1 dX12_round_111 (lv_at hl 0 rfl) ?_
                    refine y_add C0 (o38_216 e_19 e_21 e_23 e_28 e_29 e_30 c_31 e_194 e_195 e_196 c_197 e_200 e_201 e_203 e_205 e_207 e_212 e_213 e_214 c_215 b_225 b_226 hn_224 e_229 e_230 q_231 c_232 e_309 (le_min v_308) (le_max v_308) (le_min x5_218) (le_max x5_218) (le_min a2) (le_max a2) (le_min r_27) (le_max r_27) (le_min r_193) (le_max r_193) (le_min v_198) (le_max v_198) (le_min r_211) (le_max r_211) (le_min v_227) (le_max v_227)) (o38_217 e_19 e_21 e_23 e_28 e_29 e_30 c_31 e_194 e_195 e_196 c_197 e_200 e_201 e_203 e_205 e_207 e_212 e_213 e_214 c_215 b_225 b_226 hn_224 e_229 e_230 q_231 c_232 e_309 (le_min v_308) (le_max v_308) (le_min x5_218) (le_max x5_218) (le_min a2) (le_max a2) (le_min r_27) (le_max r_27) (le_min r_193) (le_max r_193) (le_min v_198) (le_max v_198) (le_min r_211) (le_max r_211) (le_min v_227) (le_max v_227)) dX12_round_113 (fun v_310 e_311 => ?_)
                    refine y_lald C0 h kSM_25 rfl (by decide) (o38_218 e_19 e_21 e_23 e_28 e_29 e_30 c_31 e_194 e_195 e_196 c_197 e_200 e_201 e_203 e_205 e_207 e_212 e_213 e_214 c_215 b_225 b_226 hn_224 e_229 e_230 q_231 c_232 e_309 e_311) (o38_219 e_19 e_21 e_23 e_28 e_29 e_30 c_31 e_194 e_195 e_196 c_197 e_200 e_201 e_203 e_205 e_207 e_212 e_213 e_214 c_215 b_225 b_226 hn_224 e_229 e_230 q_231 c_232 e_309 e_311) dX12_round_114 (fun w_312 e_313 => ?_)
                    refine y_ci h (y_rV (As := [.long w_312]) (rest := []) C0 hZ h (c_X12_isCrossing l G Z ad _ h.2 w_312) k_X12_isCrossing q_1701 q_78 q_1699 kSM_0 rfl rfl rfl hl.1 rfl rfl (Nat.le_of_ble_eq_true rfl) dX12_round_115 ⟨Nat.le_of_ble_eq_true rfl, Nat.le_of_ble_eq_true rfl⟩ ⟨Nat.le_of_ble_eq_true rfl, Nat.le_of_ble_eq_true rfl⟩) (fun r_317 H locs ws_314 h u_315 p_316 => ?_)
                    obtain ⟨e_318, e_319, e_320, e_321⟩ := p_316
                    refine y_if_ne (tgt := 124) C0 dX12_round_118 (by decide) (fun c_322 => ?_) (fun c_322 => ?_)
                    · -- 118
                      refine y_inc (kp := 0) (n := 1) (fun v_323 => [(5, .int v_323), (4, .int r_193), (0, .ref (ad 0)), (1, .int a1), (2, .int a2), (3, .int a3)]) C0 hl rfl (by decide) (by decide) (fun _ => rfl) (o38_220 e_19 e_21 e_23 e_28 e_29 e_30 c_31 e_194 e_195 e_196 c_197 e_200 e_201 e_203 e_205 e_207 e_212 e_213 e_214 c_215 b_225 b_226 hn_224 e_229 e_230 q_231 c_232 e_309 e_311 (le_min x5_218) (le_max x5_218) (le_min a2) (le_max a2) (le_min r_27) (le_max r_27) (le_min r_193) (le_max r_193) (le_min v_198) (le_max v_198) (le_min r_211) (le_max r_211) (le_min v_227) (le_max v_227) (le_min v_308) (le_max v_308) (le_min v_310) (le_max v_310)) (o38_221 e_19 e_21 e_23 e_28 e_29 e_30 c_31 e_194 e_195 e_196 c_197 e_200 e_201 e_203 e_205 e_207 e_212 e_213 e_214 c_215 b_225 b_226 hn_224 e_229 e_230 q_231 c_232 e_309 e_311 (le_min x5_218) (le_max x5_218) (le_min a2) (le_max a2) (le_min r_27) (le_max r_27) (le_min r_193) (le_max r_193) (le_min v_198) (le_max v_198) (le_min r_211) (le_max r_211) (le_min v_227) (le_max v_227) (le_min v_308) (le_max v_308) (le_min v_310) (le_max v_310)) dX12_round_124 (fun v_323 ls e_324 hl => ?_)
                      refine lv_goto (tgt := 91) C0.1 C0.2.1 dX12_round_127 (by decide) ?_
                      exact ih_222 v_323 _ _ _ _ (o38_222 e_19 e_21 e_23 e_28 e_29 e_30 c_31 e_194 e_195 e_196 c_197 e_200 e_201 e_203 e_205 e_207 e_212 e_213 e_214 c_215 b_225 b_226 hn_224 e_229 e_230 q_231 c_232 e_309 e_311 e_324) (o38_223 e_19 e_21 e_23 e_28 e_29 e_30 c_31 e_194 e_195 e_196 c_197 e_200 e_201 e_203 e_205 e_207 e_212 e_213 e_214 c_215 b_225 b_226 hn_224 e_229 e_230 q_231 c_232 e_309 e_311 e_324) (o38_224 e_19 e_21 e_23 e_28 e_29 e_30 c_31 e_194 e_195 e_196 c_197 e_200 e_201 e_203 e_205 e_207 e_212 e_213 e_214 c_215 b_225 b_226 hn_224 e_229 e_230 q_231 c_232 e_309 e_311 e_324) ((num_s (M := []) hNu u_315 (by decide) (o38_225 e_19 e_21 e_23 e_28 e_29 e_30 c_31 e_194 e_195 e_196 c_197 e_200 e_201 e_203 e_205 e_207 e_212 e_213 e_214 c_215 b_225 b_226 hn_224 e_229 e_230 q_231 c_232 e_309 e_311 e_324) (Eq.trans (Fr.aL u_315 kSM_25 (by decide)) e_313) e_324 (o38_226 e_19 e_21 e_23 e_28 e_29 e_30 c_31 e_194 e_195 e_196 c_197 e_200 e_201 e_203 e_205 e_207 e_212 e_213 e_214 c_215 b_225 b_226 hn_224 e_229 e_230 q_231 c_232 e_309 e_311 e_318 e_319 e_320 c_322 e_324))) h (Fr.tr hF_220 u_315) (lv_sub hl [0, 1, 2, 3, 4, 5] rfl)
                    · -- 118
                      refine y_c2 (n := (-3)) C0 (by decide) dX12_round_121 (fun v_325 e_326 => ?_)
                      rw [hQ]
                      exact y_iret C0 h (Fr.tr (Fr.tr (Fr.tr (Fr.tr (Fr.tr (Fr.tr (Fr.tr (Fr.tr (Fr.up u_4.1 kSM_0 (by decide)) (Fr.mono u_8 (by decide))) (Fr.mono u_25 (by decide))) (Fr.mono u_41 (by decide))) (Fr.mono u_183 (by decide))) (Fr.mono u_191 (by decide))) (Fr.mono u_209 (by decide))) (Fr.mono hF_220 (by decide))) (Fr.mono u_315 (by decide))) trivial dX12_round_123
              exact lp_221 ((4 - v_216.toInt + 1).toNat) v_216 _ _ _ _ (o38_12 e_217) (o38_13 e_217) (o38_14 e_217) ((num_0 e_217)) h Fr.rf (lv_sub hl [0, 1, 2, 3, 4, 5] rfl)
            · -- 82
              refine y_c2 (n := (-4)) C0 (by decide) dX12_round_85 (fun v_327 e_328 => ?_)
              rw [hQ]
              exact y_iret C0 h (Fr.tr (Fr.tr (Fr.tr (Fr.tr (Fr.tr (Fr.tr (Fr.up u_4.1 kSM_0 (by decide)) (Fr.mono u_8 (by decide))) (Fr.mono u_25 (by decide))) (Fr.mono u_41 (by decide))) (Fr.mono u_183 (by decide))) (Fr.mono u_191 (by decide))) (Fr.mono u_209 (by decide))) trivial dX12_round_87
          · -- 62
            refine lv_iload C0.1 C0.2.1 dX12_round_65 (lv_at hl 0 rfl) ?_
            rw [hQ]
            exact y_iret C0 h (Fr.tr (Fr.tr (Fr.tr (Fr.tr (Fr.tr (Fr.up u_4.1 kSM_0 (by decide)) (Fr.mono u_8 (by decide))) (Fr.mono u_25 (by decide))) (Fr.mono u_41 (by decide))) (Fr.mono u_183 (by decide))) (Fr.mono u_191 (by decide))) trivial dX12_round_67
        · -- 47
          refine y_c2 (n := (-2)) C0 (by decide) dX12_round_50 (fun v_329 e_330 => ?_)
          rw [hQ]
          exact y_iret C0 h (Fr.tr (Fr.tr (Fr.tr (Fr.tr (Fr.up u_4.1 kSM_0 (by decide)) (Fr.mono u_8 (by decide))) (Fr.mono u_25 (by decide))) (Fr.mono u_41 (by decide))) (Fr.mono u_183 (by decide))) trivial dX12_round_52
