theorem dX12_goesRound_0 : decode cX12_goesRound 0 = .ok (.iload_n 2, 1) := by decide +kernel
theorem dX12_goesRound_1 : decode cX12_goesRound 1 = .ok (.aload_n 0, 1) := by decide +kernel
theorem dX12_goesRound_2 : decode cX12_goesRound 2 = .ok (.getfield 89, 3) := by decide +kernel
theorem dX12_goesRound_5 : decode cX12_goesRound 5 = .ok (.iload_n 1, 1) := by decide +kernel
theorem dX12_goesRound_6 : decode cX12_goesRound 6 = .ok (.iaload, 1) := by decide +kernel
theorem dX12_goesRound_7 : decode cX12_goesRound 7 = .ok (.if_icmp .ne 81, 3) := by decide +kernel
theorem dX12_goesRound_10 : decode cX12_goesRound 10 = .ok (.aload_n 0, 1) := by decide +kernel
theorem dX12_goesRound_11 : decode cX12_goesRound 11 = .ok (.getfield 417, 3) := by decide +kernel
theorem dX12_goesRound_14 : decode cX12_goesRound 14 = .ok (.iconst (-1), 1) := by decide +kernel
theorem dX12_goesRound_15 : decode cX12_goesRound 15 = .ok (.if_icmp .eq 31, 3) := by decide +kernel
theorem dX12_goesRound_18 : decode cX12_goesRound 18 = .ok (.iload 5, 2) := by decide +kernel
theorem dX12_goesRound_20 : decode cX12_goesRound 20 = .ok (.aload_n 0, 1) := by decide +kernel
theorem dX12_goesRound_21 : decode cX12_goesRound 21 = .ok (.getfield 417, 3) := by decide +kernel
theorem dX12_goesRound_24 : decode cX12_goesRound 24 = .ok (.if_icmp .gt 21, 3) := by decide +kernel
theorem dX12_goesRound_27 : decode cX12_goesRound 27 = .ok (.iload 5, 2) := by decide +kernel
theorem dX12_goesRound_29 : decode cX12_goesRound 29 = .ok (.aload_n 0, 1) := by decide +kernel
theorem dX12_goesRound_30 : decode cX12_goesRound 30 = .ok (.getfield 417, 3) := by decide +kernel
theorem dX12_goesRound_33 : decode cX12_goesRound 33 = .ok (.if_icmp .ne 13, 3) := by decide +kernel
theorem dX12_goesRound_36 : decode cX12_goesRound 36 = .ok (.iload 6, 2) := by decide +kernel
theorem dX12_goesRound_38 : decode cX12_goesRound 38 = .ok (.aload_n 0, 1) := by decide +kernel
theorem dX12_goesRound_39 : decode cX12_goesRound 39 = .ok (.getfield 420, 3) := by decide +kernel
theorem dX12_goesRound_42 : decode cX12_goesRound 42 = .ok (.if_icmp .lt 4, 3) := by decide +kernel
theorem dX12_goesRound_45 : decode cX12_goesRound 45 = .ok (.return_, 1) := by decide +kernel
theorem dX12_goesRound_46 : decode cX12_goesRound 46 = .ok (.aload_n 0, 1) := by decide +kernel
theorem dX12_goesRound_47 : decode cX12_goesRound 47 = .ok (.iload 5, 2) := by decide +kernel
theorem dX12_goesRound_49 : decode cX12_goesRound 49 = .ok (.putfield 417, 3) := by decide +kernel
theorem dX12_goesRound_52 : decode cX12_goesRound 52 = .ok (.aload_n 0, 1) := by decide +kernel
theorem dX12_goesRound_53 : decode cX12_goesRound 53 = .ok (.iload 6, 2) := by decide +kernel
theorem dX12_goesRound_55 : decode cX12_goesRound 55 = .ok (.putfield 420, 3) := by decide +kernel
theorem dX12_goesRound_58 : decode cX12_goesRound 58 = .ok (.iconst 0, 1) := by decide +kernel
theorem dX12_goesRound_59 : decode cX12_goesRound 59 = .ok (.istore 7, 2) := by decide +kernel
theorem dX12_goesRound_61 : decode cX12_goesRound 61 = .ok (.iload 7, 2) := by decide +kernel
theorem dX12_goesRound_63 : decode cX12_goesRound 63 = .ok (.iload_n 2, 1) := by decide +kernel
theorem dX12_goesRound_64 : decode cX12_goesRound 64 = .ok (.if_icmp .ge 23, 3) := by decide +kernel
theorem dX12_goesRound_67 : decode cX12_goesRound 67 = .ok (.aload_n 0, 1) := by decide +kernel
theorem dX12_goesRound_68 : decode cX12_goesRound 68 = .ok (.getfield 73, 3) := by decide +kernel
theorem dX12_goesRound_71 : decode cX12_goesRound 71 = .ok (.iload 7, 2) := by decide +kernel
theorem dX12_goesRound_73 : decode cX12_goesRound 73 = .ok (.aload_n 0, 1) := by decide +kernel
theorem dX12_goesRound_74 : decode cX12_goesRound 74 = .ok (.getfield 70, 3) := by decide +kernel
theorem dX12_goesRound_77 : decode cX12_goesRound 77 = .ok (.iload 7, 2) := by decide +kernel
theorem dX12_goesRound_79 : decode cX12_goesRound 79 = .ok (.iaload, 1) := by decide +kernel
theorem dX12_goesRound_80 : decode cX12_goesRound 80 = .ok (.iastore, 1) := by decide +kernel
theorem dX12_goesRound_81 : decode cX12_goesRound 81 = .ok (.iinc 7 1, 3) := by decide +kernel
theorem dX12_goesRound_84 : decode cX12_goesRound 84 = .ok (.goto (-23), 3) := by decide +kernel
theorem dX12_goesRound_87 : decode cX12_goesRound 87 = .ok (.return_, 1) := by decide +kernel
theorem dX12_goesRound_88 : decode cX12_goesRound 88 = .ok (.iconst 0, 1) := by decide +kernel
theorem dX12_goesRound_89 : decode cX12_goesRound 89 = .ok (.istore 7, 2) := by decide +kernel
theorem dX12_goesRound_91 : decode cX12_goesRound 91 = .ok (.iload 7, 2) := by decide +kernel
theorem dX12_goesRound_93 : decode cX12_goesRound 93 = .ok (.aload_n 0, 1) := by decide +kernel
theorem dX12_goesRound_94 : decode cX12_goesRound 94 = .ok (.getfield 89, 3) := by decide +kernel
theorem dX12_goesRound_97 : decode cX12_goesRound 97 = .ok (.iload_n 1, 1) := by decide +kernel
theorem dX12_goesRound_98 : decode cX12_goesRound 98 = .ok (.iaload, 1) := by decide +kernel
theorem dX12_goesRound_99 : decode cX12_goesRound 99 = .ok (.if_icmp .ge 98, 3) := by decide +kernel
theorem dX12_goesRound_102 : decode cX12_goesRound 102 = .ok (.iload_n 3, 1) := by decide +kernel
theorem dX12_goesRound_103 : decode cX12_goesRound 103 = .ok (.i2l, 1) := by decide +kernel
theorem dX12_goesRound_104 : decode cX12_goesRound 104 = .ok (.iload 7, 2) := by decide +kernel
theorem dX12_goesRound_106 : decode cX12_goesRound 106 = .ok (.invokestatic 229, 3) := by decide +kernel
theorem dX12_goesRound_109 : decode cX12_goesRound 109 = .ok (.ifCond .eq 6, 3) := by decide +kernel
theorem dX12_goesRound_112 : decode cX12_goesRound 112 = .ok (.goto 79, 3) := by decide +kernel
theorem dX12_goesRound_115 : decode cX12_goesRound 115 = .ok (.aload_n 0, 1) := by decide +kernel
theorem dX12_goesRound_116 : decode cX12_goesRound 116 = .ok (.getfield 92, 3) := by decide +kernel
theorem dX12_goesRound_119 : decode cX12_goesRound 119 = .ok (.bipush 40, 2) := by decide +kernel
theorem dX12_goesRound_121 : decode cX12_goesRound 121 = .ok (.iload_n 1, 1) := by decide +kernel
theorem dX12_goesRound_122 : decode cX12_goesRound 122 = .ok (.imul, 1) := by decide +kernel
theorem dX12_goesRound_123 : decode cX12_goesRound 123 = .ok (.iload 7, 2) := by decide +kernel
theorem dX12_goesRound_125 : decode cX12_goesRound 125 = .ok (.iadd, 1) := by decide +kernel
theorem dX12_goesRound_126 : decode cX12_goesRound 126 = .ok (.laload, 1) := by decide +kernel
theorem dX12_goesRound_127 : decode cX12_goesRound 127 = .ok (.l2i, 1) := by decide +kernel
theorem dX12_goesRound_128 : decode cX12_goesRound 128 = .ok (.istore 8, 2) := by decide +kernel
theorem dX12_goesRound_130 : decode cX12_goesRound 130 = .ok (.aload_n 0, 1) := by decide +kernel
theorem dX12_goesRound_131 : decode cX12_goesRound 131 = .ok (.iload 4, 2) := by decide +kernel
theorem dX12_goesRound_133 : decode cX12_goesRound 133 = .ok (.iload 6, 2) := by decide +kernel
theorem dX12_goesRound_135 : decode cX12_goesRound 135 = .ok (.iload 8, 2) := by decide +kernel
theorem dX12_goesRound_137 : decode cX12_goesRound 137 = .ok (.invokevirtual 423, 3) := by decide +kernel
theorem dX12_goesRound_140 : decode cX12_goesRound 140 = .ok (.istore 9, 2) := by decide +kernel
theorem dX12_goesRound_142 : decode cX12_goesRound 142 = .ok (.iload 9, 2) := by decide +kernel
theorem dX12_goesRound_144 : decode cX12_goesRound 144 = .ok (.ldc_w 351, 3) := by decide +kernel
theorem dX12_goesRound_147 : decode cX12_goesRound 147 = .ok (.if_icmp .ne 6, 3) := by decide +kernel
theorem dX12_goesRound_150 : decode cX12_goesRound 150 = .ok (.goto 41, 3) := by decide +kernel
theorem dX12_goesRound_153 : decode cX12_goesRound 153 = .ok (.aload_n 0, 1) := by decide +kernel
theorem dX12_goesRound_154 : decode cX12_goesRound 154 = .ok (.getfield 70, 3) := by decide +kernel
theorem dX12_goesRound_157 : decode cX12_goesRound 157 = .ok (.iload_n 2, 1) := by decide +kernel
theorem dX12_goesRound_158 : decode cX12_goesRound 158 = .ok (.iload 8, 2) := by decide +kernel
theorem dX12_goesRound_160 : decode cX12_goesRound 160 = .ok (.iastore, 1) := by decide +kernel
theorem dX12_goesRound_161 : decode cX12_goesRound 161 = .ok (.aload_n 0, 1) := by decide +kernel
theorem dX12_goesRound_162 : decode cX12_goesRound 162 = .ok (.iload_n 1, 1) := by decide +kernel
theorem dX12_goesRound_163 : decode cX12_goesRound 163 = .ok (.iload_n 2, 1) := by decide +kernel
theorem dX12_goesRound_164 : decode cX12_goesRound 164 = .ok (.iconst 1, 1) := by decide +kernel
theorem dX12_goesRound_165 : decode cX12_goesRound 165 = .ok (.iadd, 1) := by decide +kernel
theorem dX12_goesRound_166 : decode cX12_goesRound 166 = .ok (.iload_n 3, 1) := by decide +kernel
theorem dX12_goesRound_167 : decode cX12_goesRound 167 = .ok (.iconst 1, 1) := by decide +kernel
theorem dX12_goesRound_168 : decode cX12_goesRound 168 = .ok (.iload 7, 2) := by decide +kernel
theorem dX12_goesRound_170 : decode cX12_goesRound 170 = .ok (.ishl, 1) := by decide +kernel
theorem dX12_goesRound_171 : decode cX12_goesRound 171 = .ok (.ior, 1) := by decide +kernel
theorem dX12_goesRound_172 : decode cX12_goesRound 172 = .ok (.aload_n 0, 1) := by decide +kernel
theorem dX12_goesRound_173 : decode cX12_goesRound 173 = .ok (.getfield 388, 3) := by decide +kernel
theorem dX12_goesRound_176 : decode cX12_goesRound 176 = .ok (.iload 5, 2) := by decide +kernel
theorem dX12_goesRound_178 : decode cX12_goesRound 178 = .ok (.iload 9, 2) := by decide +kernel
theorem dX12_goesRound_180 : decode cX12_goesRound 180 = .ok (.iadd, 1) := by decide +kernel
theorem dX12_goesRound_181 : decode cX12_goesRound 181 = .ok (.iload 6, 2) := by decide +kernel
theorem dX12_goesRound_183 : decode cX12_goesRound 183 = .ok (.aload_n 0, 1) := by decide +kernel
theorem dX12_goesRound_184 : decode cX12_goesRound 184 = .ok (.getfield 414, 3) := by decide +kernel
theorem dX12_goesRound_187 : decode cX12_goesRound 187 = .ok (.iadd, 1) := by decide +kernel
theorem dX12_goesRound_188 : decode cX12_goesRound 188 = .ok (.invokevirtual 426, 3) := by decide +kernel
theorem dX12_goesRound_191 : decode cX12_goesRound 191 = .ok (.iinc 7 1, 3) := by decide +kernel
theorem dX12_goesRound_194 : decode cX12_goesRound 194 = .ok (.goto (-103), 3) := by decide +kernel
theorem dX12_goesRound_197 : decode cX12_goesRound 197 = .ok (.return_, 1) := by decide +kernel
theorem dX12_round_0 : decode cX12_round 0 = .ok (.aload_n 0, 1) := by decide +kernel
theorem dX12_round_1 : decode cX12_round 1 = .ok (.iconst 0, 1) := by decide +kernel
theorem dX12_round_2 : decode cX12_round 2 = .ok (.putfield 1, 3) := by decide +kernel
theorem dX12_round_5 : decode cX12_round 5 = .ok (.aload_n 0, 1) := by decide +kernel
theorem dX12_round_6 : decode cX12_round 6 = .ok (.iload_n 1, 1) := by decide +kernel
theorem dX12_round_7 : decode cX12_round 7 = .ok (.i2l, 1) := by decide +kernel
theorem dX12_round_8 : decode cX12_round 8 = .ok (.invokevirtual 253, 3) := by decide +kernel
theorem dX12_round_11 : decode cX12_round 11 = .ok (.ifCond .eq 39, 3) := by decide +kernel
theorem dX12_round_14 : decode cX12_round 14 = .ok (.iload_n 2, 1) := by decide +kernel
theorem dX12_round_15 : decode cX12_round 15 = .ok (.i2l, 1) := by decide +kernel
theorem dX12_round_16 : decode cX12_round 16 = .ok (.lconst 0, 1) := by decide +kernel
theorem dX12_round_17 : decode cX12_round 17 = .ok (.ldc2_w 236, 3) := by decide +kernel
theorem dX12_round_20 : decode cX12_round 20 = .ok (.invokestatic 161, 3) := by decide +kernel
theorem dX12_round_23 : decode cX12_round 23 = .ok (.ifCond .eq 27, 3) := by decide +kernel
theorem dX12_round_26 : decode cX12_round 26 = .ok (.iload_n 3, 1) := by decide +kernel
theorem dX12_round_27 : decode cX12_round 27 = .ok (.i2l, 1) := by decide +kernel
theorem dX12_round_28 : decode cX12_round 28 = .ok (.lconst 0, 1) := by decide +kernel
theorem dX12_round_29 : decode cX12_round 29 = .ok (.lconst 1, 1) := by decide +kernel
theorem dX12_round_30 : decode cX12_round 30 = .ok (.invokestatic 161, 3) := by decide +kernel
theorem dX12_round_33 : decode cX12_round 33 = .ok (.ifCond .ne 20, 3) := by decide +kernel
theorem dX12_round_36 : decode cX12_round 36 = .ok (.iload_n 3, 1) := by decide +kernel
theorem dX12_round_37 : decode cX12_round 37 = .ok (.i2l, 1) := by decide +kernel
theorem dX12_round_38 : decode cX12_round 38 = .ok (.ldc2_w 333, 3) := by decide +kernel
theorem dX12_round_41 : decode cX12_round 41 = .ok (.ldc2_w 430, 3) := by decide +kernel
theorem dX12_round_44 : decode cX12_round 44 = .ok (.invokestatic 161, 3) := by decide +kernel
theorem dX12_round_47 : decode cX12_round 47 = .ok (.ifCond .ne 6, 3) := by decide +kernel
theorem dX12_round_50 : decode cX12_round 50 = .ok (.bipush (-2), 2) := by decide +kernel
theorem dX12_round_52 : decode cX12_round 52 = .ok (.ireturn, 1) := by decide +kernel
theorem dX12_round_53 : decode cX12_round 53 = .ok (.aload_n 0, 1) := by decide +kernel
theorem dX12_round_54 : decode cX12_round 54 = .ok (.iload_n 2, 1) := by decide +kernel
theorem dX12_round_55 : decode cX12_round 55 = .ok (.invokevirtual 312, 3) := by decide +kernel
theorem dX12_round_58 : decode cX12_round 58 = .ok (.istore 4, 2) := by decide +kernel
theorem dX12_round_60 : decode cX12_round 60 = .ok (.iload 4, 2) := by decide +kernel
theorem dX12_round_62 : decode cX12_round 62 = .ok (.ifCond .eq 6, 3) := by decide +kernel
theorem dX12_round_65 : decode cX12_round 65 = .ok (.iload 4, 2) := by decide +kernel
theorem dX12_round_67 : decode cX12_round 67 = .ok (.ireturn, 1) := by decide +kernel
theorem dX12_round_68 : decode cX12_round 68 = .ok (.aload_n 0, 1) := by decide +kernel
theorem dX12_round_69 : decode cX12_round 69 = .ok (.getfield 89, 3) := by decide +kernel
theorem dX12_round_72 : decode cX12_round 72 = .ok (.iload_n 2, 1) := by decide +kernel
theorem dX12_round_73 : decode cX12_round 73 = .ok (.iaload, 1) := by decide +kernel
theorem dX12_round_74 : decode cX12_round 74 = .ok (.i2l, 1) := by decide +kernel
theorem dX12_round_75 : decode cX12_round 75 = .ok (.lconst 1, 1) := by decide +kernel
theorem dX12_round_76 : decode cX12_round 76 = .ok (.ldc2_w 432, 3) := by decide +kernel
theorem dX12_round_79 : decode cX12_round 79 = .ok (.invokestatic 161, 3) := by decide +kernel
theorem dX12_round_82 : decode cX12_round 82 = .ok (.ifCond .ne 6, 3) := by decide +kernel
theorem dX12_round_85 : decode cX12_round 85 = .ok (.bipush (-4), 2) := by decide +kernel
theorem dX12_round_87 : decode cX12_round 87 = .ok (.ireturn, 1) := by decide +kernel
theorem dX12_round_88 : decode cX12_round 88 = .ok (.iconst 0, 1) := by decide +kernel
theorem dX12_round_89 : decode cX12_round 89 = .ok (.istore 5, 2) := by decide +kernel
theorem dX12_round_91 : decode cX12_round 91 = .ok (.iload 5, 2) := by decide +kernel
theorem dX12_round_93 : decode cX12_round 93 = .ok (.aload_n 0, 1) := by decide +kernel
theorem dX12_round_94 : decode cX12_round 94 = .ok (.getfield 89, 3) := by decide +kernel
theorem dX12_round_97 : decode cX12_round 97 = .ok (.iload_n 2, 1) := by decide +kernel
theorem dX12_round_98 : decode cX12_round 98 = .ok (.iaload, 1) := by decide +kernel
theorem dX12_round_99 : decode cX12_round 99 = .ok (.if_icmp .ge 31, 3) := by decide +kernel
theorem dX12_round_102 : decode cX12_round 102 = .ok (.aload_n 0, 1) := by decide +kernel
theorem dX12_round_103 : decode cX12_round 103 = .ok (.aload_n 0, 1) := by decide +kernel
theorem dX12_round_104 : decode cX12_round 104 = .ok (.getfield 92, 3) := by decide +kernel
theorem dX12_round_107 : decode cX12_round 107 = .ok (.bipush 40, 2) := by decide +kernel
theorem dX12_round_109 : decode cX12_round 109 = .ok (.iload_n 2, 1) := by decide +kernel
theorem dX12_round_110 : decode cX12_round 110 = .ok (.imul, 1) := by decide +kernel
theorem dX12_round_111 : decode cX12_round 111 = .ok (.iload 5, 2) := by decide +kernel
theorem dX12_round_113 : decode cX12_round 113 = .ok (.iadd, 1) := by decide +kernel
theorem dX12_round_114 : decode cX12_round 114 = .ok (.laload, 1) := by decide +kernel
theorem dX12_round_115 : decode cX12_round 115 = .ok (.invokevirtual 257, 3) := by decide +kernel
theorem dX12_round_118 : decode cX12_round 118 = .ok (.ifCond .ne 6, 3) := by decide +kernel
theorem dX12_round_121 : decode cX12_round 121 = .ok (.bipush (-3), 2) := by decide +kernel
theorem dX12_round_123 : decode cX12_round 123 = .ok (.ireturn, 1) := by decide +kernel
theorem dX12_round_124 : decode cX12_round 124 = .ok (.iinc 5 1, 3) := by decide +kernel
theorem dX12_round_127 : decode cX12_round 127 = .ok (.goto (-36), 3) := by decide +kernel
theorem dX12_round_130 : decode cX12_round 130 = .ok (.aload_n 0, 1) := by decide +kernel
theorem dX12_round_131 : decode cX12_round 131 = .ok (.iconst (-1), 1) := by decide +kernel
theorem dX12_round_132 : decode cX12_round 132 = .ok (.putfield 417, 3) := by decide +kernel
theorem dX12_round_135 : decode cX12_round 135 = .ok (.aload_n 0, 1) := by decide +kernel
theorem dX12_round_136 : decode cX12_round 136 = .ok (.iload_n 2, 1) := by decide +kernel
theorem dX12_round_137 : decode cX12_round 137 = .ok (.iconst 0, 1) := by decide +kernel
theorem dX12_round_138 : decode cX12_round 138 = .ok (.iconst 0, 1) := by decide +kernel
theorem dX12_round_139 : decode cX12_round 139 = .ok (.iconst 4, 1) := by decide +kernel
theorem dX12_round_140 : decode cX12_round 140 = .ok (.aload_n 0, 1) := by decide +kernel
theorem dX12_round_141 : decode cX12_round 141 = .ok (.getfield 13, 3) := by decide +kernel
theorem dX12_round_144 : decode cX12_round 144 = .ok (.bipush 36, 2) := by decide +kernel
theorem dX12_round_146 : decode cX12_round 146 = .ok (.iload_n 1, 1) := by decide +kernel
theorem dX12_round_147 : decode cX12_round 147 = .ok (.iadd, 1) := by decide +kernel
theorem dX12_round_148 : decode cX12_round 148 = .ok (.iaload, 1) := by decide +kernel
theorem dX12_round_149 : decode cX12_round 149 = .ok (.imul, 1) := by decide +kernel
theorem dX12_round_150 : decode cX12_round 150 = .ok (.aload_n 0, 1) := by decide +kernel
theorem dX12_round_151 : decode cX12_round 151 = .ok (.getfield 13, 3) := by decide +kernel
theorem dX12_round_154 : decode cX12_round 154 = .ok (.bipush 41, 2) := by decide +kernel
theorem dX12_round_156 : decode cX12_round 156 = .ok (.iload_n 1, 1) := by decide +kernel
theorem dX12_round_157 : decode cX12_round 157 = .ok (.iadd, 1) := by decide +kernel
theorem dX12_round_158 : decode cX12_round 158 = .ok (.iaload, 1) := by decide +kernel
theorem dX12_round_159 : decode cX12_round 159 = .ok (.iadd, 1) := by decide +kernel
theorem dX12_round_160 : decode cX12_round 160 = .ok (.iconst 0, 1) := by decide +kernel
theorem dX12_round_161 : decode cX12_round 161 = .ok (.iconst 0, 1) := by decide +kernel
theorem dX12_round_162 : decode cX12_round 162 = .ok (.invokevirtual 426, 3) := by decide +kernel
theorem dX12_round_165 : decode cX12_round 165 = .ok (.aload_n 0, 1) := by decide +kernel
theorem dX12_round_166 : decode cX12_round 166 = .ok (.getfield 417, 3) := by decide +kernel
theorem dX12_round_169 : decode cX12_round 169 = .ok (.iconst (-1), 1) := by decide +kernel
theorem dX12_round_170 : decode cX12_round 170 = .ok (.if_icmp .ne 5, 3) := by decide +kernel
theorem dX12_round_173 : decode cX12_round 173 = .ok (.iconst (-1), 1) := by decide +kernel
theorem dX12_round_174 : decode cX12_round 174 = .ok (.ireturn, 1) := by decide +kernel
theorem dX12_round_175 : decode cX12_round 175 = .ok (.iload_n 3, 1) := by decide +kernel
theorem dX12_round_176 : decode cX12_round 176 = .ok (.ifCond .ne 10, 3) := by decide +kernel
theorem dX12_round_179 : decode cX12_round 179 = .ok (.aload_n 0, 1) := by decide +kernel
theorem dX12_round_180 : decode cX12_round 180 = .ok (.getfield 417, 3) := by decide +kernel
theorem dX12_round_183 : decode cX12_round 183 = .ok (.goto 41, 3) := by decide +kernel
theorem dX12_round_186 : decode cX12_round 186 = .ok (.iload_n 3, 1) := by decide +kernel
theorem dX12_round_187 : decode cX12_round 187 = .ok (.iconst 1, 1) := by decide +kernel
theorem dX12_round_188 : decode cX12_round 188 = .ok (.if_icmp .ne 10, 3) := by decide +kernel
theorem dX12_round_191 : decode cX12_round 191 = .ok (.aload_n 0, 1) := by decide +kernel
theorem dX12_round_192 : decode cX12_round 192 = .ok (.getfield 420, 3) := by decide +kernel
theorem dX12_round_195 : decode cX12_round 195 = .ok (.goto 29, 3) := by decide +kernel
theorem dX12_round_198 : decode cX12_round 198 = .ok (.iload_n 3, 1) := by decide +kernel
theorem dX12_round_199 : decode cX12_round 199 = .ok (.bipush 10, 2) := by decide +kernel
theorem dX12_round_201 : decode cX12_round 201 = .ok (.isub, 1) := by decide +kernel
theorem dX12_round_202 : decode cX12_round 202 = .ok (.aload_n 0, 1) := by decide +kernel
theorem dX12_round_203 : decode cX12_round 203 = .ok (.getfield 89, 3) := by decide +kernel
theorem dX12_round_206 : decode cX12_round 206 = .ok (.iload_n 2, 1) := by decide +kernel
theorem dX12_round_207 : decode cX12_round 207 = .ok (.iaload, 1) := by decide +kernel
theorem dX12_round_208 : decode cX12_round 208 = .ok (.if_icmp .ge 15, 3) := by decide +kernel
theorem dX12_round_211 : decode cX12_round 211 = .ok (.aload_n 0, 1) := by decide +kernel
theorem dX12_round_212 : decode cX12_round 212 = .ok (.getfield 73, 3) := by decide +kernel
theorem dX12_round_215 : decode cX12_round 215 = .ok (.iload_n 3, 1) := by decide +kernel
theorem dX12_round_216 : decode cX12_round 216 = .ok (.bipush 10, 2) := by decide +kernel
theorem dX12_round_218 : decode cX12_round 218 = .ok (.isub, 1) := by decide +kernel
theorem dX12_round_219 : decode cX12_round 219 = .ok (.iaload, 1) := by decide +kernel
theorem dX12_round_220 : decode cX12_round 220 = .ok (.goto 4, 3) := by decide +kernel
theorem dX12_round_223 : decode cX12_round 223 = .ok (.iconst (-1), 1) := by decide +kernel
theorem dX12_round_224 : decode cX12_round 224 = .ok (.ireturn, 1) := by decide +kernel
theorem o38_1 {x0 : Int} (h0 : 0 ≤ x0) (h1 : x0 ≤ 3) : 0 ≤ x0 := by omega
theorem o38_2 {x0 : Int} (h0 : 0 ≤ x0) (h1 : x0 ≤ 3) : x0 < (4 : Nat) := by omega
theorem o38_3 {x0 x1 x2 : Int} (h0 : 4 ≤ x0) (h1 : x0 ≤ 4) (h2 : 4 ≤ x2) (h3 : x2 ≤ 4) (h4 : 0 ≤ x1) (h5 : x1 ≤ 40) (h6 : x1 = x2) (h7 : ¬ x0 = x1) : False := by omega
theorem o38_4 {x0 : Int} (h0 : x0 = (-1)) : x0 = (-1) := by omega
theorem o38_5 {x0 x1 : Int} (h0 : x1 = (-1)) (h1 : x0 = x1) : x0 = (-1) := by omega
theorem o38_6 {x0 x1 : Int} (h0 : x1 = (-1)) (h1 : ¬ x0 = x1) : ¬ x0 = (-1) := by omega
theorem o38_7 {x0 : Int} (h0 : 0 ≤ x0) (h1 : x0 ≤ 4) (h2 : 4 - x0 < 0) : False := by omega
theorem o38_8 {x0 x1 x2 : Int} (h0 : 4 ≤ x0) (h1 : x0 ≤ 4) (h2 : 4 ≤ x1) (h3 : x1 ≤ 4) (h4 : 0 ≤ x2) (h5 : x2 ≤ 40) (h6 : x2 = x1) (h7 : x0 = x2) : x0 = 4 := by omega
theorem o38_9 {x0 x1 x2 x3 : Int} {x4 : Nat} (h0 : 4 ≤ x1) (h1 : x1 ≤ 4) (h2 : 4 ≤ x2) (h3 : x2 ≤ 4) (h4 : 0 ≤ x3) (h5 : x3 ≤ 40) (h6 : x3 = x2) (h7 : x1 = x3) (h8 : 0 ≤ x0) (h9 : x0 ≤ 4) (h10 : 4 - x0 < ((x4 + 1 : Nat) : Int)) (h11 : x1 ≤ x0) : ¬ x0 < 4 := by omega
theorem o38_10 {x0 x1 x2 x3 : Int} {x4 : Nat} (h0 : 4 ≤ x1) (h1 : x1 ≤ 4) (h2 : 4 ≤ x2) (h3 : x2 ≤ 4) (h4 : 0 ≤ x3) (h5 : x3 ≤ 40) (h6 : x3 = x2) (h7 : x1 = x3) (h8 : 0 ≤ x0) (h9 : x0 ≤ 4) (h10 : 4 - x0 < ((x4 + 1 : Nat) : Int)) (h11 : x0 < x1) : x0 < 4 := by omega
theorem o38_11 {x0 x1 x2 x3 : Int} {x4 : Nat} (h0 : 4 ≤ x1) (h1 : x1 ≤ 4) (h2 : 4 ≤ x2) (h3 : x2 ≤ 4) (h4 : 0 ≤ x3) (h5 : x3 ≤ 40) (h6 : x3 = x2) (h7 : x1 = x3) (h8 : 0 ≤ x0) (h9 : x0 ≤ 4) (h10 : 4 - x0 < ((x4 + 1 : Nat) : Int)) (h11 : x0 < x1) : 0 ≤ x0 := by omega
theorem o38_12 {x0 x1 x2 x3 : Int} {x4 : Nat} (h0 : 4 ≤ x1) (h1 : x1 ≤ 4) (h2 : 4 ≤ x2) (h3 : x2 ≤ 4) (h4 : 0 ≤ x3) (h5 : x3 ≤ 40) (h6 : x3 = x2) (h7 : x1 = x3) (h8 : 0 ≤ x0) (h9 : x0 ≤ 4) (h10 : 4 - x0 < ((x4 + 1 : Nat) : Int)) (h11 : x0 < x1) : x0 < (4 : Nat) := by omega
theorem o38_13 {x0 x1 x2 x3 : Int} {x4 : Nat} (h0 : 4 ≤ x1) (h1 : x1 ≤ 4) (h2 : 4 ≤ x2) (h3 : x2 ≤ 4) (h4 : 0 ≤ x3) (h5 : x3 ≤ 40) (h6 : x3 = x2) (h7 : x1 = x3) (h8 : 0 ≤ x0) (h9 : x0 ≤ 4) (h10 : 4 - x0 < ((x4 + 1 : Nat) : Int)) (h11 : x0 < x1) (h12 : -2147483648 ≤ x0) (h13 : x0 ≤ 2147483647) (h14 : -2147483648 ≤ x1) (h15 : x1 ≤ 2147483647) (h16 : -2147483648 ≤ x2) (h17 : x2 ≤ 2147483647) (h18 : -2147483648 ≤ x3) (h19 : x3 ≤ 2147483647) : -2147483648 ≤ x0 + 1 := by omega
theorem o38_14 {x0 x1 x2 x3 : Int} {x4 : Nat} (h0 : 4 ≤ x1) (h1 : x1 ≤ 4) (h2 : 4 ≤ x2) (h3 : x2 ≤ 4) (h4 : 0 ≤ x3) (h5 : x3 ≤ 40) (h6 : x3 = x2) (h7 : x1 = x3) (h8 : 0 ≤ x0) (h9 : x0 ≤ 4) (h10 : 4 - x0 < ((x4 + 1 : Nat) : Int)) (h11 : x0 < x1) (h12 : -2147483648 ≤ x0) (h13 : x0 ≤ 2147483647) (h14 : -2147483648 ≤ x1) (h15 : x1 ≤ 2147483647) (h16 : -2147483648 ≤ x2) (h17 : x2 ≤ 2147483647) (h18 : -2147483648 ≤ x3) (h19 : x3 ≤ 2147483647) : x0 + 1 ≤ 2147483647 := by omega
theorem o38_15 {x0 x2 x3 x4 x5 : Int} {x1 : Nat} (h0 : 4 ≤ x2) (h1 : x2 ≤ 4) (h2 : 4 ≤ x3) (h3 : x3 ≤ 4) (h4 : 0 ≤ x4) (h5 : x4 ≤ 40) (h6 : x4 = x3) (h7 : x2 = x4) (h8 : 0 ≤ x5) (h9 : x5 ≤ 4) (h10 : 4 - x5 < ((x1 + 1 : Nat) : Int)) (h11 : x5 < x2) (h12 : x0 = x5 + 1) : 4 - x0 < (x1 : Int) := by omega
theorem o38_16 {x0 x1 x2 x3 x4 : Int} {x5 : Nat} (h0 : 4 ≤ x1) (h1 : x1 ≤ 4) (h2 : 4 ≤ x2) (h3 : x2 ≤ 4) (h4 : 0 ≤ x3) (h5 : x3 ≤ 40) (h6 : x3 = x2) (h7 : x1 = x3) (h8 : 0 ≤ x4) (h9 : x4 ≤ 4) (h10 : 4 - x4 < ((x5 + 1 : Nat) : Int)) (h11 : x4 < x1) (h12 : x0 = x4 + 1) : 0 ≤ x0 := by omega
theorem o38_17 {x0 x1 x2 x3 x4 : Int} {x5 : Nat} (h0 : 4 ≤ x1) (h1 : x1 ≤ 4) (h2 : 4 ≤ x2) (h3 : x2 ≤ 4) (h4 : 0 ≤ x3) (h5 : x3 ≤ 40) (h6 : x3 = x2) (h7 : x1 = x3) (h8 : 0 ≤ x4) (h9 : x4 ≤ 4) (h10 : 4 - x4 < ((x5 + 1 : Nat) : Int)) (h11 : x4 < x1) (h12 : x0 = x4 + 1) : x0 ≤ 4 := by omega
theorem o38_18 {x0 : Int} (h0 : x0 = 0) : 4 - x0 < (((4 - x0 + 1).toNat : Nat) : Int) := by omega
theorem o38_19 {x0 : Int} (h0 : x0 = 0) : 0 ≤ x0 := by omega
theorem o38_20 {x0 : Int} (h0 : x0 = 0) : x0 ≤ 4 := by omega
theorem o38_21 {x0 : Int} (h0 : 3 ≤ x0) (h1 : x0 ≤ 3) : x0 = 3 := by omega
theorem o38_22 {x0 x1 x2 : Int} (h0 : 3 ≤ x1) (h1 : x1 ≤ 3) (h2 : 3 ≤ x2) (h3 : x2 ≤ 4) (h4 : 0 ≤ x0) (h5 : x0 ≤ 40) (h6 : x0 = x2) (h7 : ¬ x1 = x0) : ¬ 3 = x0 := by omega
theorem o38_23 {x0 x1 x2 : Int} (h0 : 3 ≤ x1) (h1 : x1 ≤ 3) (h2 : 3 ≤ x2) (h3 : x2 ≤ 4) (h4 : 0 ≤ x0) (h5 : x0 ≤ 40) (h6 : x0 = x2) (h7 : x1 = x0) : 3 = x0 := by omega
theorem o38_24 {x0 x1 x2 x3 : Int} (h0 : 3 ≤ x1) (h1 : x1 ≤ 3) (h2 : 3 ≤ x2) (h3 : x2 ≤ 4) (h4 : 0 ≤ x3) (h5 : x3 ≤ 40) (h6 : x3 = x2) (h7 : ¬ x1 = x3) (h8 : 0 ≤ x0) (h9 : x0 ≤ 40) (h10 : x0 = x2) : x0 = 4 := by omega
theorem o38_25 {x0 x1 x2 x3 x5 : Int} {x4 : Nat} (h0 : 3 ≤ x1) (h1 : x1 ≤ 3) (h2 : 3 ≤ x2) (h3 : x2 ≤ 4) (h4 : 0 ≤ x3) (h5 : x3 ≤ 40) (h6 : x3 = x2) (h7 : ¬ x1 = x3) (h8 : 0 ≤ x0) (h9 : x0 ≤ 4) (h10 : 4 - x0 < ((x4 + 1 : Nat) : Int)) (h11 : 0 ≤ x5) (h12 : x5 ≤ 40) (h13 : x5 = x2) (h14 : x5 ≤ x0) : ¬ x0 < 4 := by omega
theorem o38_26 {x0 x1 x2 x3 x5 : Int} {x4 : Nat} (h0 : 3 ≤ x1) (h1 : x1 ≤ 3) (h2 : 3 ≤ x2) (h3 : x2 ≤ 4) (h4 : 0 ≤ x3) (h5 : x3 ≤ 40) (h6 : x3 = x2) (h7 : ¬ x1 = x3) (h8 : 0 ≤ x0) (h9 : x0 ≤ 4) (h10 : 4 - x0 < ((x4 + 1 : Nat) : Int)) (h11 : 0 ≤ x5) (h12 : x5 ≤ 40) (h13 : x5 = x2) (h14 : x0 < x5) : x0 < 4 := by omega
theorem o38_27 {x0 : Int} (h0 : x0 = 40) : x0 = 40 := by omega
theorem o38_28 {x0 : Int} (h0 : 0 ≤ x0) (h1 : x0 ≤ 3) (h2 : -2147483648 ≤ x0) (h3 : x0 ≤ 2147483647) : -2147483648 ≤ 40 * x0 := by omega
theorem o38_29 {x0 : Int} (h0 : 0 ≤ x0) (h1 : x0 ≤ 3) (h2 : -2147483648 ≤ x0) (h3 : x0 ≤ 2147483647) : 40 * x0 ≤ 2147483647 := by omega
theorem o38_30 {x0 x1 x2 x3 x4 x5 x7 : Int} {x6 : Nat} (h0 : 0 ≤ x2) (h1 : x2 ≤ 3) (h2 : 3 ≤ x3) (h3 : x3 ≤ 3) (h4 : 3 ≤ x4) (h5 : x4 ≤ 4) (h6 : 0 ≤ x5) (h7 : x5 ≤ 40) (h8 : x5 = x4) (h9 : ¬ x3 = x5) (h10 : 0 ≤ x1) (h11 : x1 ≤ 4) (h12 : 4 - x1 < ((x6 + 1 : Nat) : Int)) (h13 : 0 ≤ x7) (h14 : x7 ≤ 40) (h15 : x7 = x4) (h16 : x1 < x7) (h17 : x0 = 40 * x2) (h18 : -2147483648 ≤ x0) (h19 : x0 ≤ 2147483647) (h20 : -2147483648 ≤ x1) (h21 : x1 ≤ 2147483647) (h22 : -2147483648 ≤ x2) (h23 : x2 ≤ 2147483647) (h24 : -2147483648 ≤ x3) (h25 : x3 ≤ 2147483647) (h26 : -2147483648 ≤ x4) (h27 : x4 ≤ 2147483647) (h28 : -2147483648 ≤ x5) (h29 : x5 ≤ 2147483647) (h30 : -2147483648 ≤ x7) (h31 : x7 ≤ 2147483647) : -2147483648 ≤ x0 + x1 := by omega
theorem o38_31 {x0 x1 x2 x3 x4 x5 x7 : Int} {x6 : Nat} (h0 : 0 ≤ x2) (h1 : x2 ≤ 3) (h2 : 3 ≤ x3) (h3 : x3 ≤ 3) (h4 : 3 ≤ x4) (h5 : x4 ≤ 4) (h6 : 0 ≤ x5) (h7 : x5 ≤ 40) (h8 : x5 = x4) (h9 : ¬ x3 = x5) (h10 : 0 ≤ x1) (h11 : x1 ≤ 4) (h12 : 4 - x1 < ((x6 + 1 : Nat) : Int)) (h13 : 0 ≤ x7) (h14 : x7 ≤ 40) (h15 : x7 = x4) (h16 : x1 < x7) (h17 : x0 = 40 * x2) (h18 : -2147483648 ≤ x0) (h19 : x0 ≤ 2147483647) (h20 : -2147483648 ≤ x1) (h21 : x1 ≤ 2147483647) (h22 : -2147483648 ≤ x2) (h23 : x2 ≤ 2147483647) (h24 : -2147483648 ≤ x3) (h25 : x3 ≤ 2147483647) (h26 : -2147483648 ≤ x4) (h27 : x4 ≤ 2147483647) (h28 : -2147483648 ≤ x5) (h29 : x5 ≤ 2147483647) (h30 : -2147483648 ≤ x7) (h31 : x7 ≤ 2147483647) : x0 + x1 ≤ 2147483647 := by omega
theorem o38_32 {x0 x1 x2 x3 x4 x5 x7 x8 : Int} {x6 : Nat} (h0 : 0 ≤ x1) (h1 : x1 ≤ 3) (h2 : 3 ≤ x2) (h3 : x2 ≤ 3) (h4 : 3 ≤ x3) (h5 : x3 ≤ 4) (h6 : 0 ≤ x4) (h7 : x4 ≤ 40) (h8 : x4 = x3) (h9 : ¬ x2 = x4) (h10 : 0 ≤ x5) (h11 : x5 ≤ 4) (h12 : 4 - x5 < ((x6 + 1 : Nat) : Int)) (h13 : 0 ≤ x7) (h14 : x7 ≤ 40) (h15 : x7 = x3) (h16 : x5 < x7) (h17 : x8 = 40 * x1) (h18 : x0 = x8 + x5) : 0 ≤ x0 := by omega
theorem o38_33 {x0 x1 x2 x3 x4 x5 x7 x8 : Int} {x6 : Nat} (h0 : 0 ≤ x1) (h1 : x1 ≤ 3) (h2 : 3 ≤ x2) (h3 : x2 ≤ 3) (h4 : 3 ≤ x3) (h5 : x3 ≤ 4) (h6 : 0 ≤ x4) (h7 : x4 ≤ 40) (h8 : x4 = x3) (h9 : ¬ x2 = x4) (h10 : 0 ≤ x5) (h11 : x5 ≤ 4) (h12 : 4 - x5 < ((x6 + 1 : Nat) : Int)) (h13 : 0 ≤ x7) (h14 : x7 ≤ 40) (h15 : x7 = x3) (h16 : x5 < x7) (h17 : x8 = 40 * x1) (h18 : x0 = x8 + x5) : x0 < (160 : Nat) := by omega
theorem o38_34 {x0 x1 x2 x3 x4 x6 x7 x8 : Int} {x5 : Nat} (h0 : 0 ≤ x2) (h1 : x2 ≤ 3) (h2 : 3 ≤ x3) (h3 : x3 ≤ 3) (h4 : 3 ≤ x1) (h5 : x1 ≤ 4) (h6 : 0 ≤ x4) (h7 : x4 ≤ 40) (h8 : x4 = x1) (h9 : ¬ x3 = x4) (h10 : 0 ≤ x0) (h11 : x0 ≤ 4) (h12 : 4 - x0 < ((x5 + 1 : Nat) : Int)) (h13 : 0 ≤ x6) (h14 : x6 ≤ 40) (h15 : x6 = x1) (h16 : x0 < x6) (h17 : x7 = 40 * x2) (h18 : x8 = x7 + x0) : (x0).toNat < (x1).toNat := by omega
theorem o38_35 {x0 x1 x2 x3 x4 x5 x7 x8 : Int} {x6 : Nat} (h0 : 0 ≤ x1) (h1 : x1 ≤ 3) (h2 : 3 ≤ x3) (h3 : x3 ≤ 3) (h4 : 3 ≤ x4) (h5 : x4 ≤ 4) (h6 : 0 ≤ x5) (h7 : x5 ≤ 40) (h8 : x5 = x4) (h9 : ¬ x3 = x5) (h10 : 0 ≤ x2) (h11 : x2 ≤ 4) (h12 : 4 - x2 < ((x6 + 1 : Nat) : Int)) (h13 : 0 ≤ x7) (h14 : x7 ≤ 40) (h15 : x7 = x4) (h16 : x2 < x7) (h17 : x8 = 40 * x1) (h18 : x0 = x8 + x2) : (x0).toNat = 40 * (x1).toNat + (x2).toNat := by omega
theorem o38_36 {x0 : Int} (h0 : 0 ≤ x0) (h1 : x0 ≤ 24) : -2147483648 ≤ x0 := by omega
theorem o38_37 {x0 : Int} (h0 : 0 ≤ x0) (h1 : x0 ≤ 24) : x0 ≤ 2147483647 := by omega
theorem o38_38 {x0 : Int} (h0 : 0 ≤ x0) (h1 : x0 ≤ 99) : 0 ≤ x0 := by omega
theorem o38_39 {x0 : Int} (h0 : 0 ≤ x0) (h1 : x0 ≤ 99) : x0 ≤ 99 := by omega
theorem o38_40 {x0 x1 : Int} (h0 : 0 ≤ x1) (h1 : x1 ≤ 24) (h2 : x0 = x1) : 0 ≤ x0 := by omega
theorem o38_41 {x0 x1 : Int} (h0 : 0 ≤ x1) (h1 : x1 ≤ 24) (h2 : x0 = x1) : x0 ≤ 24 := by omega
theorem o38_42 {x0 : Int} (h0 : x0 = 1000000000) : x0 = 1000000000 := by omega
theorem o38_43 {x0 x1 : Int} (h0 : x1 = 1000000000) (h1 : ¬ x0 = x1) : ¬ x0 = 1000000000 := by omega
theorem o38_44 {x0 x1 : Int} (h0 : x1 = 1000000000) (h1 : x0 = x1) : x0 = 1000000000 := by omega
theorem o38_45 {x0 x1 x2 x3 x4 x6 x7 x8 : Int} {x5 : Nat} (h0 : 0 ≤ x1) (h1 : x1 ≤ 3) (h2 : 3 ≤ x0) (h3 : x0 ≤ 3) (h4 : 3 ≤ x2) (h5 : x2 ≤ 4) (h6 : 0 ≤ x3) (h7 : x3 ≤ 40) (h8 : x3 = x2) (h9 : ¬ x0 = x3) (h10 : 0 ≤ x4) (h11 : x4 ≤ 4) (h12 : 4 - x4 < ((x5 + 1 : Nat) : Int)) (h13 : 0 ≤ x6) (h14 : x6 ≤ 40) (h15 : x6 = x2) (h16 : x4 < x6) (h17 : x7 = 40 * x1) (h18 : x8 = x7 + x4) : 0 ≤ x0 := by omega
theorem o38_46 {x0 x1 x2 x3 x4 x6 x7 x8 : Int} {x5 : Nat} (h0 : 0 ≤ x1) (h1 : x1 ≤ 3) (h2 : 3 ≤ x0) (h3 : x0 ≤ 3) (h4 : 3 ≤ x2) (h5 : x2 ≤ 4) (h6 : 0 ≤ x3) (h7 : x3 ≤ 40) (h8 : x3 = x2) (h9 : ¬ x0 = x3) (h10 : 0 ≤ x4) (h11 : x4 ≤ 4) (h12 : 4 - x4 < ((x5 + 1 : Nat) : Int)) (h13 : 0 ≤ x6) (h14 : x6 ≤ 40) (h15 : x6 = x2) (h16 : x4 < x6) (h17 : x7 = 40 * x1) (h18 : x8 = x7 + x4) : x0 < (4 : Nat) := by omega
theorem o38_47 {x0 x1 x2 x3 x4 x6 x7 x8 : Int} {x5 : Nat} (h0 : 0 ≤ x1) (h1 : x1 ≤ 3) (h2 : 3 ≤ x0) (h3 : x0 ≤ 3) (h4 : 3 ≤ x2) (h5 : x2 ≤ 4) (h6 : 0 ≤ x3) (h7 : x3 ≤ 40) (h8 : x3 = x2) (h9 : ¬ x0 = x3) (h10 : 0 ≤ x4) (h11 : x4 ≤ 4) (h12 : 4 - x4 < ((x5 + 1 : Nat) : Int)) (h13 : 0 ≤ x6) (h14 : x6 ≤ 40) (h15 : x6 = x2) (h16 : x4 < x6) (h17 : x7 = 40 * x1) (h18 : x8 = x7 + x4) : x0 = ((3 : Nat) : Int) := by omega
theorem o38_48 {x0 x1 x2 x3 x4 x6 x7 x8 : Int} {x5 : Nat} (h0 : 0 ≤ x1) (h1 : x1 ≤ 3) (h2 : 3 ≤ x0) (h3 : x0 ≤ 3) (h4 : 3 ≤ x2) (h5 : x2 ≤ 4) (h6 : 0 ≤ x3) (h7 : x3 ≤ 40) (h8 : x3 = x2) (h9 : ¬ x0 = x3) (h10 : 0 ≤ x4) (h11 : x4 ≤ 4) (h12 : 4 - x4 < ((x5 + 1 : Nat) : Int)) (h13 : 0 ≤ x6) (h14 : x6 ≤ 40) (h15 : x6 = x2) (h16 : x4 < x6) (h17 : x7 = 40 * x1) (h18 : x8 = x7 + x4) : x0 = 3 := by omega
theorem o38_49 {x0 x1 x2 x3 x4 x5 x7 x8 x9 : Int} {x6 : Nat} (h0 : 0 ≤ x2) (h1 : x2 ≤ 3) (h2 : 3 ≤ x0) (h3 : x0 ≤ 3) (h4 : 3 ≤ x3) (h5 : x3 ≤ 4) (h6 : 0 ≤ x4) (h7 : x4 ≤ 40) (h8 : x4 = x3) (h9 : ¬ x0 = x4) (h10 : 0 ≤ x5) (h11 : x5 ≤ 4) (h12 : 4 - x5 < ((x6 + 1 : Nat) : Int)) (h13 : 0 ≤ x7) (h14 : x7 ≤ 40) (h15 : x7 = x3) (h16 : x5 < x7) (h17 : x8 = 40 * x2) (h18 : x9 = x8 + x5) (h19 : x1 = 1) (h20 : -2147483648 ≤ x0) (h21 : x0 ≤ 2147483647) (h22 : -2147483648 ≤ x1) (h23 : x1 ≤ 2147483647) (h24 : -2147483648 ≤ x2) (h25 : x2 ≤ 2147483647) (h26 : -2147483648 ≤ x3) (h27 : x3 ≤ 2147483647) (h28 : -2147483648 ≤ x4) (h29 : x4 ≤ 2147483647) (h30 : -2147483648 ≤ x5) (h31 : x5 ≤ 2147483647) (h32 : -2147483648 ≤ x7) (h33 : x7 ≤ 2147483647) (h34 : -2147483648 ≤ x8) (h35 : x8 ≤ 2147483647) (h36 : -2147483648 ≤ x9) (h37 : x9 ≤ 2147483647) : -2147483648 ≤ x0 + x1 := by omega
theorem o38_50 {x0 x1 x2 x3 x4 x5 x7 x8 x9 : Int} {x6 : Nat} (h0 : 0 ≤ x2) (h1 : x2 ≤ 3) (h2 : 3 ≤ x0) (h3 : x0 ≤ 3) (h4 : 3 ≤ x3) (h5 : x3 ≤ 4) (h6 : 0 ≤ x4) (h7 : x4 ≤ 40) (h8 : x4 = x3) (h9 : ¬ x0 = x4) (h10 : 0 ≤ x5) (h11 : x5 ≤ 4) (h12 : 4 - x5 < ((x6 + 1 : Nat) : Int)) (h13 : 0 ≤ x7) (h14 : x7 ≤ 40) (h15 : x7 = x3) (h16 : x5 < x7) (h17 : x8 = 40 * x2) (h18 : x9 = x8 + x5) (h19 : x1 = 1) (h20 : -2147483648 ≤ x0) (h21 : x0 ≤ 2147483647) (h22 : -2147483648 ≤ x1) (h23 : x1 ≤ 2147483647) (h24 : -2147483648 ≤ x2) (h25 : x2 ≤ 2147483647) (h26 : -2147483648 ≤ x3) (h27 : x3 ≤ 2147483647) (h28 : -2147483648 ≤ x4) (h29 : x4 ≤ 2147483647) (h30 : -2147483648 ≤ x5) (h31 : x5 ≤ 2147483647) (h32 : -2147483648 ≤ x7) (h33 : x7 ≤ 2147483647) (h34 : -2147483648 ≤ x8) (h35 : x8 ≤ 2147483647) (h36 : -2147483648 ≤ x9) (h37 : x9 ≤ 2147483647) : x0 + x1 ≤ 2147483647 := by omega
theorem o38_51 {x0 x1 x2 x3 x4 x6 x7 x8 x9 x10 : Int} {x5 : Nat} (h0 : 0 ≤ x0) (h1 : x0 ≤ 3) (h2 : 3 ≤ x1) (h3 : x1 ≤ 3) (h4 : 3 ≤ x2) (h5 : x2 ≤ 4) (h6 : 0 ≤ x3) (h7 : x3 ≤ 40) (h8 : x3 = x2) (h9 : ¬ x1 = x3) (h10 : 0 ≤ x4) (h11 : x4 ≤ 4) (h12 : 4 - x4 < ((x5 + 1 : Nat) : Int)) (h13 : 0 ≤ x6) (h14 : x6 ≤ 40) (h15 : x6 = x2) (h16 : x4 < x6) (h17 : x7 = 40 * x0) (h18 : x8 = x7 + x4) (h19 : x9 = 1) (h20 : x10 = x1 + x9) : 0 ≤ x0 := by omega
theorem o38_52 {x0 x1 x2 x3 x4 x6 x7 x8 x9 x10 : Int} {x5 : Nat} (h0 : 0 ≤ x0) (h1 : x0 ≤ 3) (h2 : 3 ≤ x1) (h3 : x1 ≤ 3) (h4 : 3 ≤ x2) (h5 : x2 ≤ 4) (h6 : 0 ≤ x3) (h7 : x3 ≤ 40) (h8 : x3 = x2) (h9 : ¬ x1 = x3) (h10 : 0 ≤ x4) (h11 : x4 ≤ 4) (h12 : 4 - x4 < ((x5 + 1 : Nat) : Int)) (h13 : 0 ≤ x6) (h14 : x6 ≤ 40) (h15 : x6 = x2) (h16 : x4 < x6) (h17 : x7 = 40 * x0) (h18 : x8 = x7 + x4) (h19 : x9 = 1) (h20 : x10 = x1 + x9) : x0 ≤ 3 := by omega
theorem o38_53 {x0 x1 x2 x3 x4 x5 x7 x8 x9 x10 : Int} {x6 : Nat} (h0 : 0 ≤ x1) (h1 : x1 ≤ 3) (h2 : 3 ≤ x2) (h3 : x2 ≤ 3) (h4 : 3 ≤ x3) (h5 : x3 ≤ 4) (h6 : 0 ≤ x4) (h7 : x4 ≤ 40) (h8 : x4 = x3) (h9 : ¬ x2 = x4) (h10 : 0 ≤ x5) (h11 : x5 ≤ 4) (h12 : 4 - x5 < ((x6 + 1 : Nat) : Int)) (h13 : 0 ≤ x7) (h14 : x7 ≤ 40) (h15 : x7 = x3) (h16 : x5 < x7) (h17 : x8 = 40 * x1) (h18 : x9 = x8 + x5) (h19 : x10 = 1) (h20 : x0 = x2 + x10) : 4 ≤ x0 := by omega
theorem o38_54 {x0 x1 x2 x3 x4 x5 x7 x8 x9 x10 : Int} {x6 : Nat} (h0 : 0 ≤ x1) (h1 : x1 ≤ 3) (h2 : 3 ≤ x2) (h3 : x2 ≤ 3) (h4 : 3 ≤ x3) (h5 : x3 ≤ 4) (h6 : 0 ≤ x4) (h7 : x4 ≤ 40) (h8 : x4 = x3) (h9 : ¬ x2 = x4) (h10 : 0 ≤ x5) (h11 : x5 ≤ 4) (h12 : 4 - x5 < ((x6 + 1 : Nat) : Int)) (h13 : 0 ≤ x7) (h14 : x7 ≤ 40) (h15 : x7 = x3) (h16 : x5 < x7) (h17 : x8 = 40 * x1) (h18 : x9 = x8 + x5) (h19 : x10 = 1) (h20 : x0 = x2 + x10) : x0 ≤ 4 := by omega
theorem o38_55 {x0 x1 x2 x3 x4 x6 x7 x8 x9 x10 : Int} {x5 : Nat} (h0 : 0 ≤ x1) (h1 : x1 ≤ 3) (h2 : 3 ≤ x2) (h3 : x2 ≤ 3) (h4 : 3 ≤ x0) (h5 : x0 ≤ 4) (h6 : 0 ≤ x3) (h7 : x3 ≤ 40) (h8 : x3 = x0) (h9 : ¬ x2 = x3) (h10 : 0 ≤ x4) (h11 : x4 ≤ 4) (h12 : 4 - x4 < ((x5 + 1 : Nat) : Int)) (h13 : 0 ≤ x6) (h14 : x6 ≤ 40) (h15 : x6 = x0) (h16 : x4 < x6) (h17 : x7 = 40 * x1) (h18 : x8 = x7 + x4) (h19 : x9 = 1) (h20 : x10 = x2 + x9) : 4 ≤ x0 := by omega
theorem o38_56 {x0 x1 x2 x3 x4 x6 x7 x8 x9 x10 : Int} {x5 : Nat} (h0 : 0 ≤ x1) (h1 : x1 ≤ 3) (h2 : 3 ≤ x2) (h3 : x2 ≤ 3) (h4 : 3 ≤ x0) (h5 : x0 ≤ 4) (h6 : 0 ≤ x3) (h7 : x3 ≤ 40) (h8 : x3 = x0) (h9 : ¬ x2 = x3) (h10 : 0 ≤ x4) (h11 : x4 ≤ 4) (h12 : 4 - x4 < ((x5 + 1 : Nat) : Int)) (h13 : 0 ≤ x6) (h14 : x6 ≤ 40) (h15 : x6 = x0) (h16 : x4 < x6) (h17 : x7 = 40 * x1) (h18 : x8 = x7 + x4) (h19 : x9 = 1) (h20 : x10 = x2 + x9) : x0 ≤ 4 := by omega
theorem o38_57 {x0 x1 x2 x3 x4 x6 x7 x8 x9 x10 : Int} {x5 : Nat} (h0 : 0 ≤ x1) (h1 : x1 ≤ 3) (h2 : 3 ≤ x0) (h3 : x0 ≤ 3) (h4 : 3 ≤ x2) (h5 : x2 ≤ 4) (h6 : 0 ≤ x3) (h7 : x3 ≤ 40) (h8 : x3 = x2) (h9 : ¬ x0 = x3) (h10 : 0 ≤ x4) (h11 : x4 ≤ 4) (h12 : 4 - x4 < ((x5 + 1 : Nat) : Int)) (h13 : 0 ≤ x6) (h14 : x6 ≤ 40) (h15 : x6 = x2) (h16 : x4 < x6) (h17 : x7 = 40 * x1) (h18 : x8 = x7 + x4) (h19 : x9 = 1) (h20 : x10 = x0 + x9) : x0 = 3 := by omega
theorem o38_58 {x0 x1 x2 x3 x4 x6 x7 x8 x9 x10 : Int} {x5 : Nat} (h0 : 0 ≤ x1) (h1 : x1 ≤ 3) (h2 : 3 ≤ x2) (h3 : x2 ≤ 3) (h4 : 3 ≤ x3) (h5 : x3 ≤ 4) (h6 : 0 ≤ x4) (h7 : x4 ≤ 40) (h8 : x4 = x3) (h9 : ¬ x2 = x4) (h10 : 0 ≤ x0) (h11 : x0 ≤ 4) (h12 : 4 - x0 < ((x5 + 1 : Nat) : Int)) (h13 : 0 ≤ x6) (h14 : x6 ≤ 40) (h15 : x6 = x3) (h16 : x0 < x6) (h17 : x7 = 40 * x1) (h18 : x8 = x7 + x0) (h19 : x9 = 1) (h20 : x10 = x2 + x9) (h21 : -2147483648 ≤ x0) (h22 : x0 ≤ 2147483647) (h23 : -2147483648 ≤ x1) (h24 : x1 ≤ 2147483647) (h25 : -2147483648 ≤ x2) (h26 : x2 ≤ 2147483647) (h27 : -2147483648 ≤ x3) (h28 : x3 ≤ 2147483647) (h29 : -2147483648 ≤ x4) (h30 : x4 ≤ 2147483647) (h31 : -2147483648 ≤ x6) (h32 : x6 ≤ 2147483647) (h33 : -2147483648 ≤ x7) (h34 : x7 ≤ 2147483647) (h35 : -2147483648 ≤ x8) (h36 : x8 ≤ 2147483647) (h37 : -2147483648 ≤ x9) (h38 : x9 ≤ 2147483647) (h39 : -2147483648 ≤ x10) (h40 : x10 ≤ 2147483647) : -2147483648 ≤ x0 + 1 := by omega
theorem o38_59 {x0 x1 x2 x3 x4 x6 x7 x8 x9 x10 : Int} {x5 : Nat} (h0 : 0 ≤ x1) (h1 : x1 ≤ 3) (h2 : 3 ≤ x2) (h3 : x2 ≤ 3) (h4 : 3 ≤ x3) (h5 : x3 ≤ 4) (h6 : 0 ≤ x4) (h7 : x4 ≤ 40) (h8 : x4 = x3) (h9 : ¬ x2 = x4) (h10 : 0 ≤ x0) (h11 : x0 ≤ 4) (h12 : 4 - x0 < ((x5 + 1 : Nat) : Int)) (h13 : 0 ≤ x6) (h14 : x6 ≤ 40) (h15 : x6 = x3) (h16 : x0 < x6) (h17 : x7 = 40 * x1) (h18 : x8 = x7 + x0) (h19 : x9 = 1) (h20 : x10 = x2 + x9) (h21 : -2147483648 ≤ x0) (h22 : x0 ≤ 2147483647) (h23 : -2147483648 ≤ x1) (h24 : x1 ≤ 2147483647) (h25 : -2147483648 ≤ x2) (h26 : x2 ≤ 2147483647) (h27 : -2147483648 ≤ x3) (h28 : x3 ≤ 2147483647) (h29 : -2147483648 ≤ x4) (h30 : x4 ≤ 2147483647) (h31 : -2147483648 ≤ x6) (h32 : x6 ≤ 2147483647) (h33 : -2147483648 ≤ x7) (h34 : x7 ≤ 2147483647) (h35 : -2147483648 ≤ x8) (h36 : x8 ≤ 2147483647) (h37 : -2147483648 ≤ x9) (h38 : x9 ≤ 2147483647) (h39 : -2147483648 ≤ x10) (h40 : x10 ≤ 2147483647) : x0 + 1 ≤ 2147483647 := by omega
theorem o38_60 {x0 x2 x3 x4 x5 x6 x7 x8 x9 x10 x11 : Int} {x1 : Nat} (h0 : 0 ≤ x2) (h1 : x2 ≤ 3) (h2 : 3 ≤ x3) (h3 : x3 ≤ 3) (h4 : 3 ≤ x4) (h5 : x4 ≤ 4) (h6 : 0 ≤ x5) (h7 : x5 ≤ 40) (h8 : x5 = x4) (h9 : ¬ x3 = x5) (h10 : 0 ≤ x6) (h11 : x6 ≤ 4) (h12 : 4 - x6 < ((x1 + 1 : Nat) : Int)) (h13 : 0 ≤ x7) (h14 : x7 ≤ 40) (h15 : x7 = x4) (h16 : x6 < x7) (h17 : x8 = 40 * x2) (h18 : x9 = x8 + x6) (h19 : x10 = 1) (h20 : x11 = x3 + x10) (h21 : x0 = x6 + 1) : 4 - x0 < (x1 : Int) := by omega
theorem o38_61 {x0 x1 x2 x3 x4 x5 x7 x8 x9 x10 x11 : Int} {x6 : Nat} (h0 : 0 ≤ x1) (h1 : x1 ≤ 3) (h2 : 3 ≤ x2) (h3 : x2 ≤ 3) (h4 : 3 ≤ x3) (h5 : x3 ≤ 4) (h6 : 0 ≤ x4) (h7 : x4 ≤ 40) (h8 : x4 = x3) (h9 : ¬ x2 = x4) (h10 : 0 ≤ x5) (h11 : x5 ≤ 4) (h12 : 4 - x5 < ((x6 + 1 : Nat) : Int)) (h13 : 0 ≤ x7) (h14 : x7 ≤ 40) (h15 : x7 = x3) (h16 : x5 < x7) (h17 : x8 = 40 * x1) (h18 : x9 = x8 + x5) (h19 : x10 = 1) (h20 : x11 = x2 + x10) (h21 : x0 = x5 + 1) : 0 ≤ x0 := by omega
theorem o38_62 {x0 x1 x2 x3 x4 x5 x7 x8 x9 x10 x11 : Int} {x6 : Nat} (h0 : 0 ≤ x1) (h1 : x1 ≤ 3) (h2 : 3 ≤ x2) (h3 : x2 ≤ 3) (h4 : 3 ≤ x3) (h5 : x3 ≤ 4) (h6 : 0 ≤ x4) (h7 : x4 ≤ 40) (h8 : x4 = x3) (h9 : ¬ x2 = x4) (h10 : 0 ≤ x5) (h11 : x5 ≤ 4) (h12 : 4 - x5 < ((x6 + 1 : Nat) : Int)) (h13 : 0 ≤ x7) (h14 : x7 ≤ 40) (h15 : x7 = x3) (h16 : x5 < x7) (h17 : x8 = 40 * x1) (h18 : x9 = x8 + x5) (h19 : x10 = 1) (h20 : x11 = x2 + x10) (h21 : x0 = x5 + 1) : x0 ≤ 4 := by omega
theorem o38_63 {x0 x1 x2 x3 x4 x6 x7 x8 : Int} {x5 : Nat} (h0 : 0 ≤ x1) (h1 : x1 ≤ 3) (h2 : 3 ≤ x2) (h3 : x2 ≤ 3) (h4 : 3 ≤ x3) (h5 : x3 ≤ 4) (h6 : 0 ≤ x4) (h7 : x4 ≤ 40) (h8 : x4 = x3) (h9 : ¬ x2 = x4) (h10 : 0 ≤ x0) (h11 : x0 ≤ 4) (h12 : 4 - x0 < ((x5 + 1 : Nat) : Int)) (h13 : 0 ≤ x6) (h14 : x6 ≤ 40) (h15 : x6 = x3) (h16 : x0 < x6) (h17 : x7 = 40 * x1) (h18 : x8 = x7 + x0) (h19 : -2147483648 ≤ x0) (h20 : x0 ≤ 2147483647) (h21 : -2147483648 ≤ x1) (h22 : x1 ≤ 2147483647) (h23 : -2147483648 ≤ x2) (h24 : x2 ≤ 2147483647) (h25 : -2147483648 ≤ x3) (h26 : x3 ≤ 2147483647) (h27 : -2147483648 ≤ x4) (h28 : x4 ≤ 2147483647) (h29 : -2147483648 ≤ x6) (h30 : x6 ≤ 2147483647) (h31 : -2147483648 ≤ x7) (h32 : x7 ≤ 2147483647) (h33 : -2147483648 ≤ x8) (h34 : x8 ≤ 2147483647) : -2147483648 ≤ x0 + 1 := by omega
theorem o38_64 {x0 x1 x2 x3 x4 x6 x7 x8 : Int} {x5 : Nat} (h0 : 0 ≤ x1) (h1 : x1 ≤ 3) (h2 : 3 ≤ x2) (h3 : x2 ≤ 3) (h4 : 3 ≤ x3) (h5 : x3 ≤ 4) (h6 : 0 ≤ x4) (h7 : x4 ≤ 40) (h8 : x4 = x3) (h9 : ¬ x2 = x4) (h10 : 0 ≤ x0) (h11 : x0 ≤ 4) (h12 : 4 - x0 < ((x5 + 1 : Nat) : Int)) (h13 : 0 ≤ x6) (h14 : x6 ≤ 40) (h15 : x6 = x3) (h16 : x0 < x6) (h17 : x7 = 40 * x1) (h18 : x8 = x7 + x0) (h19 : -2147483648 ≤ x0) (h20 : x0 ≤ 2147483647) (h21 : -2147483648 ≤ x1) (h22 : x1 ≤ 2147483647) (h23 : -2147483648 ≤ x2) (h24 : x2 ≤ 2147483647) (h25 : -2147483648 ≤ x3) (h26 : x3 ≤ 2147483647) (h27 : -2147483648 ≤ x4) (h28 : x4 ≤ 2147483647) (h29 : -2147483648 ≤ x6) (h30 : x6 ≤ 2147483647) (h31 : -2147483648 ≤ x7) (h32 : x7 ≤ 2147483647) (h33 : -2147483648 ≤ x8) (h34 : x8 ≤ 2147483647) : x0 + 1 ≤ 2147483647 := by omega
theorem o38_65 {x0 x2 x3 x4 x5 x6 x7 x8 x9 : Int} {x1 : Nat} (h0 : 0 ≤ x2) (h1 : x2 ≤ 3) (h2 : 3 ≤ x3) (h3 : x3 ≤ 3) (h4 : 3 ≤ x4) (h5 : x4 ≤ 4) (h6 : 0 ≤ x5) (h7 : x5 ≤ 40) (h8 : x5 = x4) (h9 : ¬ x3 = x5) (h10 : 0 ≤ x6) (h11 : x6 ≤ 4) (h12 : 4 - x6 < ((x1 + 1 : Nat) : Int)) (h13 : 0 ≤ x7) (h14 : x7 ≤ 40) (h15 : x7 = x4) (h16 : x6 < x7) (h17 : x8 = 40 * x2) (h18 : x9 = x8 + x6) (h19 : x0 = x6 + 1) : 4 - x0 < (x1 : Int) := by omega
theorem o38_66 {x0 x1 x2 x3 x4 x5 x7 x8 x9 : Int} {x6 : Nat} (h0 : 0 ≤ x1) (h1 : x1 ≤ 3) (h2 : 3 ≤ x2) (h3 : x2 ≤ 3) (h4 : 3 ≤ x3) (h5 : x3 ≤ 4) (h6 : 0 ≤ x4) (h7 : x4 ≤ 40) (h8 : x4 = x3) (h9 : ¬ x2 = x4) (h10 : 0 ≤ x5) (h11 : x5 ≤ 4) (h12 : 4 - x5 < ((x6 + 1 : Nat) : Int)) (h13 : 0 ≤ x7) (h14 : x7 ≤ 40) (h15 : x7 = x3) (h16 : x5 < x7) (h17 : x8 = 40 * x1) (h18 : x9 = x8 + x5) (h19 : x0 = x5 + 1) : 0 ≤ x0 := by omega
theorem o38_67 {x0 x1 x2 x3 x4 x5 x7 x8 x9 : Int} {x6 : Nat} (h0 : 0 ≤ x1) (h1 : x1 ≤ 3) (h2 : 3 ≤ x2) (h3 : x2 ≤ 3) (h4 : 3 ≤ x3) (h5 : x3 ≤ 4) (h6 : 0 ≤ x4) (h7 : x4 ≤ 40) (h8 : x4 = x3) (h9 : ¬ x2 = x4) (h10 : 0 ≤ x5) (h11 : x5 ≤ 4) (h12 : 4 - x5 < ((x6 + 1 : Nat) : Int)) (h13 : 0 ≤ x7) (h14 : x7 ≤ 40) (h15 : x7 = x3) (h16 : x5 < x7) (h17 : x8 = 40 * x1) (h18 : x9 = x8 + x5) (h19 : x0 = x5 + 1) : x0 ≤ 4 := by omega
theorem o38_68 {x0 x1 x2 x3 x5 : Int} {x4 : Nat} (h0 : 3 ≤ x1) (h1 : x1 ≤ 3) (h2 : 3 ≤ x2) (h3 : x2 ≤ 4) (h4 : 0 ≤ x3) (h5 : x3 ≤ 40) (h6 : x3 = x2) (h7 : ¬ x1 = x3) (h8 : 0 ≤ x0) (h9 : x0 ≤ 4) (h10 : 4 - x0 < ((x4 + 1 : Nat) : Int)) (h11 : 0 ≤ x5) (h12 : x5 ≤ 40) (h13 : x5 = x2) (h14 : x0 < x5) (h15 : -2147483648 ≤ x0) (h16 : x0 ≤ 2147483647) (h17 : -2147483648 ≤ x1) (h18 : x1 ≤ 2147483647) (h19 : -2147483648 ≤ x2) (h20 : x2 ≤ 2147483647) (h21 : -2147483648 ≤ x3) (h22 : x3 ≤ 2147483647) (h23 : -2147483648 ≤ x5) (h24 : x5 ≤ 2147483647) : -2147483648 ≤ x0 + 1 := by omega
theorem o38_69 {x0 x1 x2 x3 x5 : Int} {x4 : Nat} (h0 : 3 ≤ x1) (h1 : x1 ≤ 3) (h2 : 3 ≤ x2) (h3 : x2 ≤ 4) (h4 : 0 ≤ x3) (h5 : x3 ≤ 40) (h6 : x3 = x2) (h7 : ¬ x1 = x3) (h8 : 0 ≤ x0) (h9 : x0 ≤ 4) (h10 : 4 - x0 < ((x4 + 1 : Nat) : Int)) (h11 : 0 ≤ x5) (h12 : x5 ≤ 40) (h13 : x5 = x2) (h14 : x0 < x5) (h15 : -2147483648 ≤ x0) (h16 : x0 ≤ 2147483647) (h17 : -2147483648 ≤ x1) (h18 : x1 ≤ 2147483647) (h19 : -2147483648 ≤ x2) (h20 : x2 ≤ 2147483647) (h21 : -2147483648 ≤ x3) (h22 : x3 ≤ 2147483647) (h23 : -2147483648 ≤ x5) (h24 : x5 ≤ 2147483647) : x0 + 1 ≤ 2147483647 := by omega
theorem o38_70 {x0 x2 x3 x4 x5 x6 : Int} {x1 : Nat} (h0 : 3 ≤ x2) (h1 : x2 ≤ 3) (h2 : 3 ≤ x3) (h3 : x3 ≤ 4) (h4 : 0 ≤ x4) (h5 : x4 ≤ 40) (h6 : x4 = x3) (h7 : ¬ x2 = x4) (h8 : 0 ≤ x5) (h9 : x5 ≤ 4) (h10 : 4 - x5 < ((x1 + 1 : Nat) : Int)) (h11 : 0 ≤ x6) (h12 : x6 ≤ 40) (h13 : x6 = x3) (h14 : x5 < x6) (h15 : x0 = x5 + 1) : 4 - x0 < (x1 : Int) := by omega
theorem o38_71 {x0 x1 x2 x3 x4 x6 : Int} {x5 : Nat} (h0 : 3 ≤ x1) (h1 : x1 ≤ 3) (h2 : 3 ≤ x2) (h3 : x2 ≤ 4) (h4 : 0 ≤ x3) (h5 : x3 ≤ 40) (h6 : x3 = x2) (h7 : ¬ x1 = x3) (h8 : 0 ≤ x4) (h9 : x4 ≤ 4) (h10 : 4 - x4 < ((x5 + 1 : Nat) : Int)) (h11 : 0 ≤ x6) (h12 : x6 ≤ 40) (h13 : x6 = x2) (h14 : x4 < x6) (h15 : x0 = x4 + 1) : 0 ≤ x0 := by omega
theorem o38_72 {x0 x1 x2 x3 x4 x6 : Int} {x5 : Nat} (h0 : 3 ≤ x1) (h1 : x1 ≤ 3) (h2 : 3 ≤ x2) (h3 : x2 ≤ 4) (h4 : 0 ≤ x3) (h5 : x3 ≤ 40) (h6 : x3 = x2) (h7 : ¬ x1 = x3) (h8 : 0 ≤ x4) (h9 : x4 ≤ 4) (h10 : 4 - x4 < ((x5 + 1 : Nat) : Int)) (h11 : 0 ≤ x6) (h12 : x6 ≤ 40) (h13 : x6 = x2) (h14 : x4 < x6) (h15 : x0 = x4 + 1) : x0 ≤ 4 := by omega
theorem o38_73 {x0 : Int} (h0 : 0 ≤ x0) (h1 : x0 ≤ 3) (h2 : 3 - x0 < 0) : False := by omega
theorem o38_74 {x0 x1 x2 : Int} (h0 : 3 ≤ x0) (h1 : x0 ≤ 3) (h2 : 3 ≤ x1) (h3 : x1 ≤ 4) (h4 : 0 ≤ x2) (h5 : x2 ≤ 40) (h6 : x2 = x1) (h7 : x0 = x2) : x0 = 3 := by omega
theorem o38_75 {x0 x1 x2 x3 : Int} {x4 : Nat} (h0 : 3 ≤ x1) (h1 : x1 ≤ 3) (h2 : 3 ≤ x2) (h3 : x2 ≤ 4) (h4 : 0 ≤ x3) (h5 : x3 ≤ 40) (h6 : x3 = x2) (h7 : x1 = x3) (h8 : 0 ≤ x0) (h9 : x0 ≤ 3) (h10 : 3 - x0 < ((x4 + 1 : Nat) : Int)) (h11 : x1 ≤ x0) : ¬ x0 < 3 := by omega
theorem o38_76 {x0 x1 x2 x3 : Int} {x4 : Nat} (h0 : 3 ≤ x1) (h1 : x1 ≤ 3) (h2 : 3 ≤ x2) (h3 : x2 ≤ 4) (h4 : 0 ≤ x3) (h5 : x3 ≤ 40) (h6 : x3 = x2) (h7 : x1 = x3) (h8 : 0 ≤ x0) (h9 : x0 ≤ 3) (h10 : 3 - x0 < ((x4 + 1 : Nat) : Int)) (h11 : x0 < x1) : x0 < 3 := by omega
theorem o38_77 {x0 x1 x2 x3 : Int} {x4 : Nat} (h0 : 3 ≤ x1) (h1 : x1 ≤ 3) (h2 : 3 ≤ x2) (h3 : x2 ≤ 4) (h4 : 0 ≤ x3) (h5 : x3 ≤ 40) (h6 : x3 = x2) (h7 : x1 = x3) (h8 : 0 ≤ x0) (h9 : x0 ≤ 3) (h10 : 3 - x0 < ((x4 + 1 : Nat) : Int)) (h11 : x0 < x1) : 0 ≤ x0 := by omega
theorem o38_78 {x0 x1 x2 x3 : Int} {x4 : Nat} (h0 : 3 ≤ x1) (h1 : x1 ≤ 3) (h2 : 3 ≤ x2) (h3 : x2 ≤ 4) (h4 : 0 ≤ x3) (h5 : x3 ≤ 40) (h6 : x3 = x2) (h7 : x1 = x3) (h8 : 0 ≤ x0) (h9 : x0 ≤ 3) (h10 : 3 - x0 < ((x4 + 1 : Nat) : Int)) (h11 : x0 < x1) : x0 < (4 : Nat) := by omega
theorem o38_79 {x0 x1 x2 x3 : Int} {x4 : Nat} (h0 : 3 ≤ x1) (h1 : x1 ≤ 3) (h2 : 3 ≤ x2) (h3 : x2 ≤ 4) (h4 : 0 ≤ x3) (h5 : x3 ≤ 40) (h6 : x3 = x2) (h7 : x1 = x3) (h8 : 0 ≤ x0) (h9 : x0 ≤ 3) (h10 : 3 - x0 < ((x4 + 1 : Nat) : Int)) (h11 : x0 < x1) (h12 : -2147483648 ≤ x0) (h13 : x0 ≤ 2147483647) (h14 : -2147483648 ≤ x1) (h15 : x1 ≤ 2147483647) (h16 : -2147483648 ≤ x2) (h17 : x2 ≤ 2147483647) (h18 : -2147483648 ≤ x3) (h19 : x3 ≤ 2147483647) : -2147483648 ≤ x0 + 1 := by omega
theorem o38_80 {x0 x1 x2 x3 : Int} {x4 : Nat} (h0 : 3 ≤ x1) (h1 : x1 ≤ 3) (h2 : 3 ≤ x2) (h3 : x2 ≤ 4) (h4 : 0 ≤ x3) (h5 : x3 ≤ 40) (h6 : x3 = x2) (h7 : x1 = x3) (h8 : 0 ≤ x0) (h9 : x0 ≤ 3) (h10 : 3 - x0 < ((x4 + 1 : Nat) : Int)) (h11 : x0 < x1) (h12 : -2147483648 ≤ x0) (h13 : x0 ≤ 2147483647) (h14 : -2147483648 ≤ x1) (h15 : x1 ≤ 2147483647) (h16 : -2147483648 ≤ x2) (h17 : x2 ≤ 2147483647) (h18 : -2147483648 ≤ x3) (h19 : x3 ≤ 2147483647) : x0 + 1 ≤ 2147483647 := by omega
theorem o38_81 {x0 x2 x3 x4 x5 : Int} {x1 : Nat} (h0 : 3 ≤ x2) (h1 : x2 ≤ 3) (h2 : 3 ≤ x3) (h3 : x3 ≤ 4) (h4 : 0 ≤ x4) (h5 : x4 ≤ 40) (h6 : x4 = x3) (h7 : x2 = x4) (h8 : 0 ≤ x5) (h9 : x5 ≤ 3) (h10 : 3 - x5 < ((x1 + 1 : Nat) : Int)) (h11 : x5 < x2) (h12 : x0 = x5 + 1) : 3 - x0 < (x1 : Int) := by omega
theorem o38_82 {x0 x1 x2 x3 x4 : Int} {x5 : Nat} (h0 : 3 ≤ x1) (h1 : x1 ≤ 3) (h2 : 3 ≤ x2) (h3 : x2 ≤ 4) (h4 : 0 ≤ x3) (h5 : x3 ≤ 40) (h6 : x3 = x2) (h7 : x1 = x3) (h8 : 0 ≤ x4) (h9 : x4 ≤ 3) (h10 : 3 - x4 < ((x5 + 1 : Nat) : Int)) (h11 : x4 < x1) (h12 : x0 = x4 + 1) : 0 ≤ x0 := by omega
theorem o38_83 {x0 x1 x2 x3 x4 : Int} {x5 : Nat} (h0 : 3 ≤ x1) (h1 : x1 ≤ 3) (h2 : 3 ≤ x2) (h3 : x2 ≤ 4) (h4 : 0 ≤ x3) (h5 : x3 ≤ 40) (h6 : x3 = x2) (h7 : x1 = x3) (h8 : 0 ≤ x4) (h9 : x4 ≤ 3) (h10 : 3 - x4 < ((x5 + 1 : Nat) : Int)) (h11 : x4 < x1) (h12 : x0 = x4 + 1) : x0 ≤ 3 := by omega
theorem o38_84 {x0 : Int} (h0 : x0 = 0) : 3 - x0 < (((3 - x0 + 1).toNat : Nat) : Int) := by omega
theorem o38_85 {x0 : Int} (h0 : x0 = 0) : x0 ≤ 3 := by omega
theorem o38_86 {x0 : Int} (h0 : 2 ≤ x0) (h1 : x0 ≤ 2) : x0 = 2 := by omega
theorem o38_87 {x0 x1 x2 : Int} (h0 : 2 ≤ x1) (h1 : x1 ≤ 2) (h2 : 2 ≤ x2) (h3 : x2 ≤ 4) (h4 : 0 ≤ x0) (h5 : x0 ≤ 40) (h6 : x0 = x2) (h7 : ¬ x1 = x0) : ¬ 2 = x0 := by omega
theorem o38_88 {x0 x1 x2 : Int} (h0 : 2 ≤ x1) (h1 : x1 ≤ 2) (h2 : 2 ≤ x2) (h3 : x2 ≤ 4) (h4 : 0 ≤ x0) (h5 : x0 ≤ 40) (h6 : x0 = x2) (h7 : x1 = x0) : 2 = x0 := by omega
theorem o38_89 {x0 x1 x2 x3 x4 x5 x7 : Int} {x6 : Nat} (h0 : 0 ≤ x2) (h1 : x2 ≤ 3) (h2 : 2 ≤ x3) (h3 : x3 ≤ 2) (h4 : 2 ≤ x4) (h5 : x4 ≤ 4) (h6 : 0 ≤ x5) (h7 : x5 ≤ 40) (h8 : x5 = x4) (h9 : ¬ x3 = x5) (h10 : 0 ≤ x1) (h11 : x1 ≤ 4) (h12 : 4 - x1 < ((x6 + 1 : Nat) : Int)) (h13 : 0 ≤ x7) (h14 : x7 ≤ 40) (h15 : x7 = x4) (h16 : x1 < x7) (h17 : x0 = 40 * x2) (h18 : -2147483648 ≤ x0) (h19 : x0 ≤ 2147483647) (h20 : -2147483648 ≤ x1) (h21 : x1 ≤ 2147483647) (h22 : -2147483648 ≤ x2) (h23 : x2 ≤ 2147483647) (h24 : -2147483648 ≤ x3) (h25 : x3 ≤ 2147483647) (h26 : -2147483648 ≤ x4) (h27 : x4 ≤ 2147483647) (h28 : -2147483648 ≤ x5) (h29 : x5 ≤ 2147483647) (h30 : -2147483648 ≤ x7) (h31 : x7 ≤ 2147483647) : -2147483648 ≤ x0 + x1 := by omega
theorem o38_90 {x0 x1 x2 x3 x4 x5 x7 : Int} {x6 : Nat} (h0 : 0 ≤ x2) (h1 : x2 ≤ 3) (h2 : 2 ≤ x3) (h3 : x3 ≤ 2) (h4 : 2 ≤ x4) (h5 : x4 ≤ 4) (h6 : 0 ≤ x5) (h7 : x5 ≤ 40) (h8 : x5 = x4) (h9 : ¬ x3 = x5) (h10 : 0 ≤ x1) (h11 : x1 ≤ 4) (h12 : 4 - x1 < ((x6 + 1 : Nat) : Int)) (h13 : 0 ≤ x7) (h14 : x7 ≤ 40) (h15 : x7 = x4) (h16 : x1 < x7) (h17 : x0 = 40 * x2) (h18 : -2147483648 ≤ x0) (h19 : x0 ≤ 2147483647) (h20 : -2147483648 ≤ x1) (h21 : x1 ≤ 2147483647) (h22 : -2147483648 ≤ x2) (h23 : x2 ≤ 2147483647) (h24 : -2147483648 ≤ x3) (h25 : x3 ≤ 2147483647) (h26 : -2147483648 ≤ x4) (h27 : x4 ≤ 2147483647) (h28 : -2147483648 ≤ x5) (h29 : x5 ≤ 2147483647) (h30 : -2147483648 ≤ x7) (h31 : x7 ≤ 2147483647) : x0 + x1 ≤ 2147483647 := by omega
theorem o38_91 {x0 x1 x2 x3 x4 x5 x7 x8 : Int} {x6 : Nat} (h0 : 0 ≤ x1) (h1 : x1 ≤ 3) (h2 : 2 ≤ x2) (h3 : x2 ≤ 2) (h4 : 2 ≤ x3) (h5 : x3 ≤ 4) (h6 : 0 ≤ x4) (h7 : x4 ≤ 40) (h8 : x4 = x3) (h9 : ¬ x2 = x4) (h10 : 0 ≤ x5) (h11 : x5 ≤ 4) (h12 : 4 - x5 < ((x6 + 1 : Nat) : Int)) (h13 : 0 ≤ x7) (h14 : x7 ≤ 40) (h15 : x7 = x3) (h16 : x5 < x7) (h17 : x8 = 40 * x1) (h18 : x0 = x8 + x5) : 0 ≤ x0 := by omega
theorem o38_92 {x0 x1 x2 x3 x4 x5 x7 x8 : Int} {x6 : Nat} (h0 : 0 ≤ x1) (h1 : x1 ≤ 3) (h2 : 2 ≤ x2) (h3 : x2 ≤ 2) (h4 : 2 ≤ x3) (h5 : x3 ≤ 4) (h6 : 0 ≤ x4) (h7 : x4 ≤ 40) (h8 : x4 = x3) (h9 : ¬ x2 = x4) (h10 : 0 ≤ x5) (h11 : x5 ≤ 4) (h12 : 4 - x5 < ((x6 + 1 : Nat) : Int)) (h13 : 0 ≤ x7) (h14 : x7 ≤ 40) (h15 : x7 = x3) (h16 : x5 < x7) (h17 : x8 = 40 * x1) (h18 : x0 = x8 + x5) : x0 < (160 : Nat) := by omega
theorem o38_93 {x0 x1 x2 x3 x4 x6 x7 x8 : Int} {x5 : Nat} (h0 : 0 ≤ x2) (h1 : x2 ≤ 3) (h2 : 2 ≤ x3) (h3 : x3 ≤ 2) (h4 : 2 ≤ x1) (h5 : x1 ≤ 4) (h6 : 0 ≤ x4) (h7 : x4 ≤ 40) (h8 : x4 = x1) (h9 : ¬ x3 = x4) (h10 : 0 ≤ x0) (h11 : x0 ≤ 4) (h12 : 4 - x0 < ((x5 + 1 : Nat) : Int)) (h13 : 0 ≤ x6) (h14 : x6 ≤ 40) (h15 : x6 = x1) (h16 : x0 < x6) (h17 : x7 = 40 * x2) (h18 : x8 = x7 + x0) : (x0).toNat < (x1).toNat := by omega
theorem o38_94 {x0 x1 x2 x3 x4 x5 x7 x8 : Int} {x6 : Nat} (h0 : 0 ≤ x1) (h1 : x1 ≤ 3) (h2 : 2 ≤ x3) (h3 : x3 ≤ 2) (h4 : 2 ≤ x4) (h5 : x4 ≤ 4) (h6 : 0 ≤ x5) (h7 : x5 ≤ 40) (h8 : x5 = x4) (h9 : ¬ x3 = x5) (h10 : 0 ≤ x2) (h11 : x2 ≤ 4) (h12 : 4 - x2 < ((x6 + 1 : Nat) : Int)) (h13 : 0 ≤ x7) (h14 : x7 ≤ 40) (h15 : x7 = x4) (h16 : x2 < x7) (h17 : x8 = 40 * x1) (h18 : x0 = x8 + x2) : (x0).toNat = 40 * (x1).toNat + (x2).toNat := by omega
theorem o38_95 {x0 x1 x2 x3 x4 x6 x7 x8 : Int} {x5 : Nat} (h0 : 0 ≤ x1) (h1 : x1 ≤ 3) (h2 : 2 ≤ x0) (h3 : x0 ≤ 2) (h4 : 2 ≤ x2) (h5 : x2 ≤ 4) (h6 : 0 ≤ x3) (h7 : x3 ≤ 40) (h8 : x3 = x2) (h9 : ¬ x0 = x3) (h10 : 0 ≤ x4) (h11 : x4 ≤ 4) (h12 : 4 - x4 < ((x5 + 1 : Nat) : Int)) (h13 : 0 ≤ x6) (h14 : x6 ≤ 40) (h15 : x6 = x2) (h16 : x4 < x6) (h17 : x7 = 40 * x1) (h18 : x8 = x7 + x4) : 0 ≤ x0 := by omega
theorem o38_96 {x0 x1 x2 x3 x4 x6 x7 x8 : Int} {x5 : Nat} (h0 : 0 ≤ x1) (h1 : x1 ≤ 3) (h2 : 2 ≤ x0) (h3 : x0 ≤ 2) (h4 : 2 ≤ x2) (h5 : x2 ≤ 4) (h6 : 0 ≤ x3) (h7 : x3 ≤ 40) (h8 : x3 = x2) (h9 : ¬ x0 = x3) (h10 : 0 ≤ x4) (h11 : x4 ≤ 4) (h12 : 4 - x4 < ((x5 + 1 : Nat) : Int)) (h13 : 0 ≤ x6) (h14 : x6 ≤ 40) (h15 : x6 = x2) (h16 : x4 < x6) (h17 : x7 = 40 * x1) (h18 : x8 = x7 + x4) : x0 < (4 : Nat) := by omega
theorem o38_97 {x0 x1 x2 x3 x4 x6 x7 x8 : Int} {x5 : Nat} (h0 : 0 ≤ x1) (h1 : x1 ≤ 3) (h2 : 2 ≤ x0) (h3 : x0 ≤ 2) (h4 : 2 ≤ x2) (h5 : x2 ≤ 4) (h6 : 0 ≤ x3) (h7 : x3 ≤ 40) (h8 : x3 = x2) (h9 : ¬ x0 = x3) (h10 : 0 ≤ x4) (h11 : x4 ≤ 4) (h12 : 4 - x4 < ((x5 + 1 : Nat) : Int)) (h13 : 0 ≤ x6) (h14 : x6 ≤ 40) (h15 : x6 = x2) (h16 : x4 < x6) (h17 : x7 = 40 * x1) (h18 : x8 = x7 + x4) : x0 = ((2 : Nat) : Int) := by omega
theorem o38_98 {x0 x1 x2 x3 x4 x6 x7 x8 : Int} {x5 : Nat} (h0 : 0 ≤ x1) (h1 : x1 ≤ 3) (h2 : 2 ≤ x0) (h3 : x0 ≤ 2) (h4 : 2 ≤ x2) (h5 : x2 ≤ 4) (h6 : 0 ≤ x3) (h7 : x3 ≤ 40) (h8 : x3 = x2) (h9 : ¬ x0 = x3) (h10 : 0 ≤ x4) (h11 : x4 ≤ 4) (h12 : 4 - x4 < ((x5 + 1 : Nat) : Int)) (h13 : 0 ≤ x6) (h14 : x6 ≤ 40) (h15 : x6 = x2) (h16 : x4 < x6) (h17 : x7 = 40 * x1) (h18 : x8 = x7 + x4) : x0 = 2 := by omega
theorem o38_99 {x0 x1 x2 x3 x4 x5 x7 x8 x9 : Int} {x6 : Nat} (h0 : 0 ≤ x2) (h1 : x2 ≤ 3) (h2 : 2 ≤ x0) (h3 : x0 ≤ 2) (h4 : 2 ≤ x3) (h5 : x3 ≤ 4) (h6 : 0 ≤ x4) (h7 : x4 ≤ 40) (h8 : x4 = x3) (h9 : ¬ x0 = x4) (h10 : 0 ≤ x5) (h11 : x5 ≤ 4) (h12 : 4 - x5 < ((x6 + 1 : Nat) : Int)) (h13 : 0 ≤ x7) (h14 : x7 ≤ 40) (h15 : x7 = x3) (h16 : x5 < x7) (h17 : x8 = 40 * x2) (h18 : x9 = x8 + x5) (h19 : x1 = 1) (h20 : -2147483648 ≤ x0) (h21 : x0 ≤ 2147483647) (h22 : -2147483648 ≤ x1) (h23 : x1 ≤ 2147483647) (h24 : -2147483648 ≤ x2) (h25 : x2 ≤ 2147483647) (h26 : -2147483648 ≤ x3) (h27 : x3 ≤ 2147483647) (h28 : -2147483648 ≤ x4) (h29 : x4 ≤ 2147483647) (h30 : -2147483648 ≤ x5) (h31 : x5 ≤ 2147483647) (h32 : -2147483648 ≤ x7) (h33 : x7 ≤ 2147483647) (h34 : -2147483648 ≤ x8) (h35 : x8 ≤ 2147483647) (h36 : -2147483648 ≤ x9) (h37 : x9 ≤ 2147483647) : -2147483648 ≤ x0 + x1 := by omega
theorem o38_100 {x0 x1 x2 x3 x4 x5 x7 x8 x9 : Int} {x6 : Nat} (h0 : 0 ≤ x2) (h1 : x2 ≤ 3) (h2 : 2 ≤ x0) (h3 : x0 ≤ 2) (h4 : 2 ≤ x3) (h5 : x3 ≤ 4) (h6 : 0 ≤ x4) (h7 : x4 ≤ 40) (h8 : x4 = x3) (h9 : ¬ x0 = x4) (h10 : 0 ≤ x5) (h11 : x5 ≤ 4) (h12 : 4 - x5 < ((x6 + 1 : Nat) : Int)) (h13 : 0 ≤ x7) (h14 : x7 ≤ 40) (h15 : x7 = x3) (h16 : x5 < x7) (h17 : x8 = 40 * x2) (h18 : x9 = x8 + x5) (h19 : x1 = 1) (h20 : -2147483648 ≤ x0) (h21 : x0 ≤ 2147483647) (h22 : -2147483648 ≤ x1) (h23 : x1 ≤ 2147483647) (h24 : -2147483648 ≤ x2) (h25 : x2 ≤ 2147483647) (h26 : -2147483648 ≤ x3) (h27 : x3 ≤ 2147483647) (h28 : -2147483648 ≤ x4) (h29 : x4 ≤ 2147483647) (h30 : -2147483648 ≤ x5) (h31 : x5 ≤ 2147483647) (h32 : -2147483648 ≤ x7) (h33 : x7 ≤ 2147483647) (h34 : -2147483648 ≤ x8) (h35 : x8 ≤ 2147483647) (h36 : -2147483648 ≤ x9) (h37 : x9 ≤ 2147483647) : x0 + x1 ≤ 2147483647 := by omega
theorem o38_101 {x0 x1 x2 x3 x4 x6 x7 x8 x9 x10 : Int} {x5 : Nat} (h0 : 0 ≤ x0) (h1 : x0 ≤ 3) (h2 : 2 ≤ x1) (h3 : x1 ≤ 2) (h4 : 2 ≤ x2) (h5 : x2 ≤ 4) (h6 : 0 ≤ x3) (h7 : x3 ≤ 40) (h8 : x3 = x2) (h9 : ¬ x1 = x3) (h10 : 0 ≤ x4) (h11 : x4 ≤ 4) (h12 : 4 - x4 < ((x5 + 1 : Nat) : Int)) (h13 : 0 ≤ x6) (h14 : x6 ≤ 40) (h15 : x6 = x2) (h16 : x4 < x6) (h17 : x7 = 40 * x0) (h18 : x8 = x7 + x4) (h19 : x9 = 1) (h20 : x10 = x1 + x9) : 0 ≤ x0 := by omega
theorem o38_102 {x0 x1 x2 x3 x4 x6 x7 x8 x9 x10 : Int} {x5 : Nat} (h0 : 0 ≤ x0) (h1 : x0 ≤ 3) (h2 : 2 ≤ x1) (h3 : x1 ≤ 2) (h4 : 2 ≤ x2) (h5 : x2 ≤ 4) (h6 : 0 ≤ x3) (h7 : x3 ≤ 40) (h8 : x3 = x2) (h9 : ¬ x1 = x3) (h10 : 0 ≤ x4) (h11 : x4 ≤ 4) (h12 : 4 - x4 < ((x5 + 1 : Nat) : Int)) (h13 : 0 ≤ x6) (h14 : x6 ≤ 40) (h15 : x6 = x2) (h16 : x4 < x6) (h17 : x7 = 40 * x0) (h18 : x8 = x7 + x4) (h19 : x9 = 1) (h20 : x10 = x1 + x9) : x0 ≤ 3 := by omega
theorem o38_103 {x0 x1 x2 x3 x4 x5 x7 x8 x9 x10 : Int} {x6 : Nat} (h0 : 0 ≤ x1) (h1 : x1 ≤ 3) (h2 : 2 ≤ x2) (h3 : x2 ≤ 2) (h4 : 2 ≤ x3) (h5 : x3 ≤ 4) (h6 : 0 ≤ x4) (h7 : x4 ≤ 40) (h8 : x4 = x3) (h9 : ¬ x2 = x4) (h10 : 0 ≤ x5) (h11 : x5 ≤ 4) (h12 : 4 - x5 < ((x6 + 1 : Nat) : Int)) (h13 : 0 ≤ x7) (h14 : x7 ≤ 40) (h15 : x7 = x3) (h16 : x5 < x7) (h17 : x8 = 40 * x1) (h18 : x9 = x8 + x5) (h19 : x10 = 1) (h20 : x0 = x2 + x10) : 3 ≤ x0 := by omega
theorem o38_104 {x0 x1 x2 x3 x4 x5 x7 x8 x9 x10 : Int} {x6 : Nat} (h0 : 0 ≤ x1) (h1 : x1 ≤ 3) (h2 : 2 ≤ x2) (h3 : x2 ≤ 2) (h4 : 2 ≤ x3) (h5 : x3 ≤ 4) (h6 : 0 ≤ x4) (h7 : x4 ≤ 40) (h8 : x4 = x3) (h9 : ¬ x2 = x4) (h10 : 0 ≤ x5) (h11 : x5 ≤ 4) (h12 : 4 - x5 < ((x6 + 1 : Nat) : Int)) (h13 : 0 ≤ x7) (h14 : x7 ≤ 40) (h15 : x7 = x3) (h16 : x5 < x7) (h17 : x8 = 40 * x1) (h18 : x9 = x8 + x5) (h19 : x10 = 1) (h20 : x0 = x2 + x10) : x0 ≤ 3 := by omega
theorem o38_105 {x0 x1 x2 x3 x4 x6 x7 x8 x9 x10 : Int} {x5 : Nat} (h0 : 0 ≤ x1) (h1 : x1 ≤ 3) (h2 : 2 ≤ x2) (h3 : x2 ≤ 2) (h4 : 2 ≤ x0) (h5 : x0 ≤ 4) (h6 : 0 ≤ x3) (h7 : x3 ≤ 40) (h8 : x3 = x0) (h9 : ¬ x2 = x3) (h10 : 0 ≤ x4) (h11 : x4 ≤ 4) (h12 : 4 - x4 < ((x5 + 1 : Nat) : Int)) (h13 : 0 ≤ x6) (h14 : x6 ≤ 40) (h15 : x6 = x0) (h16 : x4 < x6) (h17 : x7 = 40 * x1) (h18 : x8 = x7 + x4) (h19 : x9 = 1) (h20 : x10 = x2 + x9) : 3 ≤ x0 := by omega
theorem o38_106 {x0 x1 x2 x3 x4 x6 x7 x8 x9 x10 : Int} {x5 : Nat} (h0 : 0 ≤ x1) (h1 : x1 ≤ 3) (h2 : 2 ≤ x2) (h3 : x2 ≤ 2) (h4 : 2 ≤ x0) (h5 : x0 ≤ 4) (h6 : 0 ≤ x3) (h7 : x3 ≤ 40) (h8 : x3 = x0) (h9 : ¬ x2 = x3) (h10 : 0 ≤ x4) (h11 : x4 ≤ 4) (h12 : 4 - x4 < ((x5 + 1 : Nat) : Int)) (h13 : 0 ≤ x6) (h14 : x6 ≤ 40) (h15 : x6 = x0) (h16 : x4 < x6) (h17 : x7 = 40 * x1) (h18 : x8 = x7 + x4) (h19 : x9 = 1) (h20 : x10 = x2 + x9) : x0 ≤ 4 := by omega
theorem o38_107 {x0 x1 x2 x3 x4 x6 x7 x8 x9 x10 : Int} {x5 : Nat} (h0 : 0 ≤ x1) (h1 : x1 ≤ 3) (h2 : 2 ≤ x0) (h3 : x0 ≤ 2) (h4 : 2 ≤ x2) (h5 : x2 ≤ 4) (h6 : 0 ≤ x3) (h7 : x3 ≤ 40) (h8 : x3 = x2) (h9 : ¬ x0 = x3) (h10 : 0 ≤ x4) (h11 : x4 ≤ 4) (h12 : 4 - x4 < ((x5 + 1 : Nat) : Int)) (h13 : 0 ≤ x6) (h14 : x6 ≤ 40) (h15 : x6 = x2) (h16 : x4 < x6) (h17 : x7 = 40 * x1) (h18 : x8 = x7 + x4) (h19 : x9 = 1) (h20 : x10 = x0 + x9) : x0 = 2 := by omega
theorem o38_108 {x0 x1 x2 x3 x4 x6 x7 x8 x9 x10 : Int} {x5 : Nat} (h0 : 0 ≤ x1) (h1 : x1 ≤ 3) (h2 : 2 ≤ x2) (h3 : x2 ≤ 2) (h4 : 2 ≤ x3) (h5 : x3 ≤ 4) (h6 : 0 ≤ x4) (h7 : x4 ≤ 40) (h8 : x4 = x3) (h9 : ¬ x2 = x4) (h10 : 0 ≤ x0) (h11 : x0 ≤ 4) (h12 : 4 - x0 < ((x5 + 1 : Nat) : Int)) (h13 : 0 ≤ x6) (h14 : x6 ≤ 40) (h15 : x6 = x3) (h16 : x0 < x6) (h17 : x7 = 40 * x1) (h18 : x8 = x7 + x0) (h19 : x9 = 1) (h20 : x10 = x2 + x9) (h21 : -2147483648 ≤ x0) (h22 : x0 ≤ 2147483647) (h23 : -2147483648 ≤ x1) (h24 : x1 ≤ 2147483647) (h25 : -2147483648 ≤ x2) (h26 : x2 ≤ 2147483647) (h27 : -2147483648 ≤ x3) (h28 : x3 ≤ 2147483647) (h29 : -2147483648 ≤ x4) (h30 : x4 ≤ 2147483647) (h31 : -2147483648 ≤ x6) (h32 : x6 ≤ 2147483647) (h33 : -2147483648 ≤ x7) (h34 : x7 ≤ 2147483647) (h35 : -2147483648 ≤ x8) (h36 : x8 ≤ 2147483647) (h37 : -2147483648 ≤ x9) (h38 : x9 ≤ 2147483647) (h39 : -2147483648 ≤ x10) (h40 : x10 ≤ 2147483647) : -2147483648 ≤ x0 + 1 := by omega
theorem o38_109 {x0 x1 x2 x3 x4 x6 x7 x8 x9 x10 : Int} {x5 : Nat} (h0 : 0 ≤ x1) (h1 : x1 ≤ 3) (h2 : 2 ≤ x2) (h3 : x2 ≤ 2) (h4 : 2 ≤ x3) (h5 : x3 ≤ 4) (h6 : 0 ≤ x4) (h7 : x4 ≤ 40) (h8 : x4 = x3) (h9 : ¬ x2 = x4) (h10 : 0 ≤ x0) (h11 : x0 ≤ 4) (h12 : 4 - x0 < ((x5 + 1 : Nat) : Int)) (h13 : 0 ≤ x6) (h14 : x6 ≤ 40) (h15 : x6 = x3) (h16 : x0 < x6) (h17 : x7 = 40 * x1) (h18 : x8 = x7 + x0) (h19 : x9 = 1) (h20 : x10 = x2 + x9) (h21 : -2147483648 ≤ x0) (h22 : x0 ≤ 2147483647) (h23 : -2147483648 ≤ x1) (h24 : x1 ≤ 2147483647) (h25 : -2147483648 ≤ x2) (h26 : x2 ≤ 2147483647) (h27 : -2147483648 ≤ x3) (h28 : x3 ≤ 2147483647) (h29 : -2147483648 ≤ x4) (h30 : x4 ≤ 2147483647) (h31 : -2147483648 ≤ x6) (h32 : x6 ≤ 2147483647) (h33 : -2147483648 ≤ x7) (h34 : x7 ≤ 2147483647) (h35 : -2147483648 ≤ x8) (h36 : x8 ≤ 2147483647) (h37 : -2147483648 ≤ x9) (h38 : x9 ≤ 2147483647) (h39 : -2147483648 ≤ x10) (h40 : x10 ≤ 2147483647) : x0 + 1 ≤ 2147483647 := by omega
theorem o38_110 {x0 x2 x3 x4 x5 x6 x7 x8 x9 x10 x11 : Int} {x1 : Nat} (h0 : 0 ≤ x2) (h1 : x2 ≤ 3) (h2 : 2 ≤ x3) (h3 : x3 ≤ 2) (h4 : 2 ≤ x4) (h5 : x4 ≤ 4) (h6 : 0 ≤ x5) (h7 : x5 ≤ 40) (h8 : x5 = x4) (h9 : ¬ x3 = x5) (h10 : 0 ≤ x6) (h11 : x6 ≤ 4) (h12 : 4 - x6 < ((x1 + 1 : Nat) : Int)) (h13 : 0 ≤ x7) (h14 : x7 ≤ 40) (h15 : x7 = x4) (h16 : x6 < x7) (h17 : x8 = 40 * x2) (h18 : x9 = x8 + x6) (h19 : x10 = 1) (h20 : x11 = x3 + x10) (h21 : x0 = x6 + 1) : 4 - x0 < (x1 : Int) := by omega
theorem o38_111 {x0 x1 x2 x3 x4 x5 x7 x8 x9 x10 x11 : Int} {x6 : Nat} (h0 : 0 ≤ x1) (h1 : x1 ≤ 3) (h2 : 2 ≤ x2) (h3 : x2 ≤ 2) (h4 : 2 ≤ x3) (h5 : x3 ≤ 4) (h6 : 0 ≤ x4) (h7 : x4 ≤ 40) (h8 : x4 = x3) (h9 : ¬ x2 = x4) (h10 : 0 ≤ x5) (h11 : x5 ≤ 4) (h12 : 4 - x5 < ((x6 + 1 : Nat) : Int)) (h13 : 0 ≤ x7) (h14 : x7 ≤ 40) (h15 : x7 = x3) (h16 : x5 < x7) (h17 : x8 = 40 * x1) (h18 : x9 = x8 + x5) (h19 : x10 = 1) (h20 : x11 = x2 + x10) (h21 : x0 = x5 + 1) : 0 ≤ x0 := by omega
theorem o38_112 {x0 x1 x2 x3 x4 x5 x7 x8 x9 x10 x11 : Int} {x6 : Nat} (h0 : 0 ≤ x1) (h1 : x1 ≤ 3) (h2 : 2 ≤ x2) (h3 : x2 ≤ 2) (h4 : 2 ≤ x3) (h5 : x3 ≤ 4) (h6 : 0 ≤ x4) (h7 : x4 ≤ 40) (h8 : x4 = x3) (h9 : ¬ x2 = x4) (h10 : 0 ≤ x5) (h11 : x5 ≤ 4) (h12 : 4 - x5 < ((x6 + 1 : Nat) : Int)) (h13 : 0 ≤ x7) (h14 : x7 ≤ 40) (h15 : x7 = x3) (h16 : x5 < x7) (h17 : x8 = 40 * x1) (h18 : x9 = x8 + x5) (h19 : x10 = 1) (h20 : x11 = x2 + x10) (h21 : x0 = x5 + 1) : x0 ≤ 4 := by omega
theorem o38_113 {x0 x1 x2 x3 x4 x6 x7 x8 : Int} {x5 : Nat} (h0 : 0 ≤ x1) (h1 : x1 ≤ 3) (h2 : 2 ≤ x2) (h3 : x2 ≤ 2) (h4 : 2 ≤ x3) (h5 : x3 ≤ 4) (h6 : 0 ≤ x4) (h7 : x4 ≤ 40) (h8 : x4 = x3) (h9 : ¬ x2 = x4) (h10 : 0 ≤ x0) (h11 : x0 ≤ 4) (h12 : 4 - x0 < ((x5 + 1 : Nat) : Int)) (h13 : 0 ≤ x6) (h14 : x6 ≤ 40) (h15 : x6 = x3) (h16 : x0 < x6) (h17 : x7 = 40 * x1) (h18 : x8 = x7 + x0) (h19 : -2147483648 ≤ x0) (h20 : x0 ≤ 2147483647) (h21 : -2147483648 ≤ x1) (h22 : x1 ≤ 2147483647) (h23 : -2147483648 ≤ x2) (h24 : x2 ≤ 2147483647) (h25 : -2147483648 ≤ x3) (h26 : x3 ≤ 2147483647) (h27 : -2147483648 ≤ x4) (h28 : x4 ≤ 2147483647) (h29 : -2147483648 ≤ x6) (h30 : x6 ≤ 2147483647) (h31 : -2147483648 ≤ x7) (h32 : x7 ≤ 2147483647) (h33 : -2147483648 ≤ x8) (h34 : x8 ≤ 2147483647) : -2147483648 ≤ x0 + 1 := by omega
theorem o38_114 {x0 x1 x2 x3 x4 x6 x7 x8 : Int} {x5 : Nat} (h0 : 0 ≤ x1) (h1 : x1 ≤ 3) (h2 : 2 ≤ x2) (h3 : x2 ≤ 2) (h4 : 2 ≤ x3) (h5 : x3 ≤ 4) (h6 : 0 ≤ x4) (h7 : x4 ≤ 40) (h8 : x4 = x3) (h9 : ¬ x2 = x4) (h10 : 0 ≤ x0) (h11 : x0 ≤ 4) (h12 : 4 - x0 < ((x5 + 1 : Nat) : Int)) (h13 : 0 ≤ x6) (h14 : x6 ≤ 40) (h15 : x6 = x3) (h16 : x0 < x6) (h17 : x7 = 40 * x1) (h18 : x8 = x7 + x0) (h19 : -2147483648 ≤ x0) (h20 : x0 ≤ 2147483647) (h21 : -2147483648 ≤ x1) (h22 : x1 ≤ 2147483647) (h23 : -2147483648 ≤ x2) (h24 : x2 ≤ 2147483647) (h25 : -2147483648 ≤ x3) (h26 : x3 ≤ 2147483647) (h27 : -2147483648 ≤ x4) (h28 : x4 ≤ 2147483647) (h29 : -2147483648 ≤ x6) (h30 : x6 ≤ 2147483647) (h31 : -2147483648 ≤ x7) (h32 : x7 ≤ 2147483647) (h33 : -2147483648 ≤ x8) (h34 : x8 ≤ 2147483647) : x0 + 1 ≤ 2147483647 := by omega
theorem o38_115 {x0 x2 x3 x4 x5 x6 x7 x8 x9 : Int} {x1 : Nat} (h0 : 0 ≤ x2) (h1 : x2 ≤ 3) (h2 : 2 ≤ x3) (h3 : x3 ≤ 2) (h4 : 2 ≤ x4) (h5 : x4 ≤ 4) (h6 : 0 ≤ x5) (h7 : x5 ≤ 40) (h8 : x5 = x4) (h9 : ¬ x3 = x5) (h10 : 0 ≤ x6) (h11 : x6 ≤ 4) (h12 : 4 - x6 < ((x1 + 1 : Nat) : Int)) (h13 : 0 ≤ x7) (h14 : x7 ≤ 40) (h15 : x7 = x4) (h16 : x6 < x7) (h17 : x8 = 40 * x2) (h18 : x9 = x8 + x6) (h19 : x0 = x6 + 1) : 4 - x0 < (x1 : Int) := by omega
theorem o38_116 {x0 x1 x2 x3 x4 x5 x7 x8 x9 : Int} {x6 : Nat} (h0 : 0 ≤ x1) (h1 : x1 ≤ 3) (h2 : 2 ≤ x2) (h3 : x2 ≤ 2) (h4 : 2 ≤ x3) (h5 : x3 ≤ 4) (h6 : 0 ≤ x4) (h7 : x4 ≤ 40) (h8 : x4 = x3) (h9 : ¬ x2 = x4) (h10 : 0 ≤ x5) (h11 : x5 ≤ 4) (h12 : 4 - x5 < ((x6 + 1 : Nat) : Int)) (h13 : 0 ≤ x7) (h14 : x7 ≤ 40) (h15 : x7 = x3) (h16 : x5 < x7) (h17 : x8 = 40 * x1) (h18 : x9 = x8 + x5) (h19 : x0 = x5 + 1) : 0 ≤ x0 := by omega
theorem o38_117 {x0 x1 x2 x3 x4 x5 x7 x8 x9 : Int} {x6 : Nat} (h0 : 0 ≤ x1) (h1 : x1 ≤ 3) (h2 : 2 ≤ x2) (h3 : x2 ≤ 2) (h4 : 2 ≤ x3) (h5 : x3 ≤ 4) (h6 : 0 ≤ x4) (h7 : x4 ≤ 40) (h8 : x4 = x3) (h9 : ¬ x2 = x4) (h10 : 0 ≤ x5) (h11 : x5 ≤ 4) (h12 : 4 - x5 < ((x6 + 1 : Nat) : Int)) (h13 : 0 ≤ x7) (h14 : x7 ≤ 40) (h15 : x7 = x3) (h16 : x5 < x7) (h17 : x8 = 40 * x1) (h18 : x9 = x8 + x5) (h19 : x0 = x5 + 1) : x0 ≤ 4 := by omega
theorem o38_118 {x0 x1 x2 x3 x5 : Int} {x4 : Nat} (h0 : 2 ≤ x1) (h1 : x1 ≤ 2) (h2 : 2 ≤ x2) (h3 : x2 ≤ 4) (h4 : 0 ≤ x3) (h5 : x3 ≤ 40) (h6 : x3 = x2) (h7 : ¬ x1 = x3) (h8 : 0 ≤ x0) (h9 : x0 ≤ 4) (h10 : 4 - x0 < ((x4 + 1 : Nat) : Int)) (h11 : 0 ≤ x5) (h12 : x5 ≤ 40) (h13 : x5 = x2) (h14 : x0 < x5) (h15 : -2147483648 ≤ x0) (h16 : x0 ≤ 2147483647) (h17 : -2147483648 ≤ x1) (h18 : x1 ≤ 2147483647) (h19 : -2147483648 ≤ x2) (h20 : x2 ≤ 2147483647) (h21 : -2147483648 ≤ x3) (h22 : x3 ≤ 2147483647) (h23 : -2147483648 ≤ x5) (h24 : x5 ≤ 2147483647) : -2147483648 ≤ x0 + 1 := by omega
theorem o38_119 {x0 x1 x2 x3 x5 : Int} {x4 : Nat} (h0 : 2 ≤ x1) (h1 : x1 ≤ 2) (h2 : 2 ≤ x2) (h3 : x2 ≤ 4) (h4 : 0 ≤ x3) (h5 : x3 ≤ 40) (h6 : x3 = x2) (h7 : ¬ x1 = x3) (h8 : 0 ≤ x0) (h9 : x0 ≤ 4) (h10 : 4 - x0 < ((x4 + 1 : Nat) : Int)) (h11 : 0 ≤ x5) (h12 : x5 ≤ 40) (h13 : x5 = x2) (h14 : x0 < x5) (h15 : -2147483648 ≤ x0) (h16 : x0 ≤ 2147483647) (h17 : -2147483648 ≤ x1) (h18 : x1 ≤ 2147483647) (h19 : -2147483648 ≤ x2) (h20 : x2 ≤ 2147483647) (h21 : -2147483648 ≤ x3) (h22 : x3 ≤ 2147483647) (h23 : -2147483648 ≤ x5) (h24 : x5 ≤ 2147483647) : x0 + 1 ≤ 2147483647 := by omega
theorem o38_120 {x0 x2 x3 x4 x5 x6 : Int} {x1 : Nat} (h0 : 2 ≤ x2) (h1 : x2 ≤ 2) (h2 : 2 ≤ x3) (h3 : x3 ≤ 4) (h4 : 0 ≤ x4) (h5 : x4 ≤ 40) (h6 : x4 = x3) (h7 : ¬ x2 = x4) (h8 : 0 ≤ x5) (h9 : x5 ≤ 4) (h10 : 4 - x5 < ((x1 + 1 : Nat) : Int)) (h11 : 0 ≤ x6) (h12 : x6 ≤ 40) (h13 : x6 = x3) (h14 : x5 < x6) (h15 : x0 = x5 + 1) : 4 - x0 < (x1 : Int) := by omega
theorem o38_121 {x0 x1 x2 x3 x4 x6 : Int} {x5 : Nat} (h0 : 2 ≤ x1) (h1 : x1 ≤ 2) (h2 : 2 ≤ x2) (h3 : x2 ≤ 4) (h4 : 0 ≤ x3) (h5 : x3 ≤ 40) (h6 : x3 = x2) (h7 : ¬ x1 = x3) (h8 : 0 ≤ x4) (h9 : x4 ≤ 4) (h10 : 4 - x4 < ((x5 + 1 : Nat) : Int)) (h11 : 0 ≤ x6) (h12 : x6 ≤ 40) (h13 : x6 = x2) (h14 : x4 < x6) (h15 : x0 = x4 + 1) : 0 ≤ x0 := by omega
theorem o38_122 {x0 x1 x2 x3 x4 x6 : Int} {x5 : Nat} (h0 : 2 ≤ x1) (h1 : x1 ≤ 2) (h2 : 2 ≤ x2) (h3 : x2 ≤ 4) (h4 : 0 ≤ x3) (h5 : x3 ≤ 40) (h6 : x3 = x2) (h7 : ¬ x1 = x3) (h8 : 0 ≤ x4) (h9 : x4 ≤ 4) (h10 : 4 - x4 < ((x5 + 1 : Nat) : Int)) (h11 : 0 ≤ x6) (h12 : x6 ≤ 40) (h13 : x6 = x2) (h14 : x4 < x6) (h15 : x0 = x4 + 1) : x0 ≤ 4 := by omega
theorem o38_123 {x0 : Int} (h0 : 0 ≤ x0) (h1 : x0 ≤ 2) (h2 : 2 - x0 < 0) : False := by omega
theorem o38_124 {x0 x1 x2 : Int} (h0 : 2 ≤ x0) (h1 : x0 ≤ 2) (h2 : 2 ≤ x1) (h3 : x1 ≤ 4) (h4 : 0 ≤ x2) (h5 : x2 ≤ 40) (h6 : x2 = x1) (h7 : x0 = x2) : x0 = 2 := by omega
theorem o38_125 {x0 x1 x2 x3 : Int} {x4 : Nat} (h0 : 2 ≤ x1) (h1 : x1 ≤ 2) (h2 : 2 ≤ x2) (h3 : x2 ≤ 4) (h4 : 0 ≤ x3) (h5 : x3 ≤ 40) (h6 : x3 = x2) (h7 : x1 = x3) (h8 : 0 ≤ x0) (h9 : x0 ≤ 2) (h10 : 2 - x0 < ((x4 + 1 : Nat) : Int)) (h11 : x1 ≤ x0) : ¬ x0 < 2 := by omega
theorem o38_126 {x0 x1 x2 x3 : Int} {x4 : Nat} (h0 : 2 ≤ x1) (h1 : x1 ≤ 2) (h2 : 2 ≤ x2) (h3 : x2 ≤ 4) (h4 : 0 ≤ x3) (h5 : x3 ≤ 40) (h6 : x3 = x2) (h7 : x1 = x3) (h8 : 0 ≤ x0) (h9 : x0 ≤ 2) (h10 : 2 - x0 < ((x4 + 1 : Nat) : Int)) (h11 : x0 < x1) : x0 < 2 := by omega
theorem o38_127 {x0 x1 x2 x3 : Int} {x4 : Nat} (h0 : 2 ≤ x1) (h1 : x1 ≤ 2) (h2 : 2 ≤ x2) (h3 : x2 ≤ 4) (h4 : 0 ≤ x3) (h5 : x3 ≤ 40) (h6 : x3 = x2) (h7 : x1 = x3) (h8 : 0 ≤ x0) (h9 : x0 ≤ 2) (h10 : 2 - x0 < ((x4 + 1 : Nat) : Int)) (h11 : x0 < x1) : 0 ≤ x0 := by omega
theorem o38_128 {x0 x1 x2 x3 : Int} {x4 : Nat} (h0 : 2 ≤ x1) (h1 : x1 ≤ 2) (h2 : 2 ≤ x2) (h3 : x2 ≤ 4) (h4 : 0 ≤ x3) (h5 : x3 ≤ 40) (h6 : x3 = x2) (h7 : x1 = x3) (h8 : 0 ≤ x0) (h9 : x0 ≤ 2) (h10 : 2 - x0 < ((x4 + 1 : Nat) : Int)) (h11 : x0 < x1) : x0 < (4 : Nat) := by omega
theorem o38_129 {x0 x1 x2 x3 : Int} {x4 : Nat} (h0 : 2 ≤ x1) (h1 : x1 ≤ 2) (h2 : 2 ≤ x2) (h3 : x2 ≤ 4) (h4 : 0 ≤ x3) (h5 : x3 ≤ 40) (h6 : x3 = x2) (h7 : x1 = x3) (h8 : 0 ≤ x0) (h9 : x0 ≤ 2) (h10 : 2 - x0 < ((x4 + 1 : Nat) : Int)) (h11 : x0 < x1) (h12 : -2147483648 ≤ x0) (h13 : x0 ≤ 2147483647) (h14 : -2147483648 ≤ x1) (h15 : x1 ≤ 2147483647) (h16 : -2147483648 ≤ x2) (h17 : x2 ≤ 2147483647) (h18 : -2147483648 ≤ x3) (h19 : x3 ≤ 2147483647) : -2147483648 ≤ x0 + 1 := by omega
theorem o38_130 {x0 x1 x2 x3 : Int} {x4 : Nat} (h0 : 2 ≤ x1) (h1 : x1 ≤ 2) (h2 : 2 ≤ x2) (h3 : x2 ≤ 4) (h4 : 0 ≤ x3) (h5 : x3 ≤ 40) (h6 : x3 = x2) (h7 : x1 = x3) (h8 : 0 ≤ x0) (h9 : x0 ≤ 2) (h10 : 2 - x0 < ((x4 + 1 : Nat) : Int)) (h11 : x0 < x1) (h12 : -2147483648 ≤ x0) (h13 : x0 ≤ 2147483647) (h14 : -2147483648 ≤ x1) (h15 : x1 ≤ 2147483647) (h16 : -2147483648 ≤ x2) (h17 : x2 ≤ 2147483647) (h18 : -2147483648 ≤ x3) (h19 : x3 ≤ 2147483647) : x0 + 1 ≤ 2147483647 := by omega
theorem o38_131 {x0 x2 x3 x4 x5 : Int} {x1 : Nat} (h0 : 2 ≤ x2) (h1 : x2 ≤ 2) (h2 : 2 ≤ x3) (h3 : x3 ≤ 4) (h4 : 0 ≤ x4) (h5 : x4 ≤ 40) (h6 : x4 = x3) (h7 : x2 = x4) (h8 : 0 ≤ x5) (h9 : x5 ≤ 2) (h10 : 2 - x5 < ((x1 + 1 : Nat) : Int)) (h11 : x5 < x2) (h12 : x0 = x5 + 1) : 2 - x0 < (x1 : Int) := by omega
theorem o38_132 {x0 x1 x2 x3 x4 : Int} {x5 : Nat} (h0 : 2 ≤ x1) (h1 : x1 ≤ 2) (h2 : 2 ≤ x2) (h3 : x2 ≤ 4) (h4 : 0 ≤ x3) (h5 : x3 ≤ 40) (h6 : x3 = x2) (h7 : x1 = x3) (h8 : 0 ≤ x4) (h9 : x4 ≤ 2) (h10 : 2 - x4 < ((x5 + 1 : Nat) : Int)) (h11 : x4 < x1) (h12 : x0 = x4 + 1) : 0 ≤ x0 := by omega
theorem o38_133 {x0 x1 x2 x3 x4 : Int} {x5 : Nat} (h0 : 2 ≤ x1) (h1 : x1 ≤ 2) (h2 : 2 ≤ x2) (h3 : x2 ≤ 4) (h4 : 0 ≤ x3) (h5 : x3 ≤ 40) (h6 : x3 = x2) (h7 : x1 = x3) (h8 : 0 ≤ x4) (h9 : x4 ≤ 2) (h10 : 2 - x4 < ((x5 + 1 : Nat) : Int)) (h11 : x4 < x1) (h12 : x0 = x4 + 1) : x0 ≤ 2 := by omega
theorem o38_134 {x0 : Int} (h0 : x0 = 0) : 2 - x0 < (((2 - x0 + 1).toNat : Nat) : Int) := by omega
theorem o38_135 {x0 : Int} (h0 : x0 = 0) : x0 ≤ 2 := by omega
theorem o38_136 {x0 : Int} (h0 : 1 ≤ x0) (h1 : x0 ≤ 1) : x0 = 1 := by omega
theorem o38_137 {x0 x1 x2 : Int} (h0 : 1 ≤ x1) (h1 : x1 ≤ 1) (h2 : 1 ≤ x2) (h3 : x2 ≤ 4) (h4 : 0 ≤ x0) (h5 : x0 ≤ 40) (h6 : x0 = x2) (h7 : ¬ x1 = x0) : ¬ 1 = x0 := by omega
theorem o38_138 {x0 x1 x2 : Int} (h0 : 1 ≤ x1) (h1 : x1 ≤ 1) (h2 : 1 ≤ x2) (h3 : x2 ≤ 4) (h4 : 0 ≤ x0) (h5 : x0 ≤ 40) (h6 : x0 = x2) (h7 : x1 = x0) : 1 = x0 := by omega
theorem o38_139 {x0 x1 x2 x3 x4 x5 x7 : Int} {x6 : Nat} (h0 : 0 ≤ x2) (h1 : x2 ≤ 3) (h2 : 1 ≤ x3) (h3 : x3 ≤ 1) (h4 : 1 ≤ x4) (h5 : x4 ≤ 4) (h6 : 0 ≤ x5) (h7 : x5 ≤ 40) (h8 : x5 = x4) (h9 : ¬ x3 = x5) (h10 : 0 ≤ x1) (h11 : x1 ≤ 4) (h12 : 4 - x1 < ((x6 + 1 : Nat) : Int)) (h13 : 0 ≤ x7) (h14 : x7 ≤ 40) (h15 : x7 = x4) (h16 : x1 < x7) (h17 : x0 = 40 * x2) (h18 : -2147483648 ≤ x0) (h19 : x0 ≤ 2147483647) (h20 : -2147483648 ≤ x1) (h21 : x1 ≤ 2147483647) (h22 : -2147483648 ≤ x2) (h23 : x2 ≤ 2147483647) (h24 : -2147483648 ≤ x3) (h25 : x3 ≤ 2147483647) (h26 : -2147483648 ≤ x4) (h27 : x4 ≤ 2147483647) (h28 : -2147483648 ≤ x5) (h29 : x5 ≤ 2147483647) (h30 : -2147483648 ≤ x7) (h31 : x7 ≤ 2147483647) : -2147483648 ≤ x0 + x1 := by omega
theorem o38_140 {x0 x1 x2 x3 x4 x5 x7 : Int} {x6 : Nat} (h0 : 0 ≤ x2) (h1 : x2 ≤ 3) (h2 : 1 ≤ x3) (h3 : x3 ≤ 1) (h4 : 1 ≤ x4) (h5 : x4 ≤ 4) (h6 : 0 ≤ x5) (h7 : x5 ≤ 40) (h8 : x5 = x4) (h9 : ¬ x3 = x5) (h10 : 0 ≤ x1) (h11 : x1 ≤ 4) (h12 : 4 - x1 < ((x6 + 1 : Nat) : Int)) (h13 : 0 ≤ x7) (h14 : x7 ≤ 40) (h15 : x7 = x4) (h16 : x1 < x7) (h17 : x0 = 40 * x2) (h18 : -2147483648 ≤ x0) (h19 : x0 ≤ 2147483647) (h20 : -2147483648 ≤ x1) (h21 : x1 ≤ 2147483647) (h22 : -2147483648 ≤ x2) (h23 : x2 ≤ 2147483647) (h24 : -2147483648 ≤ x3) (h25 : x3 ≤ 2147483647) (h26 : -2147483648 ≤ x4) (h27 : x4 ≤ 2147483647) (h28 : -2147483648 ≤ x5) (h29 : x5 ≤ 2147483647) (h30 : -2147483648 ≤ x7) (h31 : x7 ≤ 2147483647) : x0 + x1 ≤ 2147483647 := by omega
theorem o38_141 {x0 x1 x2 x3 x4 x5 x7 x8 : Int} {x6 : Nat} (h0 : 0 ≤ x1) (h1 : x1 ≤ 3) (h2 : 1 ≤ x2) (h3 : x2 ≤ 1) (h4 : 1 ≤ x3) (h5 : x3 ≤ 4) (h6 : 0 ≤ x4) (h7 : x4 ≤ 40) (h8 : x4 = x3) (h9 : ¬ x2 = x4) (h10 : 0 ≤ x5) (h11 : x5 ≤ 4) (h12 : 4 - x5 < ((x6 + 1 : Nat) : Int)) (h13 : 0 ≤ x7) (h14 : x7 ≤ 40) (h15 : x7 = x3) (h16 : x5 < x7) (h17 : x8 = 40 * x1) (h18 : x0 = x8 + x5) : 0 ≤ x0 := by omega
theorem o38_142 {x0 x1 x2 x3 x4 x5 x7 x8 : Int} {x6 : Nat} (h0 : 0 ≤ x1) (h1 : x1 ≤ 3) (h2 : 1 ≤ x2) (h3 : x2 ≤ 1) (h4 : 1 ≤ x3) (h5 : x3 ≤ 4) (h6 : 0 ≤ x4) (h7 : x4 ≤ 40) (h8 : x4 = x3) (h9 : ¬ x2 = x4) (h10 : 0 ≤ x5) (h11 : x5 ≤ 4) (h12 : 4 - x5 < ((x6 + 1 : Nat) : Int)) (h13 : 0 ≤ x7) (h14 : x7 ≤ 40) (h15 : x7 = x3) (h16 : x5 < x7) (h17 : x8 = 40 * x1) (h18 : x0 = x8 + x5) : x0 < (160 : Nat) := by omega
theorem o38_143 {x0 x1 x2 x3 x4 x6 x7 x8 : Int} {x5 : Nat} (h0 : 0 ≤ x2) (h1 : x2 ≤ 3) (h2 : 1 ≤ x3) (h3 : x3 ≤ 1) (h4 : 1 ≤ x1) (h5 : x1 ≤ 4) (h6 : 0 ≤ x4) (h7 : x4 ≤ 40) (h8 : x4 = x1) (h9 : ¬ x3 = x4) (h10 : 0 ≤ x0) (h11 : x0 ≤ 4) (h12 : 4 - x0 < ((x5 + 1 : Nat) : Int)) (h13 : 0 ≤ x6) (h14 : x6 ≤ 40) (h15 : x6 = x1) (h16 : x0 < x6) (h17 : x7 = 40 * x2) (h18 : x8 = x7 + x0) : (x0).toNat < (x1).toNat := by omega
theorem o38_144 {x0 x1 x2 x3 x4 x5 x7 x8 : Int} {x6 : Nat} (h0 : 0 ≤ x1) (h1 : x1 ≤ 3) (h2 : 1 ≤ x3) (h3 : x3 ≤ 1) (h4 : 1 ≤ x4) (h5 : x4 ≤ 4) (h6 : 0 ≤ x5) (h7 : x5 ≤ 40) (h8 : x5 = x4) (h9 : ¬ x3 = x5) (h10 : 0 ≤ x2) (h11 : x2 ≤ 4) (h12 : 4 - x2 < ((x6 + 1 : Nat) : Int)) (h13 : 0 ≤ x7) (h14 : x7 ≤ 40) (h15 : x7 = x4) (h16 : x2 < x7) (h17 : x8 = 40 * x1) (h18 : x0 = x8 + x2) : (x0).toNat = 40 * (x1).toNat + (x2).toNat := by omega
theorem o38_145 {x0 x1 x2 x3 x4 x6 x7 x8 : Int} {x5 : Nat} (h0 : 0 ≤ x1) (h1 : x1 ≤ 3) (h2 : 1 ≤ x0) (h3 : x0 ≤ 1) (h4 : 1 ≤ x2) (h5 : x2 ≤ 4) (h6 : 0 ≤ x3) (h7 : x3 ≤ 40) (h8 : x3 = x2) (h9 : ¬ x0 = x3) (h10 : 0 ≤ x4) (h11 : x4 ≤ 4) (h12 : 4 - x4 < ((x5 + 1 : Nat) : Int)) (h13 : 0 ≤ x6) (h14 : x6 ≤ 40) (h15 : x6 = x2) (h16 : x4 < x6) (h17 : x7 = 40 * x1) (h18 : x8 = x7 + x4) : 0 ≤ x0 := by omega
theorem o38_146 {x0 x1 x2 x3 x4 x6 x7 x8 : Int} {x5 : Nat} (h0 : 0 ≤ x1) (h1 : x1 ≤ 3) (h2 : 1 ≤ x0) (h3 : x0 ≤ 1) (h4 : 1 ≤ x2) (h5 : x2 ≤ 4) (h6 : 0 ≤ x3) (h7 : x3 ≤ 40) (h8 : x3 = x2) (h9 : ¬ x0 = x3) (h10 : 0 ≤ x4) (h11 : x4 ≤ 4) (h12 : 4 - x4 < ((x5 + 1 : Nat) : Int)) (h13 : 0 ≤ x6) (h14 : x6 ≤ 40) (h15 : x6 = x2) (h16 : x4 < x6) (h17 : x7 = 40 * x1) (h18 : x8 = x7 + x4) : x0 < (4 : Nat) := by omega
theorem o38_147 {x0 x1 x2 x3 x4 x6 x7 x8 : Int} {x5 : Nat} (h0 : 0 ≤ x1) (h1 : x1 ≤ 3) (h2 : 1 ≤ x0) (h3 : x0 ≤ 1) (h4 : 1 ≤ x2) (h5 : x2 ≤ 4) (h6 : 0 ≤ x3) (h7 : x3 ≤ 40) (h8 : x3 = x2) (h9 : ¬ x0 = x3) (h10 : 0 ≤ x4) (h11 : x4 ≤ 4) (h12 : 4 - x4 < ((x5 + 1 : Nat) : Int)) (h13 : 0 ≤ x6) (h14 : x6 ≤ 40) (h15 : x6 = x2) (h16 : x4 < x6) (h17 : x7 = 40 * x1) (h18 : x8 = x7 + x4) : x0 = ((1 : Nat) : Int) := by omega
theorem o38_148 {x0 x1 x2 x3 x4 x6 x7 x8 : Int} {x5 : Nat} (h0 : 0 ≤ x1) (h1 : x1 ≤ 3) (h2 : 1 ≤ x0) (h3 : x0 ≤ 1) (h4 : 1 ≤ x2) (h5 : x2 ≤ 4) (h6 : 0 ≤ x3) (h7 : x3 ≤ 40) (h8 : x3 = x2) (h9 : ¬ x0 = x3) (h10 : 0 ≤ x4) (h11 : x4 ≤ 4) (h12 : 4 - x4 < ((x5 + 1 : Nat) : Int)) (h13 : 0 ≤ x6) (h14 : x6 ≤ 40) (h15 : x6 = x2) (h16 : x4 < x6) (h17 : x7 = 40 * x1) (h18 : x8 = x7 + x4) : x0 = 1 := by omega
theorem o38_149 {x0 x1 x2 x3 x4 x5 x7 x8 x9 : Int} {x6 : Nat} (h0 : 0 ≤ x2) (h1 : x2 ≤ 3) (h2 : 1 ≤ x0) (h3 : x0 ≤ 1) (h4 : 1 ≤ x3) (h5 : x3 ≤ 4) (h6 : 0 ≤ x4) (h7 : x4 ≤ 40) (h8 : x4 = x3) (h9 : ¬ x0 = x4) (h10 : 0 ≤ x5) (h11 : x5 ≤ 4) (h12 : 4 - x5 < ((x6 + 1 : Nat) : Int)) (h13 : 0 ≤ x7) (h14 : x7 ≤ 40) (h15 : x7 = x3) (h16 : x5 < x7) (h17 : x8 = 40 * x2) (h18 : x9 = x8 + x5) (h19 : x1 = 1) (h20 : -2147483648 ≤ x0) (h21 : x0 ≤ 2147483647) (h22 : -2147483648 ≤ x1) (h23 : x1 ≤ 2147483647) (h24 : -2147483648 ≤ x2) (h25 : x2 ≤ 2147483647) (h26 : -2147483648 ≤ x3) (h27 : x3 ≤ 2147483647) (h28 : -2147483648 ≤ x4) (h29 : x4 ≤ 2147483647) (h30 : -2147483648 ≤ x5) (h31 : x5 ≤ 2147483647) (h32 : -2147483648 ≤ x7) (h33 : x7 ≤ 2147483647) (h34 : -2147483648 ≤ x8) (h35 : x8 ≤ 2147483647) (h36 : -2147483648 ≤ x9) (h37 : x9 ≤ 2147483647) : -2147483648 ≤ x0 + x1 := by omega
theorem o38_150 {x0 x1 x2 x3 x4 x5 x7 x8 x9 : Int} {x6 : Nat} (h0 : 0 ≤ x2) (h1 : x2 ≤ 3) (h2 : 1 ≤ x0) (h3 : x0 ≤ 1) (h4 : 1 ≤ x3) (h5 : x3 ≤ 4) (h6 : 0 ≤ x4) (h7 : x4 ≤ 40) (h8 : x4 = x3) (h9 : ¬ x0 = x4) (h10 : 0 ≤ x5) (h11 : x5 ≤ 4) (h12 : 4 - x5 < ((x6 + 1 : Nat) : Int)) (h13 : 0 ≤ x7) (h14 : x7 ≤ 40) (h15 : x7 = x3) (h16 : x5 < x7) (h17 : x8 = 40 * x2) (h18 : x9 = x8 + x5) (h19 : x1 = 1) (h20 : -2147483648 ≤ x0) (h21 : x0 ≤ 2147483647) (h22 : -2147483648 ≤ x1) (h23 : x1 ≤ 2147483647) (h24 : -2147483648 ≤ x2) (h25 : x2 ≤ 2147483647) (h26 : -2147483648 ≤ x3) (h27 : x3 ≤ 2147483647) (h28 : -2147483648 ≤ x4) (h29 : x4 ≤ 2147483647) (h30 : -2147483648 ≤ x5) (h31 : x5 ≤ 2147483647) (h32 : -2147483648 ≤ x7) (h33 : x7 ≤ 2147483647) (h34 : -2147483648 ≤ x8) (h35 : x8 ≤ 2147483647) (h36 : -2147483648 ≤ x9) (h37 : x9 ≤ 2147483647) : x0 + x1 ≤ 2147483647 := by omega
theorem o38_151 {x0 x1 x2 x3 x4 x6 x7 x8 x9 x10 : Int} {x5 : Nat} (h0 : 0 ≤ x0) (h1 : x0 ≤ 3) (h2 : 1 ≤ x1) (h3 : x1 ≤ 1) (h4 : 1 ≤ x2) (h5 : x2 ≤ 4) (h6 : 0 ≤ x3) (h7 : x3 ≤ 40) (h8 : x3 = x2) (h9 : ¬ x1 = x3) (h10 : 0 ≤ x4) (h11 : x4 ≤ 4) (h12 : 4 - x4 < ((x5 + 1 : Nat) : Int)) (h13 : 0 ≤ x6) (h14 : x6 ≤ 40) (h15 : x6 = x2) (h16 : x4 < x6) (h17 : x7 = 40 * x0) (h18 : x8 = x7 + x4) (h19 : x9 = 1) (h20 : x10 = x1 + x9) : 0 ≤ x0 := by omega
theorem o38_152 {x0 x1 x2 x3 x4 x6 x7 x8 x9 x10 : Int} {x5 : Nat} (h0 : 0 ≤ x0) (h1 : x0 ≤ 3) (h2 : 1 ≤ x1) (h3 : x1 ≤ 1) (h4 : 1 ≤ x2) (h5 : x2 ≤ 4) (h6 : 0 ≤ x3) (h7 : x3 ≤ 40) (h8 : x3 = x2) (h9 : ¬ x1 = x3) (h10 : 0 ≤ x4) (h11 : x4 ≤ 4) (h12 : 4 - x4 < ((x5 + 1 : Nat) : Int)) (h13 : 0 ≤ x6) (h14 : x6 ≤ 40) (h15 : x6 = x2) (h16 : x4 < x6) (h17 : x7 = 40 * x0) (h18 : x8 = x7 + x4) (h19 : x9 = 1) (h20 : x10 = x1 + x9) : x0 ≤ 3 := by omega
theorem o38_153 {x0 x1 x2 x3 x4 x5 x7 x8 x9 x10 : Int} {x6 : Nat} (h0 : 0 ≤ x1) (h1 : x1 ≤ 3) (h2 : 1 ≤ x2) (h3 : x2 ≤ 1) (h4 : 1 ≤ x3) (h5 : x3 ≤ 4) (h6 : 0 ≤ x4) (h7 : x4 ≤ 40) (h8 : x4 = x3) (h9 : ¬ x2 = x4) (h10 : 0 ≤ x5) (h11 : x5 ≤ 4) (h12 : 4 - x5 < ((x6 + 1 : Nat) : Int)) (h13 : 0 ≤ x7) (h14 : x7 ≤ 40) (h15 : x7 = x3) (h16 : x5 < x7) (h17 : x8 = 40 * x1) (h18 : x9 = x8 + x5) (h19 : x10 = 1) (h20 : x0 = x2 + x10) : 2 ≤ x0 := by omega
theorem o38_154 {x0 x1 x2 x3 x4 x5 x7 x8 x9 x10 : Int} {x6 : Nat} (h0 : 0 ≤ x1) (h1 : x1 ≤ 3) (h2 : 1 ≤ x2) (h3 : x2 ≤ 1) (h4 : 1 ≤ x3) (h5 : x3 ≤ 4) (h6 : 0 ≤ x4) (h7 : x4 ≤ 40) (h8 : x4 = x3) (h9 : ¬ x2 = x4) (h10 : 0 ≤ x5) (h11 : x5 ≤ 4) (h12 : 4 - x5 < ((x6 + 1 : Nat) : Int)) (h13 : 0 ≤ x7) (h14 : x7 ≤ 40) (h15 : x7 = x3) (h16 : x5 < x7) (h17 : x8 = 40 * x1) (h18 : x9 = x8 + x5) (h19 : x10 = 1) (h20 : x0 = x2 + x10) : x0 ≤ 2 := by omega
theorem o38_155 {x0 x1 x2 x3 x4 x6 x7 x8 x9 x10 : Int} {x5 : Nat} (h0 : 0 ≤ x1) (h1 : x1 ≤ 3) (h2 : 1 ≤ x2) (h3 : x2 ≤ 1) (h4 : 1 ≤ x0) (h5 : x0 ≤ 4) (h6 : 0 ≤ x3) (h7 : x3 ≤ 40) (h8 : x3 = x0) (h9 : ¬ x2 = x3) (h10 : 0 ≤ x4) (h11 : x4 ≤ 4) (h12 : 4 - x4 < ((x5 + 1 : Nat) : Int)) (h13 : 0 ≤ x6) (h14 : x6 ≤ 40) (h15 : x6 = x0) (h16 : x4 < x6) (h17 : x7 = 40 * x1) (h18 : x8 = x7 + x4) (h19 : x9 = 1) (h20 : x10 = x2 + x9) : 2 ≤ x0 := by omega
theorem o38_156 {x0 x1 x2 x3 x4 x6 x7 x8 x9 x10 : Int} {x5 : Nat} (h0 : 0 ≤ x1) (h1 : x1 ≤ 3) (h2 : 1 ≤ x2) (h3 : x2 ≤ 1) (h4 : 1 ≤ x0) (h5 : x0 ≤ 4) (h6 : 0 ≤ x3) (h7 : x3 ≤ 40) (h8 : x3 = x0) (h9 : ¬ x2 = x3) (h10 : 0 ≤ x4) (h11 : x4 ≤ 4) (h12 : 4 - x4 < ((x5 + 1 : Nat) : Int)) (h13 : 0 ≤ x6) (h14 : x6 ≤ 40) (h15 : x6 = x0) (h16 : x4 < x6) (h17 : x7 = 40 * x1) (h18 : x8 = x7 + x4) (h19 : x9 = 1) (h20 : x10 = x2 + x9) : x0 ≤ 4 := by omega
theorem o38_157 {x0 x1 x2 x3 x4 x6 x7 x8 x9 x10 : Int} {x5 : Nat} (h0 : 0 ≤ x1) (h1 : x1 ≤ 3) (h2 : 1 ≤ x0) (h3 : x0 ≤ 1) (h4 : 1 ≤ x2) (h5 : x2 ≤ 4) (h6 : 0 ≤ x3) (h7 : x3 ≤ 40) (h8 : x3 = x2) (h9 : ¬ x0 = x3) (h10 : 0 ≤ x4) (h11 : x4 ≤ 4) (h12 : 4 - x4 < ((x5 + 1 : Nat) : Int)) (h13 : 0 ≤ x6) (h14 : x6 ≤ 40) (h15 : x6 = x2) (h16 : x4 < x6) (h17 : x7 = 40 * x1) (h18 : x8 = x7 + x4) (h19 : x9 = 1) (h20 : x10 = x0 + x9) : x0 = 1 := by omega
theorem o38_158 {x0 x1 x2 x3 x4 x6 x7 x8 x9 x10 : Int} {x5 : Nat} (h0 : 0 ≤ x1) (h1 : x1 ≤ 3) (h2 : 1 ≤ x2) (h3 : x2 ≤ 1) (h4 : 1 ≤ x3) (h5 : x3 ≤ 4) (h6 : 0 ≤ x4) (h7 : x4 ≤ 40) (h8 : x4 = x3) (h9 : ¬ x2 = x4) (h10 : 0 ≤ x0) (h11 : x0 ≤ 4) (h12 : 4 - x0 < ((x5 + 1 : Nat) : Int)) (h13 : 0 ≤ x6) (h14 : x6 ≤ 40) (h15 : x6 = x3) (h16 : x0 < x6) (h17 : x7 = 40 * x1) (h18 : x8 = x7 + x0) (h19 : x9 = 1) (h20 : x10 = x2 + x9) (h21 : -2147483648 ≤ x0) (h22 : x0 ≤ 2147483647) (h23 : -2147483648 ≤ x1) (h24 : x1 ≤ 2147483647) (h25 : -2147483648 ≤ x2) (h26 : x2 ≤ 2147483647) (h27 : -2147483648 ≤ x3) (h28 : x3 ≤ 2147483647) (h29 : -2147483648 ≤ x4) (h30 : x4 ≤ 2147483647) (h31 : -2147483648 ≤ x6) (h32 : x6 ≤ 2147483647) (h33 : -2147483648 ≤ x7) (h34 : x7 ≤ 2147483647) (h35 : -2147483648 ≤ x8) (h36 : x8 ≤ 2147483647) (h37 : -2147483648 ≤ x9) (h38 : x9 ≤ 2147483647) (h39 : -2147483648 ≤ x10) (h40 : x10 ≤ 2147483647) : -2147483648 ≤ x0 + 1 := by omega
theorem o38_159 {x0 x1 x2 x3 x4 x6 x7 x8 x9 x10 : Int} {x5 : Nat} (h0 : 0 ≤ x1) (h1 : x1 ≤ 3) (h2 : 1 ≤ x2) (h3 : x2 ≤ 1) (h4 : 1 ≤ x3) (h5 : x3 ≤ 4) (h6 : 0 ≤ x4) (h7 : x4 ≤ 40) (h8 : x4 = x3) (h9 : ¬ x2 = x4) (h10 : 0 ≤ x0) (h11 : x0 ≤ 4) (h12 : 4 - x0 < ((x5 + 1 : Nat) : Int)) (h13 : 0 ≤ x6) (h14 : x6 ≤ 40) (h15 : x6 = x3) (h16 : x0 < x6) (h17 : x7 = 40 * x1) (h18 : x8 = x7 + x0) (h19 : x9 = 1) (h20 : x10 = x2 + x9) (h21 : -2147483648 ≤ x0) (h22 : x0 ≤ 2147483647) (h23 : -2147483648 ≤ x1) (h24 : x1 ≤ 2147483647) (h25 : -2147483648 ≤ x2) (h26 : x2 ≤ 2147483647) (h27 : -2147483648 ≤ x3) (h28 : x3 ≤ 2147483647) (h29 : -2147483648 ≤ x4) (h30 : x4 ≤ 2147483647) (h31 : -2147483648 ≤ x6) (h32 : x6 ≤ 2147483647) (h33 : -2147483648 ≤ x7) (h34 : x7 ≤ 2147483647) (h35 : -2147483648 ≤ x8) (h36 : x8 ≤ 2147483647) (h37 : -2147483648 ≤ x9) (h38 : x9 ≤ 2147483647) (h39 : -2147483648 ≤ x10) (h40 : x10 ≤ 2147483647) : x0 + 1 ≤ 2147483647 := by omega
theorem o38_160 {x0 x2 x3 x4 x5 x6 x7 x8 x9 x10 x11 : Int} {x1 : Nat} (h0 : 0 ≤ x2) (h1 : x2 ≤ 3) (h2 : 1 ≤ x3) (h3 : x3 ≤ 1) (h4 : 1 ≤ x4) (h5 : x4 ≤ 4) (h6 : 0 ≤ x5) (h7 : x5 ≤ 40) (h8 : x5 = x4) (h9 : ¬ x3 = x5) (h10 : 0 ≤ x6) (h11 : x6 ≤ 4) (h12 : 4 - x6 < ((x1 + 1 : Nat) : Int)) (h13 : 0 ≤ x7) (h14 : x7 ≤ 40) (h15 : x7 = x4) (h16 : x6 < x7) (h17 : x8 = 40 * x2) (h18 : x9 = x8 + x6) (h19 : x10 = 1) (h20 : x11 = x3 + x10) (h21 : x0 = x6 + 1) : 4 - x0 < (x1 : Int) := by omega
theorem o38_161 {x0 x1 x2 x3 x4 x5 x7 x8 x9 x10 x11 : Int} {x6 : Nat} (h0 : 0 ≤ x1) (h1 : x1 ≤ 3) (h2 : 1 ≤ x2) (h3 : x2 ≤ 1) (h4 : 1 ≤ x3) (h5 : x3 ≤ 4) (h6 : 0 ≤ x4) (h7 : x4 ≤ 40) (h8 : x4 = x3) (h9 : ¬ x2 = x4) (h10 : 0 ≤ x5) (h11 : x5 ≤ 4) (h12 : 4 - x5 < ((x6 + 1 : Nat) : Int)) (h13 : 0 ≤ x7) (h14 : x7 ≤ 40) (h15 : x7 = x3) (h16 : x5 < x7) (h17 : x8 = 40 * x1) (h18 : x9 = x8 + x5) (h19 : x10 = 1) (h20 : x11 = x2 + x10) (h21 : x0 = x5 + 1) : 0 ≤ x0 := by omega
theorem o38_162 {x0 x1 x2 x3 x4 x5 x7 x8 x9 x10 x11 : Int} {x6 : Nat} (h0 : 0 ≤ x1) (h1 : x1 ≤ 3) (h2 : 1 ≤ x2) (h3 : x2 ≤ 1) (h4 : 1 ≤ x3) (h5 : x3 ≤ 4) (h6 : 0 ≤ x4) (h7 : x4 ≤ 40) (h8 : x4 = x3) (h9 : ¬ x2 = x4) (h10 : 0 ≤ x5) (h11 : x5 ≤ 4) (h12 : 4 - x5 < ((x6 + 1 : Nat) : Int)) (h13 : 0 ≤ x7) (h14 : x7 ≤ 40) (h15 : x7 = x3) (h16 : x5 < x7) (h17 : x8 = 40 * x1) (h18 : x9 = x8 + x5) (h19 : x10 = 1) (h20 : x11 = x2 + x10) (h21 : x0 = x5 + 1) : x0 ≤ 4 := by omega
theorem o38_163 {x0 x1 x2 x3 x4 x6 x7 x8 : Int} {x5 : Nat} (h0 : 0 ≤ x1) (h1 : x1 ≤ 3) (h2 : 1 ≤ x2) (h3 : x2 ≤ 1) (h4 : 1 ≤ x3) (h5 : x3 ≤ 4) (h6 : 0 ≤ x4) (h7 : x4 ≤ 40) (h8 : x4 = x3) (h9 : ¬ x2 = x4) (h10 : 0 ≤ x0) (h11 : x0 ≤ 4) (h12 : 4 - x0 < ((x5 + 1 : Nat) : Int)) (h13 : 0 ≤ x6) (h14 : x6 ≤ 40) (h15 : x6 = x3) (h16 : x0 < x6) (h17 : x7 = 40 * x1) (h18 : x8 = x7 + x0) (h19 : -2147483648 ≤ x0) (h20 : x0 ≤ 2147483647) (h21 : -2147483648 ≤ x1) (h22 : x1 ≤ 2147483647) (h23 : -2147483648 ≤ x2) (h24 : x2 ≤ 2147483647) (h25 : -2147483648 ≤ x3) (h26 : x3 ≤ 2147483647) (h27 : -2147483648 ≤ x4) (h28 : x4 ≤ 2147483647) (h29 : -2147483648 ≤ x6) (h30 : x6 ≤ 2147483647) (h31 : -2147483648 ≤ x7) (h32 : x7 ≤ 2147483647) (h33 : -2147483648 ≤ x8) (h34 : x8 ≤ 2147483647) : -2147483648 ≤ x0 + 1 := by omega
theorem o38_164 {x0 x1 x2 x3 x4 x6 x7 x8 : Int} {x5 : Nat} (h0 : 0 ≤ x1) (h1 : x1 ≤ 3) (h2 : 1 ≤ x2) (h3 : x2 ≤ 1) (h4 : 1 ≤ x3) (h5 : x3 ≤ 4) (h6 : 0 ≤ x4) (h7 : x4 ≤ 40) (h8 : x4 = x3) (h9 : ¬ x2 = x4) (h10 : 0 ≤ x0) (h11 : x0 ≤ 4) (h12 : 4 - x0 < ((x5 + 1 : Nat) : Int)) (h13 : 0 ≤ x6) (h14 : x6 ≤ 40) (h15 : x6 = x3) (h16 : x0 < x6) (h17 : x7 = 40 * x1) (h18 : x8 = x7 + x0) (h19 : -2147483648 ≤ x0) (h20 : x0 ≤ 2147483647) (h21 : -2147483648 ≤ x1) (h22 : x1 ≤ 2147483647) (h23 : -2147483648 ≤ x2) (h24 : x2 ≤ 2147483647) (h25 : -2147483648 ≤ x3) (h26 : x3 ≤ 2147483647) (h27 : -2147483648 ≤ x4) (h28 : x4 ≤ 2147483647) (h29 : -2147483648 ≤ x6) (h30 : x6 ≤ 2147483647) (h31 : -2147483648 ≤ x7) (h32 : x7 ≤ 2147483647) (h33 : -2147483648 ≤ x8) (h34 : x8 ≤ 2147483647) : x0 + 1 ≤ 2147483647 := by omega
theorem o38_165 {x0 x2 x3 x4 x5 x6 x7 x8 x9 : Int} {x1 : Nat} (h0 : 0 ≤ x2) (h1 : x2 ≤ 3) (h2 : 1 ≤ x3) (h3 : x3 ≤ 1) (h4 : 1 ≤ x4) (h5 : x4 ≤ 4) (h6 : 0 ≤ x5) (h7 : x5 ≤ 40) (h8 : x5 = x4) (h9 : ¬ x3 = x5) (h10 : 0 ≤ x6) (h11 : x6 ≤ 4) (h12 : 4 - x6 < ((x1 + 1 : Nat) : Int)) (h13 : 0 ≤ x7) (h14 : x7 ≤ 40) (h15 : x7 = x4) (h16 : x6 < x7) (h17 : x8 = 40 * x2) (h18 : x9 = x8 + x6) (h19 : x0 = x6 + 1) : 4 - x0 < (x1 : Int) := by omega
theorem o38_166 {x0 x1 x2 x3 x4 x5 x7 x8 x9 : Int} {x6 : Nat} (h0 : 0 ≤ x1) (h1 : x1 ≤ 3) (h2 : 1 ≤ x2) (h3 : x2 ≤ 1) (h4 : 1 ≤ x3) (h5 : x3 ≤ 4) (h6 : 0 ≤ x4) (h7 : x4 ≤ 40) (h8 : x4 = x3) (h9 : ¬ x2 = x4) (h10 : 0 ≤ x5) (h11 : x5 ≤ 4) (h12 : 4 - x5 < ((x6 + 1 : Nat) : Int)) (h13 : 0 ≤ x7) (h14 : x7 ≤ 40) (h15 : x7 = x3) (h16 : x5 < x7) (h17 : x8 = 40 * x1) (h18 : x9 = x8 + x5) (h19 : x0 = x5 + 1) : 0 ≤ x0 := by omega
theorem o38_167 {x0 x1 x2 x3 x4 x5 x7 x8 x9 : Int} {x6 : Nat} (h0 : 0 ≤ x1) (h1 : x1 ≤ 3) (h2 : 1 ≤ x2) (h3 : x2 ≤ 1) (h4 : 1 ≤ x3) (h5 : x3 ≤ 4) (h6 : 0 ≤ x4) (h7 : x4 ≤ 40) (h8 : x4 = x3) (h9 : ¬ x2 = x4) (h10 : 0 ≤ x5) (h11 : x5 ≤ 4) (h12 : 4 - x5 < ((x6 + 1 : Nat) : Int)) (h13 : 0 ≤ x7) (h14 : x7 ≤ 40) (h15 : x7 = x3) (h16 : x5 < x7) (h17 : x8 = 40 * x1) (h18 : x9 = x8 + x5) (h19 : x0 = x5 + 1) : x0 ≤ 4 := by omega
theorem o38_168 {x0 x1 x2 x3 x5 : Int} {x4 : Nat} (h0 : 1 ≤ x1) (h1 : x1 ≤ 1) (h2 : 1 ≤ x2) (h3 : x2 ≤ 4) (h4 : 0 ≤ x3) (h5 : x3 ≤ 40) (h6 : x3 = x2) (h7 : ¬ x1 = x3) (h8 : 0 ≤ x0) (h9 : x0 ≤ 4) (h10 : 4 - x0 < ((x4 + 1 : Nat) : Int)) (h11 : 0 ≤ x5) (h12 : x5 ≤ 40) (h13 : x5 = x2) (h14 : x0 < x5) (h15 : -2147483648 ≤ x0) (h16 : x0 ≤ 2147483647) (h17 : -2147483648 ≤ x1) (h18 : x1 ≤ 2147483647) (h19 : -2147483648 ≤ x2) (h20 : x2 ≤ 2147483647) (h21 : -2147483648 ≤ x3) (h22 : x3 ≤ 2147483647) (h23 : -2147483648 ≤ x5) (h24 : x5 ≤ 2147483647) : -2147483648 ≤ x0 + 1 := by omega
theorem o38_169 {x0 x1 x2 x3 x5 : Int} {x4 : Nat} (h0 : 1 ≤ x1) (h1 : x1 ≤ 1) (h2 : 1 ≤ x2) (h3 : x2 ≤ 4) (h4 : 0 ≤ x3) (h5 : x3 ≤ 40) (h6 : x3 = x2) (h7 : ¬ x1 = x3) (h8 : 0 ≤ x0) (h9 : x0 ≤ 4) (h10 : 4 - x0 < ((x4 + 1 : Nat) : Int)) (h11 : 0 ≤ x5) (h12 : x5 ≤ 40) (h13 : x5 = x2) (h14 : x0 < x5) (h15 : -2147483648 ≤ x0) (h16 : x0 ≤ 2147483647) (h17 : -2147483648 ≤ x1) (h18 : x1 ≤ 2147483647) (h19 : -2147483648 ≤ x2) (h20 : x2 ≤ 2147483647) (h21 : -2147483648 ≤ x3) (h22 : x3 ≤ 2147483647) (h23 : -2147483648 ≤ x5) (h24 : x5 ≤ 2147483647) : x0 + 1 ≤ 2147483647 := by omega
theorem o38_170 {x0 x2 x3 x4 x5 x6 : Int} {x1 : Nat} (h0 : 1 ≤ x2) (h1 : x2 ≤ 1) (h2 : 1 ≤ x3) (h3 : x3 ≤ 4) (h4 : 0 ≤ x4) (h5 : x4 ≤ 40) (h6 : x4 = x3) (h7 : ¬ x2 = x4) (h8 : 0 ≤ x5) (h9 : x5 ≤ 4) (h10 : 4 - x5 < ((x1 + 1 : Nat) : Int)) (h11 : 0 ≤ x6) (h12 : x6 ≤ 40) (h13 : x6 = x3) (h14 : x5 < x6) (h15 : x0 = x5 + 1) : 4 - x0 < (x1 : Int) := by omega
theorem o38_171 {x0 x1 x2 x3 x4 x6 : Int} {x5 : Nat} (h0 : 1 ≤ x1) (h1 : x1 ≤ 1) (h2 : 1 ≤ x2) (h3 : x2 ≤ 4) (h4 : 0 ≤ x3) (h5 : x3 ≤ 40) (h6 : x3 = x2) (h7 : ¬ x1 = x3) (h8 : 0 ≤ x4) (h9 : x4 ≤ 4) (h10 : 4 - x4 < ((x5 + 1 : Nat) : Int)) (h11 : 0 ≤ x6) (h12 : x6 ≤ 40) (h13 : x6 = x2) (h14 : x4 < x6) (h15 : x0 = x4 + 1) : 0 ≤ x0 := by omega
theorem o38_172 {x0 x1 x2 x3 x4 x6 : Int} {x5 : Nat} (h0 : 1 ≤ x1) (h1 : x1 ≤ 1) (h2 : 1 ≤ x2) (h3 : x2 ≤ 4) (h4 : 0 ≤ x3) (h5 : x3 ≤ 40) (h6 : x3 = x2) (h7 : ¬ x1 = x3) (h8 : 0 ≤ x4) (h9 : x4 ≤ 4) (h10 : 4 - x4 < ((x5 + 1 : Nat) : Int)) (h11 : 0 ≤ x6) (h12 : x6 ≤ 40) (h13 : x6 = x2) (h14 : x4 < x6) (h15 : x0 = x4 + 1) : x0 ≤ 4 := by omega
theorem o38_173 {x0 : Int} (h0 : 0 ≤ x0) (h1 : x0 ≤ 1) (h2 : 1 - x0 < 0) : False := by omega
theorem o38_174 {x0 x1 x2 : Int} (h0 : 1 ≤ x0) (h1 : x0 ≤ 1) (h2 : 1 ≤ x1) (h3 : x1 ≤ 4) (h4 : 0 ≤ x2) (h5 : x2 ≤ 40) (h6 : x2 = x1) (h7 : x0 = x2) : x0 = 1 := by omega
theorem o38_175 {x0 x1 x2 x3 : Int} {x4 : Nat} (h0 : 1 ≤ x1) (h1 : x1 ≤ 1) (h2 : 1 ≤ x2) (h3 : x2 ≤ 4) (h4 : 0 ≤ x3) (h5 : x3 ≤ 40) (h6 : x3 = x2) (h7 : x1 = x3) (h8 : 0 ≤ x0) (h9 : x0 ≤ 1) (h10 : 1 - x0 < ((x4 + 1 : Nat) : Int)) (h11 : x1 ≤ x0) : ¬ x0 < 1 := by omega
theorem o38_176 {x0 x1 x2 x3 : Int} {x4 : Nat} (h0 : 1 ≤ x1) (h1 : x1 ≤ 1) (h2 : 1 ≤ x2) (h3 : x2 ≤ 4) (h4 : 0 ≤ x3) (h5 : x3 ≤ 40) (h6 : x3 = x2) (h7 : x1 = x3) (h8 : 0 ≤ x0) (h9 : x0 ≤ 1) (h10 : 1 - x0 < ((x4 + 1 : Nat) : Int)) (h11 : x0 < x1) : x0 < 1 := by omega
theorem o38_177 {x0 x1 x2 x3 : Int} {x4 : Nat} (h0 : 1 ≤ x1) (h1 : x1 ≤ 1) (h2 : 1 ≤ x2) (h3 : x2 ≤ 4) (h4 : 0 ≤ x3) (h5 : x3 ≤ 40) (h6 : x3 = x2) (h7 : x1 = x3) (h8 : 0 ≤ x0) (h9 : x0 ≤ 1) (h10 : 1 - x0 < ((x4 + 1 : Nat) : Int)) (h11 : x0 < x1) : 0 ≤ x0 := by omega
theorem o38_178 {x0 x1 x2 x3 : Int} {x4 : Nat} (h0 : 1 ≤ x1) (h1 : x1 ≤ 1) (h2 : 1 ≤ x2) (h3 : x2 ≤ 4) (h4 : 0 ≤ x3) (h5 : x3 ≤ 40) (h6 : x3 = x2) (h7 : x1 = x3) (h8 : 0 ≤ x0) (h9 : x0 ≤ 1) (h10 : 1 - x0 < ((x4 + 1 : Nat) : Int)) (h11 : x0 < x1) : x0 < (4 : Nat) := by omega
theorem o38_179 {x0 x1 x2 x3 : Int} {x4 : Nat} (h0 : 1 ≤ x1) (h1 : x1 ≤ 1) (h2 : 1 ≤ x2) (h3 : x2 ≤ 4) (h4 : 0 ≤ x3) (h5 : x3 ≤ 40) (h6 : x3 = x2) (h7 : x1 = x3) (h8 : 0 ≤ x0) (h9 : x0 ≤ 1) (h10 : 1 - x0 < ((x4 + 1 : Nat) : Int)) (h11 : x0 < x1) : x0 = ((0 : Nat) : Int) := by omega
theorem o38_180 {x0 x1 x2 x3 : Int} {x4 : Nat} (h0 : 1 ≤ x1) (h1 : x1 ≤ 1) (h2 : 1 ≤ x2) (h3 : x2 ≤ 4) (h4 : 0 ≤ x3) (h5 : x3 ≤ 40) (h6 : x3 = x2) (h7 : x1 = x3) (h8 : 0 ≤ x0) (h9 : x0 ≤ 1) (h10 : 1 - x0 < ((x4 + 1 : Nat) : Int)) (h11 : x0 < x1) : x0 = 0 := by omega
theorem o38_181 {x0 x1 x2 x3 : Int} {x4 : Nat} (h0 : 1 ≤ x1) (h1 : x1 ≤ 1) (h2 : 1 ≤ x2) (h3 : x2 ≤ 4) (h4 : 0 ≤ x3) (h5 : x3 ≤ 40) (h6 : x3 = x2) (h7 : x1 = x3) (h8 : 0 ≤ x0) (h9 : x0 ≤ 1) (h10 : 1 - x0 < ((x4 + 1 : Nat) : Int)) (h11 : x0 < x1) (h12 : -2147483648 ≤ x0) (h13 : x0 ≤ 2147483647) (h14 : -2147483648 ≤ x1) (h15 : x1 ≤ 2147483647) (h16 : -2147483648 ≤ x2) (h17 : x2 ≤ 2147483647) (h18 : -2147483648 ≤ x3) (h19 : x3 ≤ 2147483647) : -2147483648 ≤ x0 + 1 := by omega
theorem o38_182 {x0 x1 x2 x3 : Int} {x4 : Nat} (h0 : 1 ≤ x1) (h1 : x1 ≤ 1) (h2 : 1 ≤ x2) (h3 : x2 ≤ 4) (h4 : 0 ≤ x3) (h5 : x3 ≤ 40) (h6 : x3 = x2) (h7 : x1 = x3) (h8 : 0 ≤ x0) (h9 : x0 ≤ 1) (h10 : 1 - x0 < ((x4 + 1 : Nat) : Int)) (h11 : x0 < x1) (h12 : -2147483648 ≤ x0) (h13 : x0 ≤ 2147483647) (h14 : -2147483648 ≤ x1) (h15 : x1 ≤ 2147483647) (h16 : -2147483648 ≤ x2) (h17 : x2 ≤ 2147483647) (h18 : -2147483648 ≤ x3) (h19 : x3 ≤ 2147483647) : x0 + 1 ≤ 2147483647 := by omega
theorem o38_183 {x0 x2 x3 x4 x5 : Int} {x1 : Nat} (h0 : 1 ≤ x2) (h1 : x2 ≤ 1) (h2 : 1 ≤ x3) (h3 : x3 ≤ 4) (h4 : 0 ≤ x4) (h5 : x4 ≤ 40) (h6 : x4 = x3) (h7 : x2 = x4) (h8 : 0 ≤ x5) (h9 : x5 ≤ 1) (h10 : 1 - x5 < ((x1 + 1 : Nat) : Int)) (h11 : x5 < x2) (h12 : x0 = x5 + 1) : 1 - x0 < (x1 : Int) := by omega
theorem o38_184 {x0 x1 x2 x3 x4 : Int} {x5 : Nat} (h0 : 1 ≤ x1) (h1 : x1 ≤ 1) (h2 : 1 ≤ x2) (h3 : x2 ≤ 4) (h4 : 0 ≤ x3) (h5 : x3 ≤ 40) (h6 : x3 = x2) (h7 : x1 = x3) (h8 : 0 ≤ x4) (h9 : x4 ≤ 1) (h10 : 1 - x4 < ((x5 + 1 : Nat) : Int)) (h11 : x4 < x1) (h12 : x0 = x4 + 1) : 0 ≤ x0 := by omega
theorem o38_185 {x0 x1 x2 x3 x4 : Int} {x5 : Nat} (h0 : 1 ≤ x1) (h1 : x1 ≤ 1) (h2 : 1 ≤ x2) (h3 : x2 ≤ 4) (h4 : 0 ≤ x3) (h5 : x3 ≤ 40) (h6 : x3 = x2) (h7 : x1 = x3) (h8 : 0 ≤ x4) (h9 : x4 ≤ 1) (h10 : 1 - x4 < ((x5 + 1 : Nat) : Int)) (h11 : x4 < x1) (h12 : x0 = x4 + 1) : x0 ≤ 1 := by omega
theorem o38_186 {x0 x1 x2 x3 x5 : Int} {x4 : Nat} (h0 : 1 ≤ x1) (h1 : x1 ≤ 1) (h2 : 1 ≤ x2) (h3 : x2 ≤ 4) (h4 : 0 ≤ x3) (h5 : x3 ≤ 40) (h6 : x3 = x2) (h7 : x1 = x3) (h8 : 0 ≤ x0) (h9 : x0 ≤ 1) (h10 : 1 - x0 < ((x4 + 1 : Nat) : Int)) (h11 : x0 < x1) (h12 : x5 = x0 + 1) : x0 = 0 := by omega
theorem o38_187 {x0 : Int} (h0 : x0 = 0) : 1 - x0 < (((1 - x0 + 1).toNat : Nat) : Int) := by omega
theorem o38_188 {x0 : Int} (h0 : x0 = 0) : x0 ≤ 1 := by omega
theorem o38_189 {x0 x1 x2 : Int} (h0 : 0 ≤ x0) (h1 : x0 ≤ 0) (h2 : 1 ≤ x2) (h3 : x2 ≤ 4) (h4 : 0 ≤ x1) (h5 : x1 ≤ 40) (h6 : x1 = x2) (h7 : x0 = x1) : False := by omega
theorem o38_190 {x0 x1 x2 x3 x4 x5 x7 : Int} {x6 : Nat} (h0 : 0 ≤ x2) (h1 : x2 ≤ 3) (h2 : 0 ≤ x3) (h3 : x3 ≤ 0) (h4 : 1 ≤ x4) (h5 : x4 ≤ 4) (h6 : 0 ≤ x5) (h7 : x5 ≤ 40) (h8 : x5 = x4) (h9 : ¬ x3 = x5) (h10 : 0 ≤ x1) (h11 : x1 ≤ 4) (h12 : 4 - x1 < ((x6 + 1 : Nat) : Int)) (h13 : 0 ≤ x7) (h14 : x7 ≤ 40) (h15 : x7 = x4) (h16 : x1 < x7) (h17 : x0 = 40 * x2) (h18 : -2147483648 ≤ x0) (h19 : x0 ≤ 2147483647) (h20 : -2147483648 ≤ x1) (h21 : x1 ≤ 2147483647) (h22 : -2147483648 ≤ x2) (h23 : x2 ≤ 2147483647) (h24 : -2147483648 ≤ x3) (h25 : x3 ≤ 2147483647) (h26 : -2147483648 ≤ x4) (h27 : x4 ≤ 2147483647) (h28 : -2147483648 ≤ x5) (h29 : x5 ≤ 2147483647) (h30 : -2147483648 ≤ x7) (h31 : x7 ≤ 2147483647) : -2147483648 ≤ x0 + x1 := by omega
theorem o38_191 {x0 x1 x2 x3 x4 x5 x7 : Int} {x6 : Nat} (h0 : 0 ≤ x2) (h1 : x2 ≤ 3) (h2 : 0 ≤ x3) (h3 : x3 ≤ 0) (h4 : 1 ≤ x4) (h5 : x4 ≤ 4) (h6 : 0 ≤ x5) (h7 : x5 ≤ 40) (h8 : x5 = x4) (h9 : ¬ x3 = x5) (h10 : 0 ≤ x1) (h11 : x1 ≤ 4) (h12 : 4 - x1 < ((x6 + 1 : Nat) : Int)) (h13 : 0 ≤ x7) (h14 : x7 ≤ 40) (h15 : x7 = x4) (h16 : x1 < x7) (h17 : x0 = 40 * x2) (h18 : -2147483648 ≤ x0) (h19 : x0 ≤ 2147483647) (h20 : -2147483648 ≤ x1) (h21 : x1 ≤ 2147483647) (h22 : -2147483648 ≤ x2) (h23 : x2 ≤ 2147483647) (h24 : -2147483648 ≤ x3) (h25 : x3 ≤ 2147483647) (h26 : -2147483648 ≤ x4) (h27 : x4 ≤ 2147483647) (h28 : -2147483648 ≤ x5) (h29 : x5 ≤ 2147483647) (h30 : -2147483648 ≤ x7) (h31 : x7 ≤ 2147483647) : x0 + x1 ≤ 2147483647 := by omega
theorem o38_192 {x0 x1 x2 x3 x4 x5 x7 x8 : Int} {x6 : Nat} (h0 : 0 ≤ x1) (h1 : x1 ≤ 3) (h2 : 0 ≤ x2) (h3 : x2 ≤ 0) (h4 : 1 ≤ x3) (h5 : x3 ≤ 4) (h6 : 0 ≤ x4) (h7 : x4 ≤ 40) (h8 : x4 = x3) (h9 : ¬ x2 = x4) (h10 : 0 ≤ x5) (h11 : x5 ≤ 4) (h12 : 4 - x5 < ((x6 + 1 : Nat) : Int)) (h13 : 0 ≤ x7) (h14 : x7 ≤ 40) (h15 : x7 = x3) (h16 : x5 < x7) (h17 : x8 = 40 * x1) (h18 : x0 = x8 + x5) : 0 ≤ x0 := by omega
theorem o38_193 {x0 x1 x2 x3 x4 x5 x7 x8 : Int} {x6 : Nat} (h0 : 0 ≤ x1) (h1 : x1 ≤ 3) (h2 : 0 ≤ x2) (h3 : x2 ≤ 0) (h4 : 1 ≤ x3) (h5 : x3 ≤ 4) (h6 : 0 ≤ x4) (h7 : x4 ≤ 40) (h8 : x4 = x3) (h9 : ¬ x2 = x4) (h10 : 0 ≤ x5) (h11 : x5 ≤ 4) (h12 : 4 - x5 < ((x6 + 1 : Nat) : Int)) (h13 : 0 ≤ x7) (h14 : x7 ≤ 40) (h15 : x7 = x3) (h16 : x5 < x7) (h17 : x8 = 40 * x1) (h18 : x0 = x8 + x5) : x0 < (160 : Nat) := by omega
theorem o38_194 {x0 x1 x2 x3 x4 x6 x7 x8 : Int} {x5 : Nat} (h0 : 0 ≤ x2) (h1 : x2 ≤ 3) (h2 : 0 ≤ x3) (h3 : x3 ≤ 0) (h4 : 1 ≤ x1) (h5 : x1 ≤ 4) (h6 : 0 ≤ x4) (h7 : x4 ≤ 40) (h8 : x4 = x1) (h9 : ¬ x3 = x4) (h10 : 0 ≤ x0) (h11 : x0 ≤ 4) (h12 : 4 - x0 < ((x5 + 1 : Nat) : Int)) (h13 : 0 ≤ x6) (h14 : x6 ≤ 40) (h15 : x6 = x1) (h16 : x0 < x6) (h17 : x7 = 40 * x2) (h18 : x8 = x7 + x0) : (x0).toNat < (x1).toNat := by omega
theorem o38_195 {x0 x1 x2 x3 x4 x5 x7 x8 : Int} {x6 : Nat} (h0 : 0 ≤ x1) (h1 : x1 ≤ 3) (h2 : 0 ≤ x3) (h3 : x3 ≤ 0) (h4 : 1 ≤ x4) (h5 : x4 ≤ 4) (h6 : 0 ≤ x5) (h7 : x5 ≤ 40) (h8 : x5 = x4) (h9 : ¬ x3 = x5) (h10 : 0 ≤ x2) (h11 : x2 ≤ 4) (h12 : 4 - x2 < ((x6 + 1 : Nat) : Int)) (h13 : 0 ≤ x7) (h14 : x7 ≤ 40) (h15 : x7 = x4) (h16 : x2 < x7) (h17 : x8 = 40 * x1) (h18 : x0 = x8 + x2) : (x0).toNat = 40 * (x1).toNat + (x2).toNat := by omega
theorem o38_196 {x0 x1 x2 x3 x4 x6 x7 x8 : Int} {x5 : Nat} (h0 : 0 ≤ x1) (h1 : x1 ≤ 3) (h2 : 0 ≤ x0) (h3 : x0 ≤ 0) (h4 : 1 ≤ x2) (h5 : x2 ≤ 4) (h6 : 0 ≤ x3) (h7 : x3 ≤ 40) (h8 : x3 = x2) (h9 : ¬ x0 = x3) (h10 : 0 ≤ x4) (h11 : x4 ≤ 4) (h12 : 4 - x4 < ((x5 + 1 : Nat) : Int)) (h13 : 0 ≤ x6) (h14 : x6 ≤ 40) (h15 : x6 = x2) (h16 : x4 < x6) (h17 : x7 = 40 * x1) (h18 : x8 = x7 + x4) : 0 ≤ x0 := by omega
theorem o38_197 {x0 x1 x2 x3 x4 x6 x7 x8 : Int} {x5 : Nat} (h0 : 0 ≤ x1) (h1 : x1 ≤ 3) (h2 : 0 ≤ x0) (h3 : x0 ≤ 0) (h4 : 1 ≤ x2) (h5 : x2 ≤ 4) (h6 : 0 ≤ x3) (h7 : x3 ≤ 40) (h8 : x3 = x2) (h9 : ¬ x0 = x3) (h10 : 0 ≤ x4) (h11 : x4 ≤ 4) (h12 : 4 - x4 < ((x5 + 1 : Nat) : Int)) (h13 : 0 ≤ x6) (h14 : x6 ≤ 40) (h15 : x6 = x2) (h16 : x4 < x6) (h17 : x7 = 40 * x1) (h18 : x8 = x7 + x4) : x0 < (4 : Nat) := by omega
theorem o38_198 {x0 x1 x2 x3 x4 x6 x7 x8 : Int} {x5 : Nat} (h0 : 0 ≤ x1) (h1 : x1 ≤ 3) (h2 : 0 ≤ x0) (h3 : x0 ≤ 0) (h4 : 1 ≤ x2) (h5 : x2 ≤ 4) (h6 : 0 ≤ x3) (h7 : x3 ≤ 40) (h8 : x3 = x2) (h9 : ¬ x0 = x3) (h10 : 0 ≤ x4) (h11 : x4 ≤ 4) (h12 : 4 - x4 < ((x5 + 1 : Nat) : Int)) (h13 : 0 ≤ x6) (h14 : x6 ≤ 40) (h15 : x6 = x2) (h16 : x4 < x6) (h17 : x7 = 40 * x1) (h18 : x8 = x7 + x4) : x0 = ((0 : Nat) : Int) := by omega
theorem o38_199 {x0 x1 x2 x3 x4 x6 x7 x8 : Int} {x5 : Nat} (h0 : 0 ≤ x1) (h1 : x1 ≤ 3) (h2 : 0 ≤ x0) (h3 : x0 ≤ 0) (h4 : 1 ≤ x2) (h5 : x2 ≤ 4) (h6 : 0 ≤ x3) (h7 : x3 ≤ 40) (h8 : x3 = x2) (h9 : ¬ x0 = x3) (h10 : 0 ≤ x4) (h11 : x4 ≤ 4) (h12 : 4 - x4 < ((x5 + 1 : Nat) : Int)) (h13 : 0 ≤ x6) (h14 : x6 ≤ 40) (h15 : x6 = x2) (h16 : x4 < x6) (h17 : x7 = 40 * x1) (h18 : x8 = x7 + x4) : x0 = 0 := by omega
theorem o38_200 {x0 x1 x2 x3 x4 x5 x7 x8 x9 : Int} {x6 : Nat} (h0 : 0 ≤ x2) (h1 : x2 ≤ 3) (h2 : 0 ≤ x0) (h3 : x0 ≤ 0) (h4 : 1 ≤ x3) (h5 : x3 ≤ 4) (h6 : 0 ≤ x4) (h7 : x4 ≤ 40) (h8 : x4 = x3) (h9 : ¬ x0 = x4) (h10 : 0 ≤ x5) (h11 : x5 ≤ 4) (h12 : 4 - x5 < ((x6 + 1 : Nat) : Int)) (h13 : 0 ≤ x7) (h14 : x7 ≤ 40) (h15 : x7 = x3) (h16 : x5 < x7) (h17 : x8 = 40 * x2) (h18 : x9 = x8 + x5) (h19 : x1 = 1) (h20 : -2147483648 ≤ x0) (h21 : x0 ≤ 2147483647) (h22 : -2147483648 ≤ x1) (h23 : x1 ≤ 2147483647) (h24 : -2147483648 ≤ x2) (h25 : x2 ≤ 2147483647) (h26 : -2147483648 ≤ x3) (h27 : x3 ≤ 2147483647) (h28 : -2147483648 ≤ x4) (h29 : x4 ≤ 2147483647) (h30 : -2147483648 ≤ x5) (h31 : x5 ≤ 2147483647) (h32 : -2147483648 ≤ x7) (h33 : x7 ≤ 2147483647) (h34 : -2147483648 ≤ x8) (h35 : x8 ≤ 2147483647) (h36 : -2147483648 ≤ x9) (h37 : x9 ≤ 2147483647) : -2147483648 ≤ x0 + x1 := by omega
theorem o38_201 {x0 x1 x2 x3 x4 x5 x7 x8 x9 : Int} {x6 : Nat} (h0 : 0 ≤ x2) (h1 : x2 ≤ 3) (h2 : 0 ≤ x0) (h3 : x0 ≤ 0) (h4 : 1 ≤ x3) (h5 : x3 ≤ 4) (h6 : 0 ≤ x4) (h7 : x4 ≤ 40) (h8 : x4 = x3) (h9 : ¬ x0 = x4) (h10 : 0 ≤ x5) (h11 : x5 ≤ 4) (h12 : 4 - x5 < ((x6 + 1 : Nat) : Int)) (h13 : 0 ≤ x7) (h14 : x7 ≤ 40) (h15 : x7 = x3) (h16 : x5 < x7) (h17 : x8 = 40 * x2) (h18 : x9 = x8 + x5) (h19 : x1 = 1) (h20 : -2147483648 ≤ x0) (h21 : x0 ≤ 2147483647) (h22 : -2147483648 ≤ x1) (h23 : x1 ≤ 2147483647) (h24 : -2147483648 ≤ x2) (h25 : x2 ≤ 2147483647) (h26 : -2147483648 ≤ x3) (h27 : x3 ≤ 2147483647) (h28 : -2147483648 ≤ x4) (h29 : x4 ≤ 2147483647) (h30 : -2147483648 ≤ x5) (h31 : x5 ≤ 2147483647) (h32 : -2147483648 ≤ x7) (h33 : x7 ≤ 2147483647) (h34 : -2147483648 ≤ x8) (h35 : x8 ≤ 2147483647) (h36 : -2147483648 ≤ x9) (h37 : x9 ≤ 2147483647) : x0 + x1 ≤ 2147483647 := by omega
theorem o38_202 {x0 x1 x2 x3 x4 x6 x7 x8 x9 x10 : Int} {x5 : Nat} (h0 : 0 ≤ x0) (h1 : x0 ≤ 3) (h2 : 0 ≤ x1) (h3 : x1 ≤ 0) (h4 : 1 ≤ x2) (h5 : x2 ≤ 4) (h6 : 0 ≤ x3) (h7 : x3 ≤ 40) (h8 : x3 = x2) (h9 : ¬ x1 = x3) (h10 : 0 ≤ x4) (h11 : x4 ≤ 4) (h12 : 4 - x4 < ((x5 + 1 : Nat) : Int)) (h13 : 0 ≤ x6) (h14 : x6 ≤ 40) (h15 : x6 = x2) (h16 : x4 < x6) (h17 : x7 = 40 * x0) (h18 : x8 = x7 + x4) (h19 : x9 = 1) (h20 : x10 = x1 + x9) : 0 ≤ x0 := by omega
theorem o38_203 {x0 x1 x2 x3 x4 x6 x7 x8 x9 x10 : Int} {x5 : Nat} (h0 : 0 ≤ x0) (h1 : x0 ≤ 3) (h2 : 0 ≤ x1) (h3 : x1 ≤ 0) (h4 : 1 ≤ x2) (h5 : x2 ≤ 4) (h6 : 0 ≤ x3) (h7 : x3 ≤ 40) (h8 : x3 = x2) (h9 : ¬ x1 = x3) (h10 : 0 ≤ x4) (h11 : x4 ≤ 4) (h12 : 4 - x4 < ((x5 + 1 : Nat) : Int)) (h13 : 0 ≤ x6) (h14 : x6 ≤ 40) (h15 : x6 = x2) (h16 : x4 < x6) (h17 : x7 = 40 * x0) (h18 : x8 = x7 + x4) (h19 : x9 = 1) (h20 : x10 = x1 + x9) : x0 ≤ 3 := by omega
theorem o38_204 {x0 x1 x2 x3 x4 x5 x7 x8 x9 x10 : Int} {x6 : Nat} (h0 : 0 ≤ x1) (h1 : x1 ≤ 3) (h2 : 0 ≤ x2) (h3 : x2 ≤ 0) (h4 : 1 ≤ x3) (h5 : x3 ≤ 4) (h6 : 0 ≤ x4) (h7 : x4 ≤ 40) (h8 : x4 = x3) (h9 : ¬ x2 = x4) (h10 : 0 ≤ x5) (h11 : x5 ≤ 4) (h12 : 4 - x5 < ((x6 + 1 : Nat) : Int)) (h13 : 0 ≤ x7) (h14 : x7 ≤ 40) (h15 : x7 = x3) (h16 : x5 < x7) (h17 : x8 = 40 * x1) (h18 : x9 = x8 + x5) (h19 : x10 = 1) (h20 : x0 = x2 + x10) : 1 ≤ x0 := by omega
theorem o38_205 {x0 x1 x2 x3 x4 x5 x7 x8 x9 x10 : Int} {x6 : Nat} (h0 : 0 ≤ x1) (h1 : x1 ≤ 3) (h2 : 0 ≤ x2) (h3 : x2 ≤ 0) (h4 : 1 ≤ x3) (h5 : x3 ≤ 4) (h6 : 0 ≤ x4) (h7 : x4 ≤ 40) (h8 : x4 = x3) (h9 : ¬ x2 = x4) (h10 : 0 ≤ x5) (h11 : x5 ≤ 4) (h12 : 4 - x5 < ((x6 + 1 : Nat) : Int)) (h13 : 0 ≤ x7) (h14 : x7 ≤ 40) (h15 : x7 = x3) (h16 : x5 < x7) (h17 : x8 = 40 * x1) (h18 : x9 = x8 + x5) (h19 : x10 = 1) (h20 : x0 = x2 + x10) : x0 ≤ 1 := by omega
theorem o38_206 {x0 x1 x2 x3 x4 x6 x7 x8 x9 x10 : Int} {x5 : Nat} (h0 : 0 ≤ x1) (h1 : x1 ≤ 3) (h2 : 0 ≤ x2) (h3 : x2 ≤ 0) (h4 : 1 ≤ x0) (h5 : x0 ≤ 4) (h6 : 0 ≤ x3) (h7 : x3 ≤ 40) (h8 : x3 = x0) (h9 : ¬ x2 = x3) (h10 : 0 ≤ x4) (h11 : x4 ≤ 4) (h12 : 4 - x4 < ((x5 + 1 : Nat) : Int)) (h13 : 0 ≤ x6) (h14 : x6 ≤ 40) (h15 : x6 = x0) (h16 : x4 < x6) (h17 : x7 = 40 * x1) (h18 : x8 = x7 + x4) (h19 : x9 = 1) (h20 : x10 = x2 + x9) : 1 ≤ x0 := by omega
theorem o38_207 {x0 x1 x2 x3 x4 x6 x7 x8 x9 x10 : Int} {x5 : Nat} (h0 : 0 ≤ x1) (h1 : x1 ≤ 3) (h2 : 0 ≤ x2) (h3 : x2 ≤ 0) (h4 : 1 ≤ x0) (h5 : x0 ≤ 4) (h6 : 0 ≤ x3) (h7 : x3 ≤ 40) (h8 : x3 = x0) (h9 : ¬ x2 = x3) (h10 : 0 ≤ x4) (h11 : x4 ≤ 4) (h12 : 4 - x4 < ((x5 + 1 : Nat) : Int)) (h13 : 0 ≤ x6) (h14 : x6 ≤ 40) (h15 : x6 = x0) (h16 : x4 < x6) (h17 : x7 = 40 * x1) (h18 : x8 = x7 + x4) (h19 : x9 = 1) (h20 : x10 = x2 + x9) : x0 ≤ 4 := by omega
theorem o38_208 {x0 x1 x2 x3 x4 x6 x7 x8 x9 x10 : Int} {x5 : Nat} (h0 : 0 ≤ x1) (h1 : x1 ≤ 3) (h2 : 0 ≤ x0) (h3 : x0 ≤ 0) (h4 : 1 ≤ x2) (h5 : x2 ≤ 4) (h6 : 0 ≤ x3) (h7 : x3 ≤ 40) (h8 : x3 = x2) (h9 : ¬ x0 = x3) (h10 : 0 ≤ x4) (h11 : x4 ≤ 4) (h12 : 4 - x4 < ((x5 + 1 : Nat) : Int)) (h13 : 0 ≤ x6) (h14 : x6 ≤ 40) (h15 : x6 = x2) (h16 : x4 < x6) (h17 : x7 = 40 * x1) (h18 : x8 = x7 + x4) (h19 : x9 = 1) (h20 : x10 = x0 + x9) : x0 = 0 := by omega
theorem o38_209 {x0 x1 x2 x3 x4 x6 x7 x8 x9 x10 : Int} {x5 : Nat} (h0 : 0 ≤ x1) (h1 : x1 ≤ 3) (h2 : 0 ≤ x2) (h3 : x2 ≤ 0) (h4 : 1 ≤ x3) (h5 : x3 ≤ 4) (h6 : 0 ≤ x4) (h7 : x4 ≤ 40) (h8 : x4 = x3) (h9 : ¬ x2 = x4) (h10 : 0 ≤ x0) (h11 : x0 ≤ 4) (h12 : 4 - x0 < ((x5 + 1 : Nat) : Int)) (h13 : 0 ≤ x6) (h14 : x6 ≤ 40) (h15 : x6 = x3) (h16 : x0 < x6) (h17 : x7 = 40 * x1) (h18 : x8 = x7 + x0) (h19 : x9 = 1) (h20 : x10 = x2 + x9) (h21 : -2147483648 ≤ x0) (h22 : x0 ≤ 2147483647) (h23 : -2147483648 ≤ x1) (h24 : x1 ≤ 2147483647) (h25 : -2147483648 ≤ x2) (h26 : x2 ≤ 2147483647) (h27 : -2147483648 ≤ x3) (h28 : x3 ≤ 2147483647) (h29 : -2147483648 ≤ x4) (h30 : x4 ≤ 2147483647) (h31 : -2147483648 ≤ x6) (h32 : x6 ≤ 2147483647) (h33 : -2147483648 ≤ x7) (h34 : x7 ≤ 2147483647) (h35 : -2147483648 ≤ x8) (h36 : x8 ≤ 2147483647) (h37 : -2147483648 ≤ x9) (h38 : x9 ≤ 2147483647) (h39 : -2147483648 ≤ x10) (h40 : x10 ≤ 2147483647) : -2147483648 ≤ x0 + 1 := by omega
theorem o38_210 {x0 x1 x2 x3 x4 x6 x7 x8 x9 x10 : Int} {x5 : Nat} (h0 : 0 ≤ x1) (h1 : x1 ≤ 3) (h2 : 0 ≤ x2) (h3 : x2 ≤ 0) (h4 : 1 ≤ x3) (h5 : x3 ≤ 4) (h6 : 0 ≤ x4) (h7 : x4 ≤ 40) (h8 : x4 = x3) (h9 : ¬ x2 = x4) (h10 : 0 ≤ x0) (h11 : x0 ≤ 4) (h12 : 4 - x0 < ((x5 + 1 : Nat) : Int)) (h13 : 0 ≤ x6) (h14 : x6 ≤ 40) (h15 : x6 = x3) (h16 : x0 < x6) (h17 : x7 = 40 * x1) (h18 : x8 = x7 + x0) (h19 : x9 = 1) (h20 : x10 = x2 + x9) (h21 : -2147483648 ≤ x0) (h22 : x0 ≤ 2147483647) (h23 : -2147483648 ≤ x1) (h24 : x1 ≤ 2147483647) (h25 : -2147483648 ≤ x2) (h26 : x2 ≤ 2147483647) (h27 : -2147483648 ≤ x3) (h28 : x3 ≤ 2147483647) (h29 : -2147483648 ≤ x4) (h30 : x4 ≤ 2147483647) (h31 : -2147483648 ≤ x6) (h32 : x6 ≤ 2147483647) (h33 : -2147483648 ≤ x7) (h34 : x7 ≤ 2147483647) (h35 : -2147483648 ≤ x8) (h36 : x8 ≤ 2147483647) (h37 : -2147483648 ≤ x9) (h38 : x9 ≤ 2147483647) (h39 : -2147483648 ≤ x10) (h40 : x10 ≤ 2147483647) : x0 + 1 ≤ 2147483647 := by omega
theorem o38_211 {x0 x2 x3 x4 x5 x6 x7 x8 x9 x10 x11 : Int} {x1 : Nat} (h0 : 0 ≤ x2) (h1 : x2 ≤ 3) (h2 : 0 ≤ x3) (h3 : x3 ≤ 0) (h4 : 1 ≤ x4) (h5 : x4 ≤ 4) (h6 : 0 ≤ x5) (h7 : x5 ≤ 40) (h8 : x5 = x4) (h9 : ¬ x3 = x5) (h10 : 0 ≤ x6) (h11 : x6 ≤ 4) (h12 : 4 - x6 < ((x1 + 1 : Nat) : Int)) (h13 : 0 ≤ x7) (h14 : x7 ≤ 40) (h15 : x7 = x4) (h16 : x6 < x7) (h17 : x8 = 40 * x2) (h18 : x9 = x8 + x6) (h19 : x10 = 1) (h20 : x11 = x3 + x10) (h21 : x0 = x6 + 1) : 4 - x0 < (x1 : Int) := by omega
theorem o38_212 {x0 x1 x2 x3 x4 x5 x7 x8 x9 x10 x11 : Int} {x6 : Nat} (h0 : 0 ≤ x1) (h1 : x1 ≤ 3) (h2 : 0 ≤ x2) (h3 : x2 ≤ 0) (h4 : 1 ≤ x3) (h5 : x3 ≤ 4) (h6 : 0 ≤ x4) (h7 : x4 ≤ 40) (h8 : x4 = x3) (h9 : ¬ x2 = x4) (h10 : 0 ≤ x5) (h11 : x5 ≤ 4) (h12 : 4 - x5 < ((x6 + 1 : Nat) : Int)) (h13 : 0 ≤ x7) (h14 : x7 ≤ 40) (h15 : x7 = x3) (h16 : x5 < x7) (h17 : x8 = 40 * x1) (h18 : x9 = x8 + x5) (h19 : x10 = 1) (h20 : x11 = x2 + x10) (h21 : x0 = x5 + 1) : 0 ≤ x0 := by omega
theorem o38_213 {x0 x1 x2 x3 x4 x5 x7 x8 x9 x10 x11 : Int} {x6 : Nat} (h0 : 0 ≤ x1) (h1 : x1 ≤ 3) (h2 : 0 ≤ x2) (h3 : x2 ≤ 0) (h4 : 1 ≤ x3) (h5 : x3 ≤ 4) (h6 : 0 ≤ x4) (h7 : x4 ≤ 40) (h8 : x4 = x3) (h9 : ¬ x2 = x4) (h10 : 0 ≤ x5) (h11 : x5 ≤ 4) (h12 : 4 - x5 < ((x6 + 1 : Nat) : Int)) (h13 : 0 ≤ x7) (h14 : x7 ≤ 40) (h15 : x7 = x3) (h16 : x5 < x7) (h17 : x8 = 40 * x1) (h18 : x9 = x8 + x5) (h19 : x10 = 1) (h20 : x11 = x2 + x10) (h21 : x0 = x5 + 1) : x0 ≤ 4 := by omega
theorem o38_214 {x0 x1 x2 x3 x4 x6 x7 x8 : Int} {x5 : Nat} (h0 : 0 ≤ x1) (h1 : x1 ≤ 3) (h2 : 0 ≤ x2) (h3 : x2 ≤ 0) (h4 : 1 ≤ x3) (h5 : x3 ≤ 4) (h6 : 0 ≤ x4) (h7 : x4 ≤ 40) (h8 : x4 = x3) (h9 : ¬ x2 = x4) (h10 : 0 ≤ x0) (h11 : x0 ≤ 4) (h12 : 4 - x0 < ((x5 + 1 : Nat) : Int)) (h13 : 0 ≤ x6) (h14 : x6 ≤ 40) (h15 : x6 = x3) (h16 : x0 < x6) (h17 : x7 = 40 * x1) (h18 : x8 = x7 + x0) (h19 : -2147483648 ≤ x0) (h20 : x0 ≤ 2147483647) (h21 : -2147483648 ≤ x1) (h22 : x1 ≤ 2147483647) (h23 : -2147483648 ≤ x2) (h24 : x2 ≤ 2147483647) (h25 : -2147483648 ≤ x3) (h26 : x3 ≤ 2147483647) (h27 : -2147483648 ≤ x4) (h28 : x4 ≤ 2147483647) (h29 : -2147483648 ≤ x6) (h30 : x6 ≤ 2147483647) (h31 : -2147483648 ≤ x7) (h32 : x7 ≤ 2147483647) (h33 : -2147483648 ≤ x8) (h34 : x8 ≤ 2147483647) : -2147483648 ≤ x0 + 1 := by omega
theorem o38_215 {x0 x1 x2 x3 x4 x6 x7 x8 : Int} {x5 : Nat} (h0 : 0 ≤ x1) (h1 : x1 ≤ 3) (h2 : 0 ≤ x2) (h3 : x2 ≤ 0) (h4 : 1 ≤ x3) (h5 : x3 ≤ 4) (h6 : 0 ≤ x4) (h7 : x4 ≤ 40) (h8 : x4 = x3) (h9 : ¬ x2 = x4) (h10 : 0 ≤ x0) (h11 : x0 ≤ 4) (h12 : 4 - x0 < ((x5 + 1 : Nat) : Int)) (h13 : 0 ≤ x6) (h14 : x6 ≤ 40) (h15 : x6 = x3) (h16 : x0 < x6) (h17 : x7 = 40 * x1) (h18 : x8 = x7 + x0) (h19 : -2147483648 ≤ x0) (h20 : x0 ≤ 2147483647) (h21 : -2147483648 ≤ x1) (h22 : x1 ≤ 2147483647) (h23 : -2147483648 ≤ x2) (h24 : x2 ≤ 2147483647) (h25 : -2147483648 ≤ x3) (h26 : x3 ≤ 2147483647) (h27 : -2147483648 ≤ x4) (h28 : x4 ≤ 2147483647) (h29 : -2147483648 ≤ x6) (h30 : x6 ≤ 2147483647) (h31 : -2147483648 ≤ x7) (h32 : x7 ≤ 2147483647) (h33 : -2147483648 ≤ x8) (h34 : x8 ≤ 2147483647) : x0 + 1 ≤ 2147483647 := by omega
theorem o38_216 {x0 x2 x3 x4 x5 x6 x7 x8 x9 : Int} {x1 : Nat} (h0 : 0 ≤ x2) (h1 : x2 ≤ 3) (h2 : 0 ≤ x3) (h3 : x3 ≤ 0) (h4 : 1 ≤ x4) (h5 : x4 ≤ 4) (h6 : 0 ≤ x5) (h7 : x5 ≤ 40) (h8 : x5 = x4) (h9 : ¬ x3 = x5) (h10 : 0 ≤ x6) (h11 : x6 ≤ 4) (h12 : 4 - x6 < ((x1 + 1 : Nat) : Int)) (h13 : 0 ≤ x7) (h14 : x7 ≤ 40) (h15 : x7 = x4) (h16 : x6 < x7) (h17 : x8 = 40 * x2) (h18 : x9 = x8 + x6) (h19 : x0 = x6 + 1) : 4 - x0 < (x1 : Int) := by omega
theorem o38_217 {x0 x1 x2 x3 x4 x5 x7 x8 x9 : Int} {x6 : Nat} (h0 : 0 ≤ x1) (h1 : x1 ≤ 3) (h2 : 0 ≤ x2) (h3 : x2 ≤ 0) (h4 : 1 ≤ x3) (h5 : x3 ≤ 4) (h6 : 0 ≤ x4) (h7 : x4 ≤ 40) (h8 : x4 = x3) (h9 : ¬ x2 = x4) (h10 : 0 ≤ x5) (h11 : x5 ≤ 4) (h12 : 4 - x5 < ((x6 + 1 : Nat) : Int)) (h13 : 0 ≤ x7) (h14 : x7 ≤ 40) (h15 : x7 = x3) (h16 : x5 < x7) (h17 : x8 = 40 * x1) (h18 : x9 = x8 + x5) (h19 : x0 = x5 + 1) : 0 ≤ x0 := by omega
theorem o38_218 {x0 x1 x2 x3 x4 x5 x7 x8 x9 : Int} {x6 : Nat} (h0 : 0 ≤ x1) (h1 : x1 ≤ 3) (h2 : 0 ≤ x2) (h3 : x2 ≤ 0) (h4 : 1 ≤ x3) (h5 : x3 ≤ 4) (h6 : 0 ≤ x4) (h7 : x4 ≤ 40) (h8 : x4 = x3) (h9 : ¬ x2 = x4) (h10 : 0 ≤ x5) (h11 : x5 ≤ 4) (h12 : 4 - x5 < ((x6 + 1 : Nat) : Int)) (h13 : 0 ≤ x7) (h14 : x7 ≤ 40) (h15 : x7 = x3) (h16 : x5 < x7) (h17 : x8 = 40 * x1) (h18 : x9 = x8 + x5) (h19 : x0 = x5 + 1) : x0 ≤ 4 := by omega
theorem o38_219 {x0 x1 x2 x3 x5 : Int} {x4 : Nat} (h0 : 0 ≤ x1) (h1 : x1 ≤ 0) (h2 : 1 ≤ x2) (h3 : x2 ≤ 4) (h4 : 0 ≤ x3) (h5 : x3 ≤ 40) (h6 : x3 = x2) (h7 : ¬ x1 = x3) (h8 : 0 ≤ x0) (h9 : x0 ≤ 4) (h10 : 4 - x0 < ((x4 + 1 : Nat) : Int)) (h11 : 0 ≤ x5) (h12 : x5 ≤ 40) (h13 : x5 = x2) (h14 : x0 < x5) (h15 : -2147483648 ≤ x0) (h16 : x0 ≤ 2147483647) (h17 : -2147483648 ≤ x1) (h18 : x1 ≤ 2147483647) (h19 : -2147483648 ≤ x2) (h20 : x2 ≤ 2147483647) (h21 : -2147483648 ≤ x3) (h22 : x3 ≤ 2147483647) (h23 : -2147483648 ≤ x5) (h24 : x5 ≤ 2147483647) : -2147483648 ≤ x0 + 1 := by omega
theorem o38_220 {x0 x1 x2 x3 x5 : Int} {x4 : Nat} (h0 : 0 ≤ x1) (h1 : x1 ≤ 0) (h2 : 1 ≤ x2) (h3 : x2 ≤ 4) (h4 : 0 ≤ x3) (h5 : x3 ≤ 40) (h6 : x3 = x2) (h7 : ¬ x1 = x3) (h8 : 0 ≤ x0) (h9 : x0 ≤ 4) (h10 : 4 - x0 < ((x4 + 1 : Nat) : Int)) (h11 : 0 ≤ x5) (h12 : x5 ≤ 40) (h13 : x5 = x2) (h14 : x0 < x5) (h15 : -2147483648 ≤ x0) (h16 : x0 ≤ 2147483647) (h17 : -2147483648 ≤ x1) (h18 : x1 ≤ 2147483647) (h19 : -2147483648 ≤ x2) (h20 : x2 ≤ 2147483647) (h21 : -2147483648 ≤ x3) (h22 : x3 ≤ 2147483647) (h23 : -2147483648 ≤ x5) (h24 : x5 ≤ 2147483647) : x0 + 1 ≤ 2147483647 := by omega
theorem o38_221 {x0 x2 x3 x4 x5 x6 : Int} {x1 : Nat} (h0 : 0 ≤ x2) (h1 : x2 ≤ 0) (h2 : 1 ≤ x3) (h3 : x3 ≤ 4) (h4 : 0 ≤ x4) (h5 : x4 ≤ 40) (h6 : x4 = x3) (h7 : ¬ x2 = x4) (h8 : 0 ≤ x5) (h9 : x5 ≤ 4) (h10 : 4 - x5 < ((x1 + 1 : Nat) : Int)) (h11 : 0 ≤ x6) (h12 : x6 ≤ 40) (h13 : x6 = x3) (h14 : x5 < x6) (h15 : x0 = x5 + 1) : 4 - x0 < (x1 : Int) := by omega
theorem o38_222 {x0 x1 x2 x3 x4 x6 : Int} {x5 : Nat} (h0 : 0 ≤ x1) (h1 : x1 ≤ 0) (h2 : 1 ≤ x2) (h3 : x2 ≤ 4) (h4 : 0 ≤ x3) (h5 : x3 ≤ 40) (h6 : x3 = x2) (h7 : ¬ x1 = x3) (h8 : 0 ≤ x4) (h9 : x4 ≤ 4) (h10 : 4 - x4 < ((x5 + 1 : Nat) : Int)) (h11 : 0 ≤ x6) (h12 : x6 ≤ 40) (h13 : x6 = x2) (h14 : x4 < x6) (h15 : x0 = x4 + 1) : 0 ≤ x0 := by omega
theorem o38_223 {x0 x1 x2 x3 x4 x6 : Int} {x5 : Nat} (h0 : 0 ≤ x1) (h1 : x1 ≤ 0) (h2 : 1 ≤ x2) (h3 : x2 ≤ 4) (h4 : 0 ≤ x3) (h5 : x3 ≤ 40) (h6 : x3 = x2) (h7 : ¬ x1 = x3) (h8 : 0 ≤ x4) (h9 : x4 ≤ 4) (h10 : 4 - x4 < ((x5 + 1 : Nat) : Int)) (h11 : 0 ≤ x6) (h12 : x6 ≤ 40) (h13 : x6 = x2) (h14 : x4 < x6) (h15 : x0 = x4 + 1) : x0 ≤ 4 := by omega
theorem o38_224 {x0 x1 x2 x3 x4 x5 : Int} (h0 : x1 = x0) (h1 : x2 = 0) (h2 : x3 = 3) (h3 : 0 ≤ x4) (h4 : x4 ≤ 1) (h5 : ((x4 = 0 ∧ (x1 < x2 ∨ x3 < x1)) ∨ (x4 = 1 ∧ x2 ≤ x1 ∧ x1 ≤ x3))) (h6 : ¬ x4 = 0) (h7 : (-6) ≤ x5) (h8 : x5 ≤ 0) (h9 : (x5 = -2 ∨ (0 ≤ x0 ∧ x0 ≤ 3))) (h10 : x5 = 0) : 0 ≤ x0 := by omega
theorem o38_225 {x0 x1 x2 x3 x4 x5 : Int} (h0 : x1 = x0) (h1 : x2 = 0) (h2 : x3 = 3) (h3 : 0 ≤ x4) (h4 : x4 ≤ 1) (h5 : ((x4 = 0 ∧ (x1 < x2 ∨ x3 < x1)) ∨ (x4 = 1 ∧ x2 ≤ x1 ∧ x1 ≤ x3))) (h6 : ¬ x4 = 0) (h7 : (-6) ≤ x5) (h8 : x5 ≤ 0) (h9 : (x5 = -2 ∨ (0 ≤ x0 ∧ x0 ≤ 3))) (h10 : x5 = 0) : x0 < (4 : Nat) := by omega
theorem o38_226 {x0 x1 x2 x3 x4 x5 x7 : Int} {x6 : Nat} (h0 : 0 ≤ x0) (h1 : x0 ≤ 40) (h2 : x2 = x0) (h3 : x3 = 1) (h4 : x4 = 4) (h5 : 0 ≤ x5) (h6 : x5 ≤ 1) (h7 : ((x5 = 0 ∧ (x2 < x3 ∨ x4 < x2)) ∨ (x5 = 1 ∧ x3 ≤ x2 ∧ x2 ≤ x4))) (h8 : ¬ x5 = 0) (h9 : 0 ≤ x1) (h10 : x1 ≤ 4) (h11 : 4 - x1 < ((x6 + 1 : Nat) : Int)) (h12 : 0 ≤ x7) (h13 : x7 ≤ 40) (h14 : x7 = x0) (h15 : x7 ≤ x1) : (x0).toNat ≤ (x1).toNat := by omega
theorem o38_227 {x0 x1 x2 x3 : Int} (h0 : x2 = x1) (h1 : 0 ≤ x3) (h2 : x3 ≤ 1) (h3 : (x3 = 0 ∨ (0 ≤ x2 ∧ x2 ≤ 4))) (h4 : ¬ x3 = 0) (h5 : x0 = 36) (h6 : -2147483648 ≤ x0) (h7 : x0 ≤ 2147483647) (h8 : -2147483648 ≤ x1) (h9 : x1 ≤ 2147483647) (h10 : -2147483648 ≤ x3) (h11 : x3 ≤ 2147483647) : -2147483648 ≤ x0 + x1 := by omega
theorem o38_228 {x0 x1 x2 x3 : Int} (h0 : x2 = x1) (h1 : 0 ≤ x3) (h2 : x3 ≤ 1) (h3 : (x3 = 0 ∨ (0 ≤ x2 ∧ x2 ≤ 4))) (h4 : ¬ x3 = 0) (h5 : x0 = 36) (h6 : -2147483648 ≤ x0) (h7 : x0 ≤ 2147483647) (h8 : -2147483648 ≤ x1) (h9 : x1 ≤ 2147483647) (h10 : -2147483648 ≤ x3) (h11 : x3 ≤ 2147483647) : x0 + x1 ≤ 2147483647 := by omega
theorem o38_229 {x0 x1 x2 x3 x4 : Int} (h0 : x1 = x2) (h1 : 0 ≤ x3) (h2 : x3 ≤ 1) (h3 : (x3 = 0 ∨ (0 ≤ x1 ∧ x1 ≤ 4))) (h4 : ¬ x3 = 0) (h5 : x4 = 36) (h6 : x0 = x4 + x2) : 0 ≤ x0 := by omega
theorem o38_230 {x0 x1 x2 x3 x4 : Int} (h0 : x1 = x2) (h1 : 0 ≤ x3) (h2 : x3 ≤ 1) (h3 : (x3 = 0 ∨ (0 ≤ x1 ∧ x1 ≤ 4))) (h4 : ¬ x3 = 0) (h5 : x4 = 36) (h6 : x0 = x4 + x2) : x0 < (5322 : Nat) := by omega
theorem o38_231 : ∀ p, p < 41 → 36 ≤ p → 0 ≤ (elAll p).1 ∧ (elAll p).2 ≤ 24 := by decide +kernel
theorem o38_232 {x0 x1 x2 x3 x4 : Int} (h0 : x1 = x2) (h1 : 0 ≤ x3) (h2 : x3 ≤ 1) (h3 : (x3 = 0 ∨ (0 ≤ x1 ∧ x1 ≤ 4))) (h4 : ¬ x3 = 0) (h5 : x4 = 36) (h6 : x0 = x4 + x2) : (x0).toNat < 41 := by omega
theorem o38_233 {x0 x1 x2 x3 x4 : Int} (h0 : x1 = x2) (h1 : 0 ≤ x3) (h2 : x3 ≤ 1) (h3 : (x3 = 0 ∨ (0 ≤ x1 ∧ x1 ≤ 4))) (h4 : ¬ x3 = 0) (h5 : x4 = 36) (h6 : x0 = x4 + x2) : 36 ≤ (x0).toNat := by omega
theorem o38_234 {x0 : Int} (h0 : x0 = 4) : x0 = 4 := by omega
theorem o38_235 {x0 : Int} (h0 : 0 ≤ x0) (h1 : x0 ≤ 24) (h2 : -2147483648 ≤ x0) (h3 : x0 ≤ 2147483647) : -2147483648 ≤ 4 * x0 := by omega
theorem o38_236 {x0 : Int} (h0 : 0 ≤ x0) (h1 : x0 ≤ 24) (h2 : -2147483648 ≤ x0) (h3 : x0 ≤ 2147483647) : 4 * x0 ≤ 2147483647 := by omega
theorem o38_237 {x0 x1 x2 x3 x4 x5 : Int} (h0 : x2 = x1) (h1 : 0 ≤ x3) (h2 : x3 ≤ 1) (h3 : (x3 = 0 ∨ (0 ≤ x2 ∧ x2 ≤ 4))) (h4 : ¬ x3 = 0) (h5 : x4 = 36) (h6 : x5 = x4 + x1) (h7 : x0 = 41) (h8 : -2147483648 ≤ x0) (h9 : x0 ≤ 2147483647) (h10 : -2147483648 ≤ x1) (h11 : x1 ≤ 2147483647) (h12 : -2147483648 ≤ x3) (h13 : x3 ≤ 2147483647) (h14 : -2147483648 ≤ x4) (h15 : x4 ≤ 2147483647) (h16 : -2147483648 ≤ x5) (h17 : x5 ≤ 2147483647) : -2147483648 ≤ x0 + x1 := by omega
theorem o38_238 {x0 x1 x2 x3 x4 x5 : Int} (h0 : x2 = x1) (h1 : 0 ≤ x3) (h2 : x3 ≤ 1) (h3 : (x3 = 0 ∨ (0 ≤ x2 ∧ x2 ≤ 4))) (h4 : ¬ x3 = 0) (h5 : x4 = 36) (h6 : x5 = x4 + x1) (h7 : x0 = 41) (h8 : -2147483648 ≤ x0) (h9 : x0 ≤ 2147483647) (h10 : -2147483648 ≤ x1) (h11 : x1 ≤ 2147483647) (h12 : -2147483648 ≤ x3) (h13 : x3 ≤ 2147483647) (h14 : -2147483648 ≤ x4) (h15 : x4 ≤ 2147483647) (h16 : -2147483648 ≤ x5) (h17 : x5 ≤ 2147483647) : x0 + x1 ≤ 2147483647 := by omega
theorem o38_239 {x0 x1 x2 x3 x4 x5 x6 : Int} (h0 : x1 = x2) (h1 : 0 ≤ x3) (h2 : x3 ≤ 1) (h3 : (x3 = 0 ∨ (0 ≤ x1 ∧ x1 ≤ 4))) (h4 : ¬ x3 = 0) (h5 : x4 = 36) (h6 : x5 = x4 + x2) (h7 : x6 = 41) (h8 : x0 = x6 + x2) : 0 ≤ x0 := by omega
theorem o38_240 {x0 x1 x2 x3 x4 x5 x6 : Int} (h0 : x1 = x2) (h1 : 0 ≤ x3) (h2 : x3 ≤ 1) (h3 : (x3 = 0 ∨ (0 ≤ x1 ∧ x1 ≤ 4))) (h4 : ¬ x3 = 0) (h5 : x4 = 36) (h6 : x5 = x4 + x2) (h7 : x6 = 41) (h8 : x0 = x6 + x2) : x0 < (5322 : Nat) := by omega
theorem o38_241 : ∀ p, p < 46 → 41 ≤ p → 0 ≤ (elAll p).1 ∧ (elAll p).2 ≤ 3 := by decide +kernel
theorem o38_242 {x0 x1 x2 x3 x4 x5 x6 : Int} (h0 : x1 = x2) (h1 : 0 ≤ x3) (h2 : x3 ≤ 1) (h3 : (x3 = 0 ∨ (0 ≤ x1 ∧ x1 ≤ 4))) (h4 : ¬ x3 = 0) (h5 : x4 = 36) (h6 : x5 = x4 + x2) (h7 : x6 = 41) (h8 : x0 = x6 + x2) : (x0).toNat < 46 := by omega
theorem o38_243 {x0 x1 x2 x3 x4 x5 x6 : Int} (h0 : x1 = x2) (h1 : 0 ≤ x3) (h2 : x3 ≤ 1) (h3 : (x3 = 0 ∨ (0 ≤ x1 ∧ x1 ≤ 4))) (h4 : ¬ x3 = 0) (h5 : x4 = 36) (h6 : x5 = x4 + x2) (h7 : x6 = 41) (h8 : x0 = x6 + x2) : 41 ≤ (x0).toNat := by omega
theorem o38_244 {x0 x1 x2 : Int} (h0 : 0 ≤ x2) (h1 : x2 ≤ 24) (h2 : x0 = 4 * x2) (h3 : 0 ≤ x1) (h4 : x1 ≤ 3) (h5 : -2147483648 ≤ x0) (h6 : x0 ≤ 2147483647) (h7 : -2147483648 ≤ x1) (h8 : x1 ≤ 2147483647) (h9 : -2147483648 ≤ x2) (h10 : x2 ≤ 2147483647) : -2147483648 ≤ x0 + x1 := by omega
theorem o38_245 {x0 x1 x2 : Int} (h0 : 0 ≤ x2) (h1 : x2 ≤ 24) (h2 : x0 = 4 * x2) (h3 : 0 ≤ x1) (h4 : x1 ≤ 3) (h5 : -2147483648 ≤ x0) (h6 : x0 ≤ 2147483647) (h7 : -2147483648 ≤ x1) (h8 : x1 ≤ 2147483647) (h9 : -2147483648 ≤ x2) (h10 : x2 ≤ 2147483647) : x0 + x1 ≤ 2147483647 := by omega
theorem o38_246 {x0 x1 x2 x3 x4 x5 : Int} (h0 : x1 = x0) (h1 : x2 = 0) (h2 : x3 = 3) (h3 : 0 ≤ x4) (h4 : x4 ≤ 1) (h5 : ((x4 = 0 ∧ (x1 < x2 ∨ x3 < x1)) ∨ (x4 = 1 ∧ x2 ≤ x1 ∧ x1 ≤ x3))) (h6 : ¬ x4 = 0) (h7 : (-6) ≤ x5) (h8 : x5 ≤ 0) (h9 : (x5 = -2 ∨ (0 ≤ x0 ∧ x0 ≤ 3))) (h10 : x5 = 0) : x0 ≤ 3 := by omega
theorem o38_247 {x0 : Int} (h0 : x0 = 0) : x0 ≤ 0 := by omega
theorem o38_248 {x0 x1 x2 x3 : Int} (h0 : 0 ≤ x1) (h1 : x1 ≤ 24) (h2 : x2 = 4 * x1) (h3 : 0 ≤ x3) (h4 : x3 ≤ 3) (h5 : x0 = x2 + x3) : 0 ≤ x0 := by omega
theorem o38_249 {x0 x1 x2 x3 : Int} (h0 : 0 ≤ x1) (h1 : x1 ≤ 24) (h2 : x2 = 4 * x1) (h3 : 0 ≤ x3) (h4 : x3 ≤ 3) (h5 : x0 = x2 + x3) : x0 ≤ 99 := by omega
theorem o38_250 {x0 x1 x2 x3 x4 x5 x7 : Int} {x6 : Nat} (h0 : 0 ≤ x0) (h1 : x0 ≤ 40) (h2 : x1 = x0) (h3 : x2 = 1) (h4 : x3 = 4) (h5 : 0 ≤ x4) (h6 : x4 ≤ 1) (h7 : ((x4 = 0 ∧ (x1 < x2 ∨ x3 < x1)) ∨ (x4 = 1 ∧ x2 ≤ x1 ∧ x1 ≤ x3))) (h8 : ¬ x4 = 0) (h9 : 0 ≤ x5) (h10 : x5 ≤ 4) (h11 : 4 - x5 < ((x6 + 1 : Nat) : Int)) (h12 : 0 ≤ x7) (h13 : x7 ≤ 40) (h14 : x7 = x0) (h15 : x7 ≤ x5) : 1 ≤ x0 := by omega
theorem o38_251 {x0 x1 x2 x3 x4 x5 x7 : Int} {x6 : Nat} (h0 : 0 ≤ x0) (h1 : x0 ≤ 40) (h2 : x1 = x0) (h3 : x2 = 1) (h4 : x3 = 4) (h5 : 0 ≤ x4) (h6 : x4 ≤ 1) (h7 : ((x4 = 0 ∧ (x1 < x2 ∨ x3 < x1)) ∨ (x4 = 1 ∧ x2 ≤ x1 ∧ x1 ≤ x3))) (h8 : ¬ x4 = 0) (h9 : 0 ≤ x5) (h10 : x5 ≤ 4) (h11 : 4 - x5 < ((x6 + 1 : Nat) : Int)) (h12 : 0 ≤ x7) (h13 : x7 ≤ 40) (h14 : x7 = x0) (h15 : x7 ≤ x5) : x0 ≤ 4 := by omega
theorem o38_252 {x0 x1 x2 x3 x4 x5 x6 : Int} (h0 : x1 = x2) (h1 : 0 ≤ x0) (h2 : x0 ≤ 1) (h3 : (x0 = 0 ∨ (0 ≤ x1 ∧ x1 ≤ 4))) (h4 : ¬ x0 = 0) (h5 : x3 = 36) (h6 : x4 = x3 + x2) (h7 : x5 = 41) (h8 : x6 = x5 + x2) : ¬ x0 = 0 := by omega
theorem o38_253 {x0 x1 x2 x3 x4 x5 : Int} (h0 : x2 = x0) (h1 : x3 = 0) (h2 : x4 = 1) (h3 : 0 ≤ x5) (h4 : x5 ≤ 1) (h5 : ((x5 = 0 ∧ (x2 < x3 ∨ x4 < x2)) ∨ (x5 = 1 ∧ x3 ≤ x2 ∧ x2 ≤ x4))) (h6 : ¬ x5 = 0) (h7 : ¬ x0 = 0) (h8 : x1 = 1) (h9 : ¬ x0 = x1) : False := by omega
theorem o38_254 {x0 x1 x2 x3 x4 x5 : Int} (h0 : x1 = x0) (h1 : x2 = 0) (h2 : x3 = 3) (h3 : 0 ≤ x4) (h4 : x4 ≤ 1) (h5 : ((x4 = 0 ∧ (x1 < x2 ∨ x3 < x1)) ∨ (x4 = 1 ∧ x2 ≤ x1 ∧ x1 ≤ x3))) (h6 : ¬ x4 = 0) (h7 : (-6) ≤ x5) (h8 : x5 ≤ 0) (h9 : (x5 = -2 ∨ (0 ≤ x0 ∧ x0 ≤ 3))) (h10 : x5 = 0) (h11 : -2147483648 ≤ x0) (h12 : x0 ≤ 2147483647) (h13 : -2147483648 ≤ x4) (h14 : x4 ≤ 2147483647) (h15 : -2147483648 ≤ x5) (h16 : x5 ≤ 2147483647) : -2147483648 ≤ 40 * x0 := by omega
theorem o38_255 {x0 x1 x2 x3 x4 x5 : Int} (h0 : x1 = x0) (h1 : x2 = 0) (h2 : x3 = 3) (h3 : 0 ≤ x4) (h4 : x4 ≤ 1) (h5 : ((x4 = 0 ∧ (x1 < x2 ∨ x3 < x1)) ∨ (x4 = 1 ∧ x2 ≤ x1 ∧ x1 ≤ x3))) (h6 : ¬ x4 = 0) (h7 : (-6) ≤ x5) (h8 : x5 ≤ 0) (h9 : (x5 = -2 ∨ (0 ≤ x0 ∧ x0 ≤ 3))) (h10 : x5 = 0) (h11 : -2147483648 ≤ x0) (h12 : x0 ≤ 2147483647) (h13 : -2147483648 ≤ x4) (h14 : x4 ≤ 2147483647) (h15 : -2147483648 ≤ x5) (h16 : x5 ≤ 2147483647) : 40 * x0 ≤ 2147483647 := by omega
theorem o38_256 {x0 x1 x2 x3 x4 x5 x6 x7 x8 x9 x10 x11 x12 x14 : Int} {x13 : Nat} (h0 : x2 = x3) (h1 : x4 = 0) (h2 : x5 = 3) (h3 : 0 ≤ x6) (h4 : x6 ≤ 1) (h5 : ((x6 = 0 ∧ (x2 < x4 ∨ x5 < x2)) ∨ (x6 = 1 ∧ x4 ≤ x2 ∧ x2 ≤ x5))) (h6 : ¬ x6 = 0) (h7 : (-6) ≤ x7) (h8 : x7 ≤ 0) (h9 : (x7 = -2 ∨ (0 ≤ x3 ∧ x3 ≤ 3))) (h10 : x7 = 0) (h11 : 0 ≤ x8) (h12 : x8 ≤ 40) (h13 : x9 = x8) (h14 : x10 = 1) (h15 : x11 = 4) (h16 : 0 ≤ x12) (h17 : x12 ≤ 1) (h18 : ((x12 = 0 ∧ (x9 < x10 ∨ x11 < x9)) ∨ (x12 = 1 ∧ x10 ≤ x9 ∧ x9 ≤ x11))) (h19 : ¬ x12 = 0) (h20 : 0 ≤ x1) (h21 : x1 ≤ 4) (h22 : 4 - x1 < ((x13 + 1 : Nat) : Int)) (h23 : 0 ≤ x14) (h24 : x14 ≤ 40) (h25 : x14 = x8) (h26 : x1 < x14) (h27 : x0 = 40 * x3) (h28 : -2147483648 ≤ x0) (h29 : x0 ≤ 2147483647) (h30 : -2147483648 ≤ x1) (h31 : x1 ≤ 2147483647) (h32 : -2147483648 ≤ x3) (h33 : x3 ≤ 2147483647) (h34 : -2147483648 ≤ x6) (h35 : x6 ≤ 2147483647) (h36 : -2147483648 ≤ x7) (h37 : x7 ≤ 2147483647) (h38 : -2147483648 ≤ x8) (h39 : x8 ≤ 2147483647) (h40 : -2147483648 ≤ x12) (h41 : x12 ≤ 2147483647) (h42 : -2147483648 ≤ x14) (h43 : x14 ≤ 2147483647) : -2147483648 ≤ x0 + x1 := by omega
theorem o38_257 {x0 x1 x2 x3 x4 x5 x6 x7 x8 x9 x10 x11 x12 x14 : Int} {x13 : Nat} (h0 : x2 = x3) (h1 : x4 = 0) (h2 : x5 = 3) (h3 : 0 ≤ x6) (h4 : x6 ≤ 1) (h5 : ((x6 = 0 ∧ (x2 < x4 ∨ x5 < x2)) ∨ (x6 = 1 ∧ x4 ≤ x2 ∧ x2 ≤ x5))) (h6 : ¬ x6 = 0) (h7 : (-6) ≤ x7) (h8 : x7 ≤ 0) (h9 : (x7 = -2 ∨ (0 ≤ x3 ∧ x3 ≤ 3))) (h10 : x7 = 0) (h11 : 0 ≤ x8) (h12 : x8 ≤ 40) (h13 : x9 = x8) (h14 : x10 = 1) (h15 : x11 = 4) (h16 : 0 ≤ x12) (h17 : x12 ≤ 1) (h18 : ((x12 = 0 ∧ (x9 < x10 ∨ x11 < x9)) ∨ (x12 = 1 ∧ x10 ≤ x9 ∧ x9 ≤ x11))) (h19 : ¬ x12 = 0) (h20 : 0 ≤ x1) (h21 : x1 ≤ 4) (h22 : 4 - x1 < ((x13 + 1 : Nat) : Int)) (h23 : 0 ≤ x14) (h24 : x14 ≤ 40) (h25 : x14 = x8) (h26 : x1 < x14) (h27 : x0 = 40 * x3) (h28 : -2147483648 ≤ x0) (h29 : x0 ≤ 2147483647) (h30 : -2147483648 ≤ x1) (h31 : x1 ≤ 2147483647) (h32 : -2147483648 ≤ x3) (h33 : x3 ≤ 2147483647) (h34 : -2147483648 ≤ x6) (h35 : x6 ≤ 2147483647) (h36 : -2147483648 ≤ x7) (h37 : x7 ≤ 2147483647) (h38 : -2147483648 ≤ x8) (h39 : x8 ≤ 2147483647) (h40 : -2147483648 ≤ x12) (h41 : x12 ≤ 2147483647) (h42 : -2147483648 ≤ x14) (h43 : x14 ≤ 2147483647) : x0 + x1 ≤ 2147483647 := by omega
theorem o38_258 {x0 x1 x2 x3 x4 x5 x6 x7 x8 x9 x10 x11 x12 x14 x15 : Int} {x13 : Nat} (h0 : x1 = x2) (h1 : x3 = 0) (h2 : x4 = 3) (h3 : 0 ≤ x5) (h4 : x5 ≤ 1) (h5 : ((x5 = 0 ∧ (x1 < x3 ∨ x4 < x1)) ∨ (x5 = 1 ∧ x3 ≤ x1 ∧ x1 ≤ x4))) (h6 : ¬ x5 = 0) (h7 : (-6) ≤ x6) (h8 : x6 ≤ 0) (h9 : (x6 = -2 ∨ (0 ≤ x2 ∧ x2 ≤ 3))) (h10 : x6 = 0) (h11 : 0 ≤ x7) (h12 : x7 ≤ 40) (h13 : x8 = x7) (h14 : x9 = 1) (h15 : x10 = 4) (h16 : 0 ≤ x11) (h17 : x11 ≤ 1) (h18 : ((x11 = 0 ∧ (x8 < x9 ∨ x10 < x8)) ∨ (x11 = 1 ∧ x9 ≤ x8 ∧ x8 ≤ x10))) (h19 : ¬ x11 = 0) (h20 : 0 ≤ x12) (h21 : x12 ≤ 4) (h22 : 4 - x12 < ((x13 + 1 : Nat) : Int)) (h23 : 0 ≤ x14) (h24 : x14 ≤ 40) (h25 : x14 = x7) (h26 : x12 < x14) (h27 : x15 = 40 * x2) (h28 : x0 = x15 + x12) : 0 ≤ x0 := by omega
theorem o38_259 {x0 x1 x2 x3 x4 x5 x6 x7 x8 x9 x10 x11 x12 x14 x15 : Int} {x13 : Nat} (h0 : x1 = x2) (h1 : x3 = 0) (h2 : x4 = 3) (h3 : 0 ≤ x5) (h4 : x5 ≤ 1) (h5 : ((x5 = 0 ∧ (x1 < x3 ∨ x4 < x1)) ∨ (x5 = 1 ∧ x3 ≤ x1 ∧ x1 ≤ x4))) (h6 : ¬ x5 = 0) (h7 : (-6) ≤ x6) (h8 : x6 ≤ 0) (h9 : (x6 = -2 ∨ (0 ≤ x2 ∧ x2 ≤ 3))) (h10 : x6 = 0) (h11 : 0 ≤ x7) (h12 : x7 ≤ 40) (h13 : x8 = x7) (h14 : x9 = 1) (h15 : x10 = 4) (h16 : 0 ≤ x11) (h17 : x11 ≤ 1) (h18 : ((x11 = 0 ∧ (x8 < x9 ∨ x10 < x8)) ∨ (x11 = 1 ∧ x9 ≤ x8 ∧ x8 ≤ x10))) (h19 : ¬ x11 = 0) (h20 : 0 ≤ x12) (h21 : x12 ≤ 4) (h22 : 4 - x12 < ((x13 + 1 : Nat) : Int)) (h23 : 0 ≤ x14) (h24 : x14 ≤ 40) (h25 : x14 = x7) (h26 : x12 < x14) (h27 : x15 = 40 * x2) (h28 : x0 = x15 + x12) : x0 < (160 : Nat) := by omega
theorem o38_260 {x0 x1 x2 x3 x4 x5 x6 x7 x8 x9 x10 x11 x13 x14 x15 : Int} {x12 : Nat} (h0 : x1 = x2) (h1 : x3 = 0) (h2 : x4 = 3) (h3 : 0 ≤ x5) (h4 : x5 ≤ 1) (h5 : ((x5 = 0 ∧ (x1 < x3 ∨ x4 < x1)) ∨ (x5 = 1 ∧ x3 ≤ x1 ∧ x1 ≤ x4))) (h6 : ¬ x5 = 0) (h7 : (-6) ≤ x6) (h8 : x6 ≤ 0) (h9 : (x6 = -2 ∨ (0 ≤ x2 ∧ x2 ≤ 3))) (h10 : x6 = 0) (h11 : 0 ≤ x7) (h12 : x7 ≤ 40) (h13 : x8 = x7) (h14 : x9 = 1) (h15 : x10 = 4) (h16 : 0 ≤ x11) (h17 : x11 ≤ 1) (h18 : ((x11 = 0 ∧ (x8 < x9 ∨ x10 < x8)) ∨ (x11 = 1 ∧ x9 ≤ x8 ∧ x8 ≤ x10))) (h19 : ¬ x11 = 0) (h20 : 0 ≤ x0) (h21 : x0 ≤ 4) (h22 : 4 - x0 < ((x12 + 1 : Nat) : Int)) (h23 : 0 ≤ x13) (h24 : x13 ≤ 40) (h25 : x13 = x7) (h26 : x0 < x13) (h27 : x14 = 40 * x2) (h28 : x15 = x14 + x0) (h29 : -2147483648 ≤ x0) (h30 : x0 ≤ 2147483647) (h31 : -2147483648 ≤ x2) (h32 : x2 ≤ 2147483647) (h33 : -2147483648 ≤ x5) (h34 : x5 ≤ 2147483647) (h35 : -2147483648 ≤ x6) (h36 : x6 ≤ 2147483647) (h37 : -2147483648 ≤ x7) (h38 : x7 ≤ 2147483647) (h39 : -2147483648 ≤ x11) (h40 : x11 ≤ 2147483647) (h41 : -2147483648 ≤ x13) (h42 : x13 ≤ 2147483647) (h43 : -2147483648 ≤ x14) (h44 : x14 ≤ 2147483647) (h45 : -2147483648 ≤ x15) (h46 : x15 ≤ 2147483647) : -2147483648 ≤ x0 + 1 := by omega
theorem o38_261 {x0 x1 x2 x3 x4 x5 x6 x7 x8 x9 x10 x11 x13 x14 x15 : Int} {x12 : Nat} (h0 : x1 = x2) (h1 : x3 = 0) (h2 : x4 = 3) (h3 : 0 ≤ x5) (h4 : x5 ≤ 1) (h5 : ((x5 = 0 ∧ (x1 < x3 ∨ x4 < x1)) ∨ (x5 = 1 ∧ x3 ≤ x1 ∧ x1 ≤ x4))) (h6 : ¬ x5 = 0) (h7 : (-6) ≤ x6) (h8 : x6 ≤ 0) (h9 : (x6 = -2 ∨ (0 ≤ x2 ∧ x2 ≤ 3))) (h10 : x6 = 0) (h11 : 0 ≤ x7) (h12 : x7 ≤ 40) (h13 : x8 = x7) (h14 : x9 = 1) (h15 : x10 = 4) (h16 : 0 ≤ x11) (h17 : x11 ≤ 1) (h18 : ((x11 = 0 ∧ (x8 < x9 ∨ x10 < x8)) ∨ (x11 = 1 ∧ x9 ≤ x8 ∧ x8 ≤ x10))) (h19 : ¬ x11 = 0) (h20 : 0 ≤ x0) (h21 : x0 ≤ 4) (h22 : 4 - x0 < ((x12 + 1 : Nat) : Int)) (h23 : 0 ≤ x13) (h24 : x13 ≤ 40) (h25 : x13 = x7) (h26 : x0 < x13) (h27 : x14 = 40 * x2) (h28 : x15 = x14 + x0) (h29 : -2147483648 ≤ x0) (h30 : x0 ≤ 2147483647) (h31 : -2147483648 ≤ x2) (h32 : x2 ≤ 2147483647) (h33 : -2147483648 ≤ x5) (h34 : x5 ≤ 2147483647) (h35 : -2147483648 ≤ x6) (h36 : x6 ≤ 2147483647) (h37 : -2147483648 ≤ x7) (h38 : x7 ≤ 2147483647) (h39 : -2147483648 ≤ x11) (h40 : x11 ≤ 2147483647) (h41 : -2147483648 ≤ x13) (h42 : x13 ≤ 2147483647) (h43 : -2147483648 ≤ x14) (h44 : x14 ≤ 2147483647) (h45 : -2147483648 ≤ x15) (h46 : x15 ≤ 2147483647) : x0 + 1 ≤ 2147483647 := by omega
theorem o38_262 {x0 x2 x3 x4 x5 x6 x7 x8 x9 x10 x11 x12 x13 x14 x15 x16 : Int} {x1 : Nat} (h0 : x2 = x3) (h1 : x4 = 0) (h2 : x5 = 3) (h3 : 0 ≤ x6) (h4 : x6 ≤ 1) (h5 : ((x6 = 0 ∧ (x2 < x4 ∨ x5 < x2)) ∨ (x6 = 1 ∧ x4 ≤ x2 ∧ x2 ≤ x5))) (h6 : ¬ x6 = 0) (h7 : (-6) ≤ x7) (h8 : x7 ≤ 0) (h9 : (x7 = -2 ∨ (0 ≤ x3 ∧ x3 ≤ 3))) (h10 : x7 = 0) (h11 : 0 ≤ x8) (h12 : x8 ≤ 40) (h13 : x9 = x8) (h14 : x10 = 1) (h15 : x11 = 4) (h16 : 0 ≤ x12) (h17 : x12 ≤ 1) (h18 : ((x12 = 0 ∧ (x9 < x10 ∨ x11 < x9)) ∨ (x12 = 1 ∧ x10 ≤ x9 ∧ x9 ≤ x11))) (h19 : ¬ x12 = 0) (h20 : 0 ≤ x13) (h21 : x13 ≤ 4) (h22 : 4 - x13 < ((x1 + 1 : Nat) : Int)) (h23 : 0 ≤ x14) (h24 : x14 ≤ 40) (h25 : x14 = x8) (h26 : x13 < x14) (h27 : x15 = 40 * x3) (h28 : x16 = x15 + x13) (h29 : x0 = x13 + 1) : 4 - x0 < (x1 : Int) := by omega
theorem o38_263 {x0 x1 x2 x3 x4 x5 x6 x7 x8 x9 x10 x11 x12 x14 x15 x16 : Int} {x13 : Nat} (h0 : x1 = x2) (h1 : x3 = 0) (h2 : x4 = 3) (h3 : 0 ≤ x5) (h4 : x5 ≤ 1) (h5 : ((x5 = 0 ∧ (x1 < x3 ∨ x4 < x1)) ∨ (x5 = 1 ∧ x3 ≤ x1 ∧ x1 ≤ x4))) (h6 : ¬ x5 = 0) (h7 : (-6) ≤ x6) (h8 : x6 ≤ 0) (h9 : (x6 = -2 ∨ (0 ≤ x2 ∧ x2 ≤ 3))) (h10 : x6 = 0) (h11 : 0 ≤ x7) (h12 : x7 ≤ 40) (h13 : x8 = x7) (h14 : x9 = 1) (h15 : x10 = 4) (h16 : 0 ≤ x11) (h17 : x11 ≤ 1) (h18 : ((x11 = 0 ∧ (x8 < x9 ∨ x10 < x8)) ∨ (x11 = 1 ∧ x9 ≤ x8 ∧ x8 ≤ x10))) (h19 : ¬ x11 = 0) (h20 : 0 ≤ x12) (h21 : x12 ≤ 4) (h22 : 4 - x12 < ((x13 + 1 : Nat) : Int)) (h23 : 0 ≤ x14) (h24 : x14 ≤ 40) (h25 : x14 = x7) (h26 : x12 < x14) (h27 : x15 = 40 * x2) (h28 : x16 = x15 + x12) (h29 : x0 = x12 + 1) : 0 ≤ x0 := by omega
theorem o38_264 {x0 x1 x2 x3 x4 x5 x6 x7 x8 x9 x10 x11 x12 x14 x15 x16 : Int} {x13 : Nat} (h0 : x1 = x2) (h1 : x3 = 0) (h2 : x4 = 3) (h3 : 0 ≤ x5) (h4 : x5 ≤ 1) (h5 : ((x5 = 0 ∧ (x1 < x3 ∨ x4 < x1)) ∨ (x5 = 1 ∧ x3 ≤ x1 ∧ x1 ≤ x4))) (h6 : ¬ x5 = 0) (h7 : (-6) ≤ x6) (h8 : x6 ≤ 0) (h9 : (x6 = -2 ∨ (0 ≤ x2 ∧ x2 ≤ 3))) (h10 : x6 = 0) (h11 : 0 ≤ x7) (h12 : x7 ≤ 40) (h13 : x8 = x7) (h14 : x9 = 1) (h15 : x10 = 4) (h16 : 0 ≤ x11) (h17 : x11 ≤ 1) (h18 : ((x11 = 0 ∧ (x8 < x9 ∨ x10 < x8)) ∨ (x11 = 1 ∧ x9 ≤ x8 ∧ x8 ≤ x10))) (h19 : ¬ x11 = 0) (h20 : 0 ≤ x12) (h21 : x12 ≤ 4) (h22 : 4 - x12 < ((x13 + 1 : Nat) : Int)) (h23 : 0 ≤ x14) (h24 : x14 ≤ 40) (h25 : x14 = x7) (h26 : x12 < x14) (h27 : x15 = 40 * x2) (h28 : x16 = x15 + x12) (h29 : x0 = x12 + 1) : x0 ≤ 4 := by omega
theorem o38_265 {x0 x1 x2 x3 x4 x5 x6 x7 x8 x9 x10 x11 x12 x14 x15 x16 : Int} {x13 : Nat} (h0 : x3 = x1) (h1 : x4 = 0) (h2 : x5 = 3) (h3 : 0 ≤ x6) (h4 : x6 ≤ 1) (h5 : ((x6 = 0 ∧ (x3 < x4 ∨ x5 < x3)) ∨ (x6 = 1 ∧ x4 ≤ x3 ∧ x3 ≤ x5))) (h6 : ¬ x6 = 0) (h7 : (-6) ≤ x7) (h8 : x7 ≤ 0) (h9 : (x7 = -2 ∨ (0 ≤ x1 ∧ x1 ≤ 3))) (h10 : x7 = 0) (h11 : 0 ≤ x8) (h12 : x8 ≤ 40) (h13 : x9 = x8) (h14 : x10 = 1) (h15 : x11 = 4) (h16 : 0 ≤ x12) (h17 : x12 ≤ 1) (h18 : ((x12 = 0 ∧ (x9 < x10 ∨ x11 < x9)) ∨ (x12 = 1 ∧ x10 ≤ x9 ∧ x9 ≤ x11))) (h19 : ¬ x12 = 0) (h20 : 0 ≤ x2) (h21 : x2 ≤ 4) (h22 : 4 - x2 < ((x13 + 1 : Nat) : Int)) (h23 : 0 ≤ x14) (h24 : x14 ≤ 40) (h25 : x14 = x8) (h26 : x2 < x14) (h27 : x15 = 40 * x1) (h28 : x0 = x15 + x2) (h29 : x16 = x2 + 1) : (x0).toNat = 40 * (x1).toNat + (x2).toNat := by omega
theorem o38_266 {x0 x1 x2 x3 x4 x5 x6 x7 x8 x9 x10 x11 x12 x14 x15 x16 x17 x18 : Int} {x13 : Nat} (h0 : x2 = x3) (h1 : x4 = 0) (h2 : x5 = 3) (h3 : 0 ≤ x6) (h4 : x6 ≤ 1) (h5 : ((x6 = 0 ∧ (x2 < x4 ∨ x5 < x2)) ∨ (x6 = 1 ∧ x4 ≤ x2 ∧ x2 ≤ x5))) (h6 : ¬ x6 = 0) (h7 : (-6) ≤ x7) (h8 : x7 ≤ 0) (h9 : (x7 = -2 ∨ (0 ≤ x3 ∧ x3 ≤ 3))) (h10 : x7 = 0) (h11 : 0 ≤ x8) (h12 : x8 ≤ 40) (h13 : x9 = x8) (h14 : x10 = 1) (h15 : x11 = 4) (h16 : 0 ≤ x12) (h17 : x12 ≤ 1) (h18 : ((x12 = 0 ∧ (x9 < x10 ∨ x11 < x9)) ∨ (x12 = 1 ∧ x10 ≤ x9 ∧ x9 ≤ x11))) (h19 : ¬ x12 = 0) (h20 : 0 ≤ x0) (h21 : x0 ≤ 4) (h22 : 4 - x0 < ((x13 + 1 : Nat) : Int)) (h23 : 0 ≤ x14) (h24 : x14 ≤ 40) (h25 : x14 = x8) (h26 : x0 < x14) (h27 : x15 = 40 * x3) (h28 : x16 = x15 + x0) (h29 : 0 ≤ x17) (h30 : x17 ≤ 1) (h31 : (x17 = 0 ∨ (0 ≤ x1 ∧ x1 ≤ 24))) (h32 : ¬ x17 = 0) (h33 : x18 = x0 + 1) : 0 ≤ x0 ∧ 0 ≤ x1 ∧ x1 ≤ 24 := by omega
theorem o38_267 {x0 x1 x2 x3 x4 x5 x6 x7 x8 : Int} (h0 : x1 = x0) (h1 : x2 = 0) (h2 : x3 = 1) (h3 : 0 ≤ x4) (h4 : x4 ≤ 1) (h5 : ((x4 = 0 ∧ (x1 < x2 ∨ x3 < x1)) ∨ (x4 = 1 ∧ x2 ≤ x1 ∧ x1 ≤ x3))) (h6 : x4 = 0) (h7 : x5 = x0) (h8 : x6 = 10) (h9 : x7 = 13) (h10 : 0 ≤ x8) (h11 : x8 ≤ 1) (h12 : ((x8 = 0 ∧ (x5 < x6 ∨ x7 < x5)) ∨ (x8 = 1 ∧ x6 ≤ x5 ∧ x5 ≤ x7))) (h13 : ¬ x8 = 0) (h14 : x0 = 0) : False := by omega
theorem o38_268 {x0 x1 x2 x3 x4 x5 x6 x7 x8 x9 : Int} (h0 : x2 = x0) (h1 : x3 = 0) (h2 : x4 = 1) (h3 : 0 ≤ x5) (h4 : x5 ≤ 1) (h5 : ((x5 = 0 ∧ (x2 < x3 ∨ x4 < x2)) ∨ (x5 = 1 ∧ x3 ≤ x2 ∧ x2 ≤ x4))) (h6 : x5 = 0) (h7 : x6 = x0) (h8 : x7 = 10) (h9 : x8 = 13) (h10 : 0 ≤ x9) (h11 : x9 ≤ 1) (h12 : ((x9 = 0 ∧ (x6 < x7 ∨ x8 < x6)) ∨ (x9 = 1 ∧ x7 ≤ x6 ∧ x6 ≤ x8))) (h13 : ¬ x9 = 0) (h14 : ¬ x0 = 0) (h15 : x1 = 1) (h16 : x0 = x1) : False := by omega
theorem o38_269 {x0 x1 x2 x3 x4 x5 x6 x7 x8 x9 x10 : Int} (h0 : x2 = x0) (h1 : x3 = 0) (h2 : x4 = 1) (h3 : 0 ≤ x5) (h4 : x5 ≤ 1) (h5 : ((x5 = 0 ∧ (x2 < x3 ∨ x4 < x2)) ∨ (x5 = 1 ∧ x3 ≤ x2 ∧ x2 ≤ x4))) (h6 : x5 = 0) (h7 : x6 = x0) (h8 : x7 = 10) (h9 : x8 = 13) (h10 : 0 ≤ x9) (h11 : x9 ≤ 1) (h12 : ((x9 = 0 ∧ (x6 < x7 ∨ x8 < x6)) ∨ (x9 = 1 ∧ x7 ≤ x6 ∧ x6 ≤ x8))) (h13 : ¬ x9 = 0) (h14 : ¬ x0 = 0) (h15 : x10 = 1) (h16 : ¬ x0 = x10) (h17 : x1 = 10) (h18 : -2147483648 ≤ x0) (h19 : x0 ≤ 2147483647) (h20 : -2147483648 ≤ x1) (h21 : x1 ≤ 2147483647) (h22 : -2147483648 ≤ x5) (h23 : x5 ≤ 2147483647) (h24 : -2147483648 ≤ x9) (h25 : x9 ≤ 2147483647) (h26 : -2147483648 ≤ x10) (h27 : x10 ≤ 2147483647) : -2147483648 ≤ x0 - x1 := by omega
theorem o38_270 {x0 x1 x2 x3 x4 x5 x6 x7 x8 x9 x10 : Int} (h0 : x2 = x0) (h1 : x3 = 0) (h2 : x4 = 1) (h3 : 0 ≤ x5) (h4 : x5 ≤ 1) (h5 : ((x5 = 0 ∧ (x2 < x3 ∨ x4 < x2)) ∨ (x5 = 1 ∧ x3 ≤ x2 ∧ x2 ≤ x4))) (h6 : x5 = 0) (h7 : x6 = x0) (h8 : x7 = 10) (h9 : x8 = 13) (h10 : 0 ≤ x9) (h11 : x9 ≤ 1) (h12 : ((x9 = 0 ∧ (x6 < x7 ∨ x8 < x6)) ∨ (x9 = 1 ∧ x7 ≤ x6 ∧ x6 ≤ x8))) (h13 : ¬ x9 = 0) (h14 : ¬ x0 = 0) (h15 : x10 = 1) (h16 : ¬ x0 = x10) (h17 : x1 = 10) (h18 : -2147483648 ≤ x0) (h19 : x0 ≤ 2147483647) (h20 : -2147483648 ≤ x1) (h21 : x1 ≤ 2147483647) (h22 : -2147483648 ≤ x5) (h23 : x5 ≤ 2147483647) (h24 : -2147483648 ≤ x9) (h25 : x9 ≤ 2147483647) (h26 : -2147483648 ≤ x10) (h27 : x10 ≤ 2147483647) : x0 - x1 ≤ 2147483647 := by omega
theorem o38_271 {x0 x1 x2 x3 x4 x5 x6 x7 x8 x9 x10 x11 x12 x13 x14 x15 x17 x18 x19 x20 x21 : Int} {x16 : Nat} (h0 : x2 = x0) (h1 : x3 = 0) (h2 : x4 = 1) (h3 : 0 ≤ x5) (h4 : x5 ≤ 1) (h5 : ((x5 = 0 ∧ (x2 < x3 ∨ x4 < x2)) ∨ (x5 = 1 ∧ x3 ≤ x2 ∧ x2 ≤ x4))) (h6 : x5 = 0) (h7 : x6 = x0) (h8 : x7 = 10) (h9 : x8 = 13) (h10 : 0 ≤ x9) (h11 : x9 ≤ 1) (h12 : ((x9 = 0 ∧ (x6 < x7 ∨ x8 < x6)) ∨ (x9 = 1 ∧ x7 ≤ x6 ∧ x6 ≤ x8))) (h13 : ¬ x9 = 0) (h14 : 0 ≤ x10) (h15 : x10 ≤ 40) (h16 : x11 = x10) (h17 : x12 = 1) (h18 : x13 = 4) (h19 : 0 ≤ x14) (h20 : x14 ≤ 1) (h21 : ((x14 = 0 ∧ (x11 < x12 ∨ x13 < x11)) ∨ (x14 = 1 ∧ x12 ≤ x11 ∧ x11 ≤ x13))) (h22 : ¬ x14 = 0) (h23 : 0 ≤ x15) (h24 : x15 ≤ 4) (h25 : 4 - x15 < ((x16 + 1 : Nat) : Int)) (h26 : 0 ≤ x17) (h27 : x17 ≤ 40) (h28 : x17 = x10) (h29 : x17 ≤ x15) (h30 : ¬ x0 = 0) (h31 : x18 = 1) (h32 : ¬ x0 = x18) (h33 : x19 = 10) (h34 : x20 = x0 - x19) (h35 : 0 ≤ x21) (h36 : x21 ≤ 40) (h37 : x21 = x10) (h38 : x20 < x21) (h39 : x1 = 10) (h40 : -2147483648 ≤ x0) (h41 : x0 ≤ 2147483647) (h42 : -2147483648 ≤ x1) (h43 : x1 ≤ 2147483647) (h44 : -2147483648 ≤ x5) (h45 : x5 ≤ 2147483647) (h46 : -2147483648 ≤ x9) (h47 : x9 ≤ 2147483647) (h48 : -2147483648 ≤ x10) (h49 : x10 ≤ 2147483647) (h50 : -2147483648 ≤ x14) (h51 : x14 ≤ 2147483647) (h52 : -2147483648 ≤ x15) (h53 : x15 ≤ 2147483647) (h54 : -2147483648 ≤ x17) (h55 : x17 ≤ 2147483647) (h56 : -2147483648 ≤ x18) (h57 : x18 ≤ 2147483647) (h58 : -2147483648 ≤ x19) (h59 : x19 ≤ 2147483647) (h60 : -2147483648 ≤ x20) (h61 : x20 ≤ 2147483647) (h62 : -2147483648 ≤ x21) (h63 : x21 ≤ 2147483647) : -2147483648 ≤ x0 - x1 := by omega
theorem o38_272 {x0 x1 x2 x3 x4 x5 x6 x7 x8 x9 x10 x11 x12 x13 x14 x15 x17 x18 x19 x20 x21 : Int} {x16 : Nat} (h0 : x2 = x0) (h1 : x3 = 0) (h2 : x4 = 1) (h3 : 0 ≤ x5) (h4 : x5 ≤ 1) (h5 : ((x5 = 0 ∧ (x2 < x3 ∨ x4 < x2)) ∨ (x5 = 1 ∧ x3 ≤ x2 ∧ x2 ≤ x4))) (h6 : x5 = 0) (h7 : x6 = x0) (h8 : x7 = 10) (h9 : x8 = 13) (h10 : 0 ≤ x9) (h11 : x9 ≤ 1) (h12 : ((x9 = 0 ∧ (x6 < x7 ∨ x8 < x6)) ∨ (x9 = 1 ∧ x7 ≤ x6 ∧ x6 ≤ x8))) (h13 : ¬ x9 = 0) (h14 : 0 ≤ x10) (h15 : x10 ≤ 40) (h16 : x11 = x10) (h17 : x12 = 1) (h18 : x13 = 4) (h19 : 0 ≤ x14) (h20 : x14 ≤ 1) (h21 : ((x14 = 0 ∧ (x11 < x12 ∨ x13 < x11)) ∨ (x14 = 1 ∧ x12 ≤ x11 ∧ x11 ≤ x13))) (h22 : ¬ x14 = 0) (h23 : 0 ≤ x15) (h24 : x15 ≤ 4) (h25 : 4 - x15 < ((x16 + 1 : Nat) : Int)) (h26 : 0 ≤ x17) (h27 : x17 ≤ 40) (h28 : x17 = x10) (h29 : x17 ≤ x15) (h30 : ¬ x0 = 0) (h31 : x18 = 1) (h32 : ¬ x0 = x18) (h33 : x19 = 10) (h34 : x20 = x0 - x19) (h35 : 0 ≤ x21) (h36 : x21 ≤ 40) (h37 : x21 = x10) (h38 : x20 < x21) (h39 : x1 = 10) (h40 : -2147483648 ≤ x0) (h41 : x0 ≤ 2147483647) (h42 : -2147483648 ≤ x1) (h43 : x1 ≤ 2147483647) (h44 : -2147483648 ≤ x5) (h45 : x5 ≤ 2147483647) (h46 : -2147483648 ≤ x9) (h47 : x9 ≤ 2147483647) (h48 : -2147483648 ≤ x10) (h49 : x10 ≤ 2147483647) (h50 : -2147483648 ≤ x14) (h51 : x14 ≤ 2147483647) (h52 : -2147483648 ≤ x15) (h53 : x15 ≤ 2147483647) (h54 : -2147483648 ≤ x17) (h55 : x17 ≤ 2147483647) (h56 : -2147483648 ≤ x18) (h57 : x18 ≤ 2147483647) (h58 : -2147483648 ≤ x19) (h59 : x19 ≤ 2147483647) (h60 : -2147483648 ≤ x20) (h61 : x20 ≤ 2147483647) (h62 : -2147483648 ≤ x21) (h63 : x21 ≤ 2147483647) : x0 - x1 ≤ 2147483647 := by omega
theorem o38_273 {x0 x1 x2 x3 x4 x5 x6 x7 x8 x9 x10 x11 x12 x13 x14 x15 x17 x18 x19 x20 x21 x22 : Int} {x16 : Nat} (h0 : x1 = x2) (h1 : x3 = 0) (h2 : x4 = 1) (h3 : 0 ≤ x5) (h4 : x5 ≤ 1) (h5 : ((x5 = 0 ∧ (x1 < x3 ∨ x4 < x1)) ∨ (x5 = 1 ∧ x3 ≤ x1 ∧ x1 ≤ x4))) (h6 : x5 = 0) (h7 : x6 = x2) (h8 : x7 = 10) (h9 : x8 = 13) (h10 : 0 ≤ x9) (h11 : x9 ≤ 1) (h12 : ((x9 = 0 ∧ (x6 < x7 ∨ x8 < x6)) ∨ (x9 = 1 ∧ x7 ≤ x6 ∧ x6 ≤ x8))) (h13 : ¬ x9 = 0) (h14 : 0 ≤ x10) (h15 : x10 ≤ 40) (h16 : x11 = x10) (h17 : x12 = 1) (h18 : x13 = 4) (h19 : 0 ≤ x14) (h20 : x14 ≤ 1) (h21 : ((x14 = 0 ∧ (x11 < x12 ∨ x13 < x11)) ∨ (x14 = 1 ∧ x12 ≤ x11 ∧ x11 ≤ x13))) (h22 : ¬ x14 = 0) (h23 : 0 ≤ x15) (h24 : x15 ≤ 4) (h25 : 4 - x15 < ((x16 + 1 : Nat) : Int)) (h26 : 0 ≤ x17) (h27 : x17 ≤ 40) (h28 : x17 = x10) (h29 : x17 ≤ x15) (h30 : ¬ x2 = 0) (h31 : x18 = 1) (h32 : ¬ x2 = x18) (h33 : x19 = 10) (h34 : x20 = x2 - x19) (h35 : 0 ≤ x21) (h36 : x21 ≤ 40) (h37 : x21 = x10) (h38 : x20 < x21) (h39 : x22 = 10) (h40 : x0 = x2 - x22) : 0 ≤ x0 := by omega
theorem o38_274 {x0 x1 x2 x3 x4 x5 x6 x7 x8 x9 x10 x11 x12 x13 x14 x15 x17 x18 x19 x20 x21 x22 : Int} {x16 : Nat} (h0 : x1 = x2) (h1 : x3 = 0) (h2 : x4 = 1) (h3 : 0 ≤ x5) (h4 : x5 ≤ 1) (h5 : ((x5 = 0 ∧ (x1 < x3 ∨ x4 < x1)) ∨ (x5 = 1 ∧ x3 ≤ x1 ∧ x1 ≤ x4))) (h6 : x5 = 0) (h7 : x6 = x2) (h8 : x7 = 10) (h9 : x8 = 13) (h10 : 0 ≤ x9) (h11 : x9 ≤ 1) (h12 : ((x9 = 0 ∧ (x6 < x7 ∨ x8 < x6)) ∨ (x9 = 1 ∧ x7 ≤ x6 ∧ x6 ≤ x8))) (h13 : ¬ x9 = 0) (h14 : 0 ≤ x10) (h15 : x10 ≤ 40) (h16 : x11 = x10) (h17 : x12 = 1) (h18 : x13 = 4) (h19 : 0 ≤ x14) (h20 : x14 ≤ 1) (h21 : ((x14 = 0 ∧ (x11 < x12 ∨ x13 < x11)) ∨ (x14 = 1 ∧ x12 ≤ x11 ∧ x11 ≤ x13))) (h22 : ¬ x14 = 0) (h23 : 0 ≤ x15) (h24 : x15 ≤ 4) (h25 : 4 - x15 < ((x16 + 1 : Nat) : Int)) (h26 : 0 ≤ x17) (h27 : x17 ≤ 40) (h28 : x17 = x10) (h29 : x17 ≤ x15) (h30 : ¬ x2 = 0) (h31 : x18 = 1) (h32 : ¬ x2 = x18) (h33 : x19 = 10) (h34 : x20 = x2 - x19) (h35 : 0 ≤ x21) (h36 : x21 ≤ 40) (h37 : x21 = x10) (h38 : x20 < x21) (h39 : x22 = 10) (h40 : x0 = x2 - x22) : x0 < (4 : Nat) := by omega
noncomputable def g9_X12_goesRound_4 (s : XS) : XR := (s, 0)
noncomputable def g11w_X12_goesRound_4 (R61 : XS → Int → XR) (s : XS) (x7_20 : Int) : XR := R61 s ((x7_20 + 1))
noncomputable def g10_X12_goesRound_4 (R61 : XS → Int → XR) (s : XS) (x7_20 : Int) : XR := g11w_X12_goesRound_4 R61 (xup s 1 19 (Int.toNat x7_20) ((s 1 18 (Int.toNat x7_20)))) x7_20
noncomputable def g8b_X12_goesRound_4 (R61 : XS → Int → XR) (s : XS) (x7_20 : Int) : XR := if x7_20 < 4 then g10_X12_goesRound_4 R61 s x7_20 else g9_X12_goesRound_4 s
noncomputable def g7l_X12_goesRound_4 (R61 : XS → Int → XR) (s : XS) (x7_20 : Int) : XR := g8b_X12_goesRound_4 R61 s x7_20
noncomputable def L6_X12_goesRound_4 (n : Nat) : XS → Int → XR := Nat.rec (motive := fun _ => XS → Int → XR) (fun s _ => (s, 0)) (fun _ R61 => g7l_X12_goesRound_4 R61) n
noncomputable def g5w_X12_goesRound_4 (s : XS) : XR := L6_X12_goesRound_4 (Int.toNat (4 - 0 + 1)) s 0
noncomputable def g4w_X12_goesRound_4 (s : XS) (a6 : Int) : XR := g5w_X12_goesRound_4 (xup s 0 0 36 a6)
noncomputable def g2_X12_goesRound_4 (s : XS) (a5 : Int) (a6 : Int) : XR := g4w_X12_goesRound_4 (xup s 0 0 35 a5) a6
noncomputable def g13_X12_goesRound_4 (s : XS) : XR := (s, 0)
noncomputable def g23_X12_goesRound_4 (s : XS) : XR := (s, 0)
noncomputable def g25w_X12_goesRound_4 (R61 : XS → Int → XR) (s : XS) (x7_57 : Int) : XR := R61 s ((x7_57 + 1))
noncomputable def g24_X12_goesRound_4 (R61 : XS → Int → XR) (s : XS) (x7_57 : Int) : XR := g25w_X12_goesRound_4 R61 (xup s 1 19 (Int.toNat x7_57) ((s 1 18 (Int.toNat x7_57)))) x7_57
noncomputable def g22b_X12_goesRound_4 (R61 : XS → Int → XR) (s : XS) (x7_57 : Int) : XR := if x7_57 < 4 then g24_X12_goesRound_4 R61 s x7_57 else g23_X12_goesRound_4 s
noncomputable def g21l_X12_goesRound_4 (R61 : XS → Int → XR) (s : XS) (x7_57 : Int) : XR := g22b_X12_goesRound_4 R61 s x7_57
noncomputable def L20_X12_goesRound_4 (n : Nat) : XS → Int → XR := Nat.rec (motive := fun _ => XS → Int → XR) (fun s _ => (s, 0)) (fun _ R61 => g21l_X12_goesRound_4 R61) n
noncomputable def g19w_X12_goesRound_4 (s : XS) : XR := L20_X12_goesRound_4 (Int.toNat (4 - 0 + 1)) s 0
noncomputable def g18w_X12_goesRound_4 (s : XS) (a6 : Int) : XR := g19w_X12_goesRound_4 (xup s 0 0 36 a6)
noncomputable def g16_X12_goesRound_4 (s : XS) (a5 : Int) (a6 : Int) : XR := g18w_X12_goesRound_4 (xup s 0 0 35 a5) a6
noncomputable def g34_X12_goesRound_4 (s : XS) : XR := (s, 0)
noncomputable def g36w_X12_goesRound_4 (R61 : XS → Int → XR) (s : XS) (x7_87 : Int) : XR := R61 s ((x7_87 + 1))
noncomputable def g35_X12_goesRound_4 (R61 : XS → Int → XR) (s : XS) (x7_87 : Int) : XR := g36w_X12_goesRound_4 R61 (xup s 1 19 (Int.toNat x7_87) ((s 1 18 (Int.toNat x7_87)))) x7_87
noncomputable def g33b_X12_goesRound_4 (R61 : XS → Int → XR) (s : XS) (x7_87 : Int) : XR := if x7_87 < 4 then g35_X12_goesRound_4 R61 s x7_87 else g34_X12_goesRound_4 s
noncomputable def g32l_X12_goesRound_4 (R61 : XS → Int → XR) (s : XS) (x7_87 : Int) : XR := g33b_X12_goesRound_4 R61 s x7_87
noncomputable def L31_X12_goesRound_4 (n : Nat) : XS → Int → XR := Nat.rec (motive := fun _ => XS → Int → XR) (fun s _ => (s, 0)) (fun _ R61 => g32l_X12_goesRound_4 R61) n
noncomputable def g30w_X12_goesRound_4 (s : XS) : XR := L31_X12_goesRound_4 (Int.toNat (4 - 0 + 1)) s 0
noncomputable def g29w_X12_goesRound_4 (s : XS) (a6 : Int) : XR := g30w_X12_goesRound_4 (xup s 0 0 36 a6)
noncomputable def g27_X12_goesRound_4 (s : XS) (a5 : Int) (a6 : Int) : XR := g29w_X12_goesRound_4 (xup s 0 0 35 a5) a6
noncomputable def g28_X12_goesRound_4 (s : XS) : XR := (s, 0)
noncomputable def g26b_X12_goesRound_4 (s : XS) (v_76 : Int) (a6 : Int) (a5 : Int) : XR := if a6 < v_76 then g27_X12_goesRound_4 s a5 a6 else g28_X12_goesRound_4 s
noncomputable def g17_X12_goesRound_4 (s : XS) (a5 : Int) (a6 : Int) : XR := g26b_X12_goesRound_4 s ((s 0 0 36)) a6 a5
noncomputable def g15b_X12_goesRound_4 (s : XS) (v_45 : Int) (a5 : Int) (a6 : Int) : XR := if a5 = v_45 then g17_X12_goesRound_4 s a5 a6 else g16_X12_goesRound_4 s a5 a6
noncomputable def g14_X12_goesRound_4 (s : XS) (a5 : Int) (a6 : Int) : XR := g15b_X12_goesRound_4 s ((s 0 0 35)) a5 a6
noncomputable def g12b_X12_goesRound_4 (s : XS) (v_39 : Int) (a5 : Int) (a6 : Int) : XR := if v_39 < a5 then g13_X12_goesRound_4 s else g14_X12_goesRound_4 s a5 a6
noncomputable def g3_X12_goesRound_4 (s : XS) (a5 : Int) (a6 : Int) : XR := g12b_X12_goesRound_4 s ((s 0 0 35)) a5 a6
noncomputable def g1b_X12_goesRound_4 (s : XS) (v_7 : Int) (a5 : Int) (a6 : Int) : XR := if v_7 = ((-1)) then g2_X12_goesRound_4 s a5 a6 else g3_X12_goesRound_4 s a5 a6
noncomputable def f_X12_goesRound_4 (s : XS) (a1 : Int) (a2 : Int) (a3 : Int) (a4 : Int) (a5 : Int) (a6 : Int) : XR := g1b_X12_goesRound_4 s ((s 0 0 35)) a5 a6
set_option maxHeartbeats 4000000 in
set_option maxRecDepth 100000 in
theorem c_X12_goesRound_4 (l : Launch) (G : GG) (Z : RZ) (ad : Nat → Nat) (ws0 : va_W) (hT : Ty G SM ad ws0) (a1 : Int32) (a2 : Int32) (a3 : Int32) (a4 : Int32) (a5 : Int32) (a6 : Int32) (l1 : 0 ≤ a1.toInt) (u1 : a1.toInt ≤ 3) (l2 : 4 ≤ a2.toInt) (u2 : a2.toInt ≤ 4) (l4 : 0 ≤ a4.toInt) (u4 : a4.toInt ≤ 99) (al0 : 4 ≤ (aI ws0 24 a1.toInt.toNat).toInt) (ah0 : (aI ws0 24 a1.toInt.toNat).toInt ≤ 4) (hN : NumOk ws0 a1) (hJ : J ws0) (hLd : Laid ws0) : Mq l yX12_goesRound cX12_goesRound 10 none 1 G Z [.ref (ad 0), .int a1, .int a2, .int a3, .int a4, .int a5, .int a6] ws0 (PV G SM ad [0, 19] ws0 (fun u => (xso SM ad u = (f_X12_goesRound_4 (xso SM ad ws0) a1.toInt a2.toInt a3.toInt a4.toInt a5.toInt a6.toInt).1))) := by
  refine Mq.start (by decide) (Nat.le_of_ble_eq_true rfl) ?_
  intro p e s m below meth c A ls C0 hZ h hl
  have hl : lv_has ls 10 [(0, .ref (ad 0)), (1, .int a1), (2, .int a2), (3, .int a3), (4, .int a4), (5, .int a5), (6, .int a6)] := hl
  have h : Wt G SM ad A s s.heap [] ws0 := ⟨h, hT⟩
  obtain ⟨args, hargs⟩ : ∃ z, z = ([.ref (ad 0), .int a1, .int a2, .int a3, .int a4, .int a5, .int a6] : List Value).toArray := ⟨_, rfl⟩
  rw [← hargs] at C0 ⊢
  have C0 : Cx p s m args meth c RX12 cX12_goesRound 10 none := C0
  obtain ⟨Q, hQ⟩ : ∃ z, z = MQ below ((PV G SM ad [0, 19] ws0 (fun u => (xso SM ad u = (f_X12_goesRound_4 (xso SM ad ws0) a1.toInt a2.toInt a3.toInt a4.toInt a5.toInt a6.toInt).1))) A) args s 0 0 A := ⟨_, rfl⟩
  rw [← hQ]
  obtain ⟨FT, hFT⟩ : ∃ z, z = f_X12_goesRound_4 (xso SM ad ws0) a1.toInt a2.toInt a3.toInt a4.toInt a5.toInt a6.toInt := ⟨_, rfl⟩
  have HE : FT = f_X12_goesRound_4 (xso SM ad ws0) a1.toInt a2.toInt a3.toInt a4.toInt a5.toInt a6.toInt := hFT
  obtain ⟨ap0, ea0⟩ : ∃ v, aI ws0 24 a1.toInt.toNat = v := ⟨_, rfl⟩
  rw [ea0] at al0 ah0
  refine lv_iload_n C0.1 C0.2.1 dX12_goesRound_0 rfl (lv_at hl 2 rfl) ?_
  refine lv_aload_n C0.1 C0.2.1 dX12_goesRound_1 rfl (lv_at hl 0 rfl) ?_
  refine ng_X12_rowMany C0 h kSM_0 q_1480 dX12_goesRound_2 ?_
  refine lv_iload_n C0.1 C0.2.1 dX12_goesRound_5 rfl (lv_at hl 1 rfl) ?_
  refine y_iald C0 h kSM_24 rfl (by decide) (o38_1 l1 u1) (o38_2 l1 u1) dX12_goesRound_6 (fun v_1 e_2 e_3 e_4 => ?_)
  have qh_5 : v_1.toInt = ap0.toInt := congrArg Int32.toInt (e_2.symm.trans (Eq.trans rfl (Eq.trans rfl ea0)))
  refine y_icmp_ne (tgt := 88) C0 dX12_goesRound_7 (by decide) (fun c_6 => ((o38_3 l2 u2 al0 ah0 e_3 e_4 qh_5 c_6)).elim) (fun c_6 => ?_)
  refine lv_aload_n C0.1 C0.2.1 dX12_goesRound_10 rfl (lv_at hl 0 rfl) ?_
  refine ng_X12_bestLefts C0 h kSM_0 q_1473 dX12_goesRound_11 (fun v_7 e_8 e_9 e_10 => ?_)
  refine y_c1 (n := (-1)) C0 (by decide) dX12_goesRound_14 (fun v_11 e_12 => ?_)
  replace HE : FT = g1b_X12_goesRound_4 (xso SM ad ws0) v_7.toInt a5.toInt a6.toInt := HE.trans (by rw [(xg0 e_8 : v_7.toInt = (xso SM ad ws0) 0 0 35)]; rfl)
  refine y_icmp_eq (tgt := 46) C0 dX12_goesRound_15 (by decide) (fun c_13 => ?_) (fun c_13 => ?_)
  · -- 15
    replace HE : FT = g2_X12_goesRound_4 (xso SM ad ws0) a5.toInt a6.toInt := HE.trans (if_pos (o38_5 e_12 c_13))
    refine lv_aload_n C0.1 C0.2.1 dX12_goesRound_46 rfl (lv_at hl 0 rfl) ?_
    refine lv_iload C0.1 C0.2.1 dX12_goesRound_47 (lv_at hl 5 rfl) ?_
    refine np_X12_bestLefts C0 h kSM_0 q_1473 (le_min a5) (le_max a5) dX12_goesRound_49 (fun H locs ws_14 h u_15 Xu_15 => ?_)
    replace HE : FT = g4w_X12_goesRound_4 (xso SM ad ws_14) a6.toInt := HE.trans (by rw [Xu_15]; rfl)
    refine lv_aload_n C0.1 C0.2.1 dX12_goesRound_52 rfl (lv_at hl 0 rfl) ?_
    refine lv_iload C0.1 C0.2.1 dX12_goesRound_53 (lv_at hl 6 rfl) ?_
    refine np_X12_bestStreets C0 h kSM_0 q_1474 (le_min a6) (le_max a6) dX12_goesRound_55 (fun H locs ws_16 h u_17 Xu_17 => ?_)
    replace HE : FT = g5w_X12_goesRound_4 (xso SM ad ws_16) := HE.trans (by rw [Xu_17]; rfl)
    refine y_c1 (n := 0) C0 (by decide) dX12_goesRound_58 (fun v_18 e_19 => ?_)
    refine lv_istore (lv' := [(7, .int v_18), (0, .ref (ad 0)), (1, .int a1), (2, .int a2), (3, .int a3), (4, .int a4), (5, .int a5), (6, .int a6)]) C0.1 C0.2.1 dX12_goesRound_59 hl (by decide) rfl (fun ls hl => ?_)
    have lp_23 : ∀ (n_25 : Nat) (x7_20 : Int32) (H : Heap) (locs : List Loc) (ls : Array Slot) (ws_21 : va_W), 4 - x7_20.toInt < (n_25 : Int) → 0 ≤ x7_20.toInt → x7_20.toInt ≤ 4 → (FT = L6_X12_goesRound_4 n_25 (xso SM ad ws_21) x7_20.toInt) → Wt G SM ad A s H locs ws_21 → Fr SM [19] ws_16 ws_21 → lv_has ls 10 [(7, .int x7_20), (0, .ref (ad 0)), (1, .int a1), (2, .int a2), (3, .int a3), (4, .int a4), (5, .int a5), (6, .int a6)] → W p l e (rmd 1 0 0) s m args below meth c H locs 0 0 Q (F0 m 61 ls []) := by
      intro n_25
      induction n_25 with
      | zero => intro x7_20 H locs ls ws_21 hn_26 b_27 b_28 HE h hF_22 hl; exact ((o38_7 b_27 b_28 hn_26)).elim
      | succ n_25 ih_24 =>
        intro x7_20 H locs ls ws_21 hn_26 b_27 b_28 HE h hF_22 hl
        obtain ⟨R61, hR61⟩ : ∃ z, z = L6_X12_goesRound_4 n_25 := ⟨_, rfl⟩
        replace HE : FT = g7l_X12_goesRound_4 R61 (xso SM ad ws_21) x7_20.toInt := HE.trans (by rw [hR61]; rfl)
        refine lv_iload C0.1 C0.2.1 dX12_goesRound_61 (lv_at hl 0 rfl) ?_
        refine lv_iload_n C0.1 C0.2.1 dX12_goesRound_63 rfl (lv_at hl 3 rfl) ?_
        replace HE : FT = g8b_X12_goesRound_4 R61 (xso SM ad ws_21) x7_20.toInt := HE.trans rfl
        refine y_icmp_ge (tgt := 87) C0 dX12_goesRound_64 (by decide) (fun c_29 => ?_) (fun c_29 => ?_)
        · -- 64
          replace HE : FT = g9_X12_goesRound_4 (xso SM ad ws_21) := HE.trans (if_neg (o38_9 l2 u2 al0 ah0 e_3 e_4 qh_5 c_6 b_27 b_28 hn_26 c_29))
          replace HE : FT = ((xso SM ad ws_21), 0) := HE.trans rfl
          rw [hQ]
          exact y_vret C0 h (Fr.tr (Fr.tr (Fr.up u_15.1 kSM_0 (by decide)) (Fr.up u_17.1 kSM_0 (by decide))) (Fr.mono hF_22 (by decide))) (congrArg Prod.fst (HE.symm.trans hFT)) dX12_goesRound_87
        · -- 64
          replace HE : FT = g10_X12_goesRound_4 R61 (xso SM ad ws_21) x7_20.toInt := HE.trans (if_pos (o38_10 l2 u2 al0 ah0 e_3 e_4 qh_5 c_6 b_27 b_28 hn_26 c_29))
          refine lv_aload_n C0.1 C0.2.1 dX12_goesRound_67 rfl (lv_at hl 1 rfl) ?_
          refine ng_X12_bestRow C0 h kSM_0 q_1472 dX12_goesRound_68 ?_
          refine lv_iload C0.1 C0.2.1 dX12_goesRound_71 (lv_at hl 0 rfl) ?_
          refine lv_aload_n C0.1 C0.2.1 dX12_goesRound_73 rfl (lv_at hl 1 rfl) ?_
          refine ng_X12_taken C0 h kSM_0 q_1471 dX12_goesRound_74 ?_
          refine lv_iload C0.1 C0.2.1 dX12_goesRound_77 (lv_at hl 0 rfl) ?_
          refine y_iald C0 h kSM_18 rfl (by decide) (o38_11 l2 u2 al0 ah0 e_3 e_4 qh_5 c_6 b_27 b_28 hn_26 c_29) (o38_12 l2 u2 al0 ah0 e_3 e_4 qh_5 c_6 b_27 b_28 hn_26 c_29) dX12_goesRound_79 (fun v_30 e_31 e_32 e_33 => ?_)
          have hO_36 := h.2
          refine y_iast C0 h kSM_19 rfl (by decide) (o38_11 l2 u2 al0 ah0 e_3 e_4 qh_5 c_6 b_27 b_28 hn_26 c_29) (o38_12 l2 u2 al0 ah0 e_3 e_4 qh_5 c_6 b_27 b_28 hn_26 c_29) (le_min v_30) (le_max v_30) dX12_goesRound_80 (fun H locs ws_34 h u_35 => ?_)
          replace HE : FT = g11w_X12_goesRound_4 R61 (xso SM ad ws_34) x7_20.toInt := HE.trans (by rw [(xso_A (i := 19) hO_36 h.2 kSM_19 rfl u_35), (xg1 e_31 : v_30.toInt = (xso SM ad ws_21) 1 18 x7_20.toInt.toNat)]; rfl)
          refine y_inc (kp := 0) (n := 1) (fun v_37 => [(7, .int v_37), (0, .ref (ad 0)), (1, .int a1), (2, .int a2), (3, .int a3), (4, .int a4), (5, .int a5), (6, .int a6)]) C0 hl rfl (by decide) (by decide) (fun _ => rfl) (o38_13 l2 u2 al0 ah0 e_3 e_4 qh_5 c_6 b_27 b_28 hn_26 c_29 (le_min x7_20) (le_max x7_20) (le_min a2) (le_max a2) (le_min ap0) (le_max ap0) (le_min v_1) (le_max v_1)) (o38_14 l2 u2 al0 ah0 e_3 e_4 qh_5 c_6 b_27 b_28 hn_26 c_29 (le_min x7_20) (le_max x7_20) (le_min a2) (le_max a2) (le_min ap0) (le_max ap0) (le_min v_1) (le_max v_1)) dX12_goesRound_81 (fun v_37 ls e_38 hl => ?_)
          refine lv_goto (tgt := 61) C0.1 C0.2.1 dX12_goesRound_84 (by decide) ?_
          exact ih_24 v_37 _ _ _ _ (o38_15 l2 u2 al0 ah0 e_3 e_4 qh_5 c_6 b_27 b_28 hn_26 c_29 e_38) (o38_16 l2 u2 al0 ah0 e_3 e_4 qh_5 c_6 b_27 b_28 hn_26 c_29 e_38) (o38_17 l2 u2 al0 ah0 e_3 e_4 qh_5 c_6 b_27 b_28 hn_26 c_29 e_38) (((show FT = R61 (xso SM ad ws_34) v_37.toInt from HE.trans (by rw [e_38]; rfl)).trans (by rw [hR61]))) h (Fr.tr hF_22 (Fr.up u_35.1 kSM_19 (by decide))) (lv_sub hl [0, 1, 2, 3, 4, 5, 6, 7] rfl)
    exact lp_23 ((4 - v_18.toInt + 1).toNat) v_18 _ _ _ _ (o38_18 e_19) (o38_19 e_19) (o38_20 e_19) ((show FT = L6_X12_goesRound_4 (Int.toNat (4 - v_18.toInt + 1)) (xso SM ad ws_16) v_18.toInt from HE.trans (by rw [e_19]; rfl))) h Fr.rf (lv_sub hl [0, 1, 2, 3, 4, 5, 6, 7] rfl)
  · -- 15
    replace HE : FT = g3_X12_goesRound_4 (xso SM ad ws0) a5.toInt a6.toInt := HE.trans (if_neg (o38_6 e_12 c_13))
    refine lv_iload C0.1 C0.2.1 dX12_goesRound_18 (lv_at hl 5 rfl) ?_
    refine lv_aload_n C0.1 C0.2.1 dX12_goesRound_20 rfl (lv_at hl 0 rfl) ?_
    refine ng_X12_bestLefts C0 h kSM_0 q_1473 dX12_goesRound_21 (fun v_39 e_40 e_41 e_42 => ?_)
    have qh_43 : v_39.toInt = v_7.toInt := congrArg Int32.toInt (e_40.symm.trans (Eq.trans rfl e_8))
    replace HE : FT = g12b_X12_goesRound_4 (xso SM ad ws0) v_39.toInt a5.toInt a6.toInt := HE.trans (by rw [(xg0 e_40 : v_39.toInt = (xso SM ad ws0) 0 0 35)]; rfl)
    refine y_icmp_gt (tgt := 45) C0 dX12_goesRound_24 (by decide) (fun c_44 => ?_) (fun c_44 => ?_)
    · -- 24
      replace HE : FT = g13_X12_goesRound_4 (xso SM ad ws0) := HE.trans (if_pos c_44)
      replace HE : FT = ((xso SM ad ws0), 0) := HE.trans rfl
      rw [hQ]
      exact y_vret C0 h Fr.rf (congrArg Prod.fst (HE.symm.trans hFT)) dX12_goesRound_45
    · -- 24
      replace HE : FT = g14_X12_goesRound_4 (xso SM ad ws0) a5.toInt a6.toInt := HE.trans (if_neg (Int.not_lt.mpr c_44))
      refine lv_iload C0.1 C0.2.1 dX12_goesRound_27 (lv_at hl 5 rfl) ?_
      refine lv_aload_n C0.1 C0.2.1 dX12_goesRound_29 rfl (lv_at hl 0 rfl) ?_
      refine ng_X12_bestLefts C0 h kSM_0 q_1473 dX12_goesRound_30 (fun v_45 e_46 e_47 e_48 => ?_)
      have qh_49 : v_45.toInt = v_7.toInt := congrArg Int32.toInt (e_46.symm.trans (Eq.trans rfl e_8))
      replace HE : FT = g15b_X12_goesRound_4 (xso SM ad ws0) v_45.toInt a5.toInt a6.toInt := HE.trans (by rw [(xg0 e_46 : v_45.toInt = (xso SM ad ws0) 0 0 35)]; rfl)
      refine y_icmp_ne (tgt := 46) C0 dX12_goesRound_33 (by decide) (fun c_50 => ?_) (fun c_50 => ?_)
      · -- 33
        replace HE : FT = g16_X12_goesRound_4 (xso SM ad ws0) a5.toInt a6.toInt := HE.trans (if_neg c_50)
        refine lv_aload_n C0.1 C0.2.1 dX12_goesRound_46 rfl (lv_at hl 0 rfl) ?_
        refine lv_iload C0.1 C0.2.1 dX12_goesRound_47 (lv_at hl 5 rfl) ?_
        refine np_X12_bestLefts C0 h kSM_0 q_1473 (le_min a5) (le_max a5) dX12_goesRound_49 (fun H locs ws_51 h u_52 Xu_52 => ?_)
        replace HE : FT = g18w_X12_goesRound_4 (xso SM ad ws_51) a6.toInt := HE.trans (by rw [Xu_52]; rfl)
        refine lv_aload_n C0.1 C0.2.1 dX12_goesRound_52 rfl (lv_at hl 0 rfl) ?_
        refine lv_iload C0.1 C0.2.1 dX12_goesRound_53 (lv_at hl 6 rfl) ?_
        refine np_X12_bestStreets C0 h kSM_0 q_1474 (le_min a6) (le_max a6) dX12_goesRound_55 (fun H locs ws_53 h u_54 Xu_54 => ?_)
        replace HE : FT = g19w_X12_goesRound_4 (xso SM ad ws_53) := HE.trans (by rw [Xu_54]; rfl)
        refine y_c1 (n := 0) C0 (by decide) dX12_goesRound_58 (fun v_55 e_56 => ?_)
        refine lv_istore (lv' := [(7, .int v_55), (0, .ref (ad 0)), (1, .int a1), (2, .int a2), (3, .int a3), (4, .int a4), (5, .int a5), (6, .int a6)]) C0.1 C0.2.1 dX12_goesRound_59 hl (by decide) rfl (fun ls hl => ?_)
        have lp_60 : ∀ (n_62 : Nat) (x7_57 : Int32) (H : Heap) (locs : List Loc) (ls : Array Slot) (ws_58 : va_W), 4 - x7_57.toInt < (n_62 : Int) → 0 ≤ x7_57.toInt → x7_57.toInt ≤ 4 → (FT = L20_X12_goesRound_4 n_62 (xso SM ad ws_58) x7_57.toInt) → Wt G SM ad A s H locs ws_58 → Fr SM [19] ws_53 ws_58 → lv_has ls 10 [(7, .int x7_57), (0, .ref (ad 0)), (1, .int a1), (2, .int a2), (3, .int a3), (4, .int a4), (5, .int a5), (6, .int a6)] → W p l e (rmd 1 0 0) s m args below meth c H locs 0 0 Q (F0 m 61 ls []) := by
          intro n_62
          induction n_62 with
          | zero => intro x7_57 H locs ls ws_58 hn_63 b_64 b_65 HE h hF_59 hl; exact ((o38_7 b_64 b_65 hn_63)).elim
          | succ n_62 ih_61 =>
            intro x7_57 H locs ls ws_58 hn_63 b_64 b_65 HE h hF_59 hl
            obtain ⟨R61, hR61⟩ : ∃ z, z = L20_X12_goesRound_4 n_62 := ⟨_, rfl⟩
            replace HE : FT = g21l_X12_goesRound_4 R61 (xso SM ad ws_58) x7_57.toInt := HE.trans (by rw [hR61]; rfl)
            refine lv_iload C0.1 C0.2.1 dX12_goesRound_61 (lv_at hl 0 rfl) ?_
            refine lv_iload_n C0.1 C0.2.1 dX12_goesRound_63 rfl (lv_at hl 3 rfl) ?_
            replace HE : FT = g22b_X12_goesRound_4 R61 (xso SM ad ws_58) x7_57.toInt := HE.trans rfl
            refine y_icmp_ge (tgt := 87) C0 dX12_goesRound_64 (by decide) (fun c_66 => ?_) (fun c_66 => ?_)
            · -- 64
              replace HE : FT = g23_X12_goesRound_4 (xso SM ad ws_58) := HE.trans (if_neg (o38_9 l2 u2 al0 ah0 e_3 e_4 qh_5 c_6 b_64 b_65 hn_63 c_66))
              replace HE : FT = ((xso SM ad ws_58), 0) := HE.trans rfl
              rw [hQ]
              exact y_vret C0 h (Fr.tr (Fr.tr (Fr.up u_52.1 kSM_0 (by decide)) (Fr.up u_54.1 kSM_0 (by decide))) (Fr.mono hF_59 (by decide))) (congrArg Prod.fst (HE.symm.trans hFT)) dX12_goesRound_87
            · -- 64
              replace HE : FT = g24_X12_goesRound_4 R61 (xso SM ad ws_58) x7_57.toInt := HE.trans (if_pos (o38_10 l2 u2 al0 ah0 e_3 e_4 qh_5 c_6 b_64 b_65 hn_63 c_66))
              refine lv_aload_n C0.1 C0.2.1 dX12_goesRound_67 rfl (lv_at hl 1 rfl) ?_
              refine ng_X12_bestRow C0 h kSM_0 q_1472 dX12_goesRound_68 ?_
              refine lv_iload C0.1 C0.2.1 dX12_goesRound_71 (lv_at hl 0 rfl) ?_
              refine lv_aload_n C0.1 C0.2.1 dX12_goesRound_73 rfl (lv_at hl 1 rfl) ?_
              refine ng_X12_taken C0 h kSM_0 q_1471 dX12_goesRound_74 ?_
              refine lv_iload C0.1 C0.2.1 dX12_goesRound_77 (lv_at hl 0 rfl) ?_
              refine y_iald C0 h kSM_18 rfl (by decide) (o38_11 l2 u2 al0 ah0 e_3 e_4 qh_5 c_6 b_64 b_65 hn_63 c_66) (o38_12 l2 u2 al0 ah0 e_3 e_4 qh_5 c_6 b_64 b_65 hn_63 c_66) dX12_goesRound_79 (fun v_67 e_68 e_69 e_70 => ?_)
              have hO_73 := h.2
              refine y_iast C0 h kSM_19 rfl (by decide) (o38_11 l2 u2 al0 ah0 e_3 e_4 qh_5 c_6 b_64 b_65 hn_63 c_66) (o38_12 l2 u2 al0 ah0 e_3 e_4 qh_5 c_6 b_64 b_65 hn_63 c_66) (le_min v_67) (le_max v_67) dX12_goesRound_80 (fun H locs ws_71 h u_72 => ?_)
              replace HE : FT = g25w_X12_goesRound_4 R61 (xso SM ad ws_71) x7_57.toInt := HE.trans (by rw [(xso_A (i := 19) hO_73 h.2 kSM_19 rfl u_72), (xg1 e_68 : v_67.toInt = (xso SM ad ws_58) 1 18 x7_57.toInt.toNat)]; rfl)
              refine y_inc (kp := 0) (n := 1) (fun v_74 => [(7, .int v_74), (0, .ref (ad 0)), (1, .int a1), (2, .int a2), (3, .int a3), (4, .int a4), (5, .int a5), (6, .int a6)]) C0 hl rfl (by decide) (by decide) (fun _ => rfl) (o38_13 l2 u2 al0 ah0 e_3 e_4 qh_5 c_6 b_64 b_65 hn_63 c_66 (le_min x7_57) (le_max x7_57) (le_min a2) (le_max a2) (le_min ap0) (le_max ap0) (le_min v_1) (le_max v_1)) (o38_14 l2 u2 al0 ah0 e_3 e_4 qh_5 c_6 b_64 b_65 hn_63 c_66 (le_min x7_57) (le_max x7_57) (le_min a2) (le_max a2) (le_min ap0) (le_max ap0) (le_min v_1) (le_max v_1)) dX12_goesRound_81 (fun v_74 ls e_75 hl => ?_)
              refine lv_goto (tgt := 61) C0.1 C0.2.1 dX12_goesRound_84 (by decide) ?_
              exact ih_61 v_74 _ _ _ _ (o38_15 l2 u2 al0 ah0 e_3 e_4 qh_5 c_6 b_64 b_65 hn_63 c_66 e_75) (o38_16 l2 u2 al0 ah0 e_3 e_4 qh_5 c_6 b_64 b_65 hn_63 c_66 e_75) (o38_17 l2 u2 al0 ah0 e_3 e_4 qh_5 c_6 b_64 b_65 hn_63 c_66 e_75) (((show FT = R61 (xso SM ad ws_71) v_74.toInt from HE.trans (by rw [e_75]; rfl)).trans (by rw [hR61]))) h (Fr.tr hF_59 (Fr.up u_72.1 kSM_19 (by decide))) (lv_sub hl [0, 1, 2, 3, 4, 5, 6, 7] rfl)
        exact lp_60 ((4 - v_55.toInt + 1).toNat) v_55 _ _ _ _ (o38_18 e_56) (o38_19 e_56) (o38_20 e_56) ((show FT = L20_X12_goesRound_4 (Int.toNat (4 - v_55.toInt + 1)) (xso SM ad ws_53) v_55.toInt from HE.trans (by rw [e_56]; rfl))) h Fr.rf (lv_sub hl [0, 1, 2, 3, 4, 5, 6, 7] rfl)
      · -- 33
        replace HE : FT = g17_X12_goesRound_4 (xso SM ad ws0) a5.toInt a6.toInt := HE.trans (if_pos c_50)
        refine lv_iload C0.1 C0.2.1 dX12_goesRound_36 (lv_at hl 6 rfl) ?_
        refine lv_aload_n C0.1 C0.2.1 dX12_goesRound_38 rfl (lv_at hl 0 rfl) ?_
        refine ng_X12_bestStreets C0 h kSM_0 q_1474 dX12_goesRound_39 (fun v_76 e_77 e_78 e_79 => ?_)
        replace HE : FT = g26b_X12_goesRound_4 (xso SM ad ws0) v_76.toInt a6.toInt a5.toInt := HE.trans (by rw [(xg0 e_77 : v_76.toInt = (xso SM ad ws0) 0 0 36)]; rfl)
        refine y_icmp_lt (tgt := 46) C0 dX12_goesRound_42 (by decide) (fun c_80 => ?_) (fun c_80 => ?_)
        · -- 42
          replace HE : FT = g27_X12_goesRound_4 (xso SM ad ws0) a5.toInt a6.toInt := HE.trans (if_pos c_80)
          refine lv_aload_n C0.1 C0.2.1 dX12_goesRound_46 rfl (lv_at hl 0 rfl) ?_
          refine lv_iload C0.1 C0.2.1 dX12_goesRound_47 (lv_at hl 5 rfl) ?_
          refine np_X12_bestLefts C0 h kSM_0 q_1473 (le_min a5) (le_max a5) dX12_goesRound_49 (fun H locs ws_81 h u_82 Xu_82 => ?_)
          replace HE : FT = g29w_X12_goesRound_4 (xso SM ad ws_81) a6.toInt := HE.trans (by rw [Xu_82]; rfl)
          refine lv_aload_n C0.1 C0.2.1 dX12_goesRound_52 rfl (lv_at hl 0 rfl) ?_
          refine lv_iload C0.1 C0.2.1 dX12_goesRound_53 (lv_at hl 6 rfl) ?_
          refine np_X12_bestStreets C0 h kSM_0 q_1474 (le_min a6) (le_max a6) dX12_goesRound_55 (fun H locs ws_83 h u_84 Xu_84 => ?_)
          replace HE : FT = g30w_X12_goesRound_4 (xso SM ad ws_83) := HE.trans (by rw [Xu_84]; rfl)
          refine y_c1 (n := 0) C0 (by decide) dX12_goesRound_58 (fun v_85 e_86 => ?_)
          refine lv_istore (lv' := [(7, .int v_85), (0, .ref (ad 0)), (1, .int a1), (2, .int a2), (3, .int a3), (4, .int a4), (5, .int a5), (6, .int a6)]) C0.1 C0.2.1 dX12_goesRound_59 hl (by decide) rfl (fun ls hl => ?_)
          have lp_90 : ∀ (n_92 : Nat) (x7_87 : Int32) (H : Heap) (locs : List Loc) (ls : Array Slot) (ws_88 : va_W), 4 - x7_87.toInt < (n_92 : Int) → 0 ≤ x7_87.toInt → x7_87.toInt ≤ 4 → (FT = L31_X12_goesRound_4 n_92 (xso SM ad ws_88) x7_87.toInt) → Wt G SM ad A s H locs ws_88 → Fr SM [19] ws_83 ws_88 → lv_has ls 10 [(7, .int x7_87), (0, .ref (ad 0)), (1, .int a1), (2, .int a2), (3, .int a3), (4, .int a4), (5, .int a5), (6, .int a6)] → W p l e (rmd 1 0 0) s m args below meth c H locs 0 0 Q (F0 m 61 ls []) := by
            intro n_92
            induction n_92 with
            | zero => intro x7_87 H locs ls ws_88 hn_93 b_94 b_95 HE h hF_89 hl; exact ((o38_7 b_94 b_95 hn_93)).elim
            | succ n_92 ih_91 =>
              intro x7_87 H locs ls ws_88 hn_93 b_94 b_95 HE h hF_89 hl
              obtain ⟨R61, hR61⟩ : ∃ z, z = L31_X12_goesRound_4 n_92 := ⟨_, rfl⟩
              replace HE : FT = g32l_X12_goesRound_4 R61 (xso SM ad ws_88) x7_87.toInt := HE.trans (by rw [hR61]; rfl)
              refine lv_iload C0.1 C0.2.1 dX12_goesRound_61 (lv_at hl 0 rfl) ?_
              refine lv_iload_n C0.1 C0.2.1 dX12_goesRound_63 rfl (lv_at hl 3 rfl) ?_
              replace HE : FT = g33b_X12_goesRound_4 R61 (xso SM ad ws_88) x7_87.toInt := HE.trans rfl
              refine y_icmp_ge (tgt := 87) C0 dX12_goesRound_64 (by decide) (fun c_96 => ?_) (fun c_96 => ?_)
              · -- 64
                replace HE : FT = g34_X12_goesRound_4 (xso SM ad ws_88) := HE.trans (if_neg (o38_9 l2 u2 al0 ah0 e_3 e_4 qh_5 c_6 b_94 b_95 hn_93 c_96))
                replace HE : FT = ((xso SM ad ws_88), 0) := HE.trans rfl
                rw [hQ]
                exact y_vret C0 h (Fr.tr (Fr.tr (Fr.up u_82.1 kSM_0 (by decide)) (Fr.up u_84.1 kSM_0 (by decide))) (Fr.mono hF_89 (by decide))) (congrArg Prod.fst (HE.symm.trans hFT)) dX12_goesRound_87
              · -- 64
                replace HE : FT = g35_X12_goesRound_4 R61 (xso SM ad ws_88) x7_87.toInt := HE.trans (if_pos (o38_10 l2 u2 al0 ah0 e_3 e_4 qh_5 c_6 b_94 b_95 hn_93 c_96))
                refine lv_aload_n C0.1 C0.2.1 dX12_goesRound_67 rfl (lv_at hl 1 rfl) ?_
                refine ng_X12_bestRow C0 h kSM_0 q_1472 dX12_goesRound_68 ?_
                refine lv_iload C0.1 C0.2.1 dX12_goesRound_71 (lv_at hl 0 rfl) ?_
                refine lv_aload_n C0.1 C0.2.1 dX12_goesRound_73 rfl (lv_at hl 1 rfl) ?_
                refine ng_X12_taken C0 h kSM_0 q_1471 dX12_goesRound_74 ?_
                refine lv_iload C0.1 C0.2.1 dX12_goesRound_77 (lv_at hl 0 rfl) ?_
                refine y_iald C0 h kSM_18 rfl (by decide) (o38_11 l2 u2 al0 ah0 e_3 e_4 qh_5 c_6 b_94 b_95 hn_93 c_96) (o38_12 l2 u2 al0 ah0 e_3 e_4 qh_5 c_6 b_94 b_95 hn_93 c_96) dX12_goesRound_79 (fun v_97 e_98 e_99 e_100 => ?_)
                have hO_103 := h.2
                refine y_iast C0 h kSM_19 rfl (by decide) (o38_11 l2 u2 al0 ah0 e_3 e_4 qh_5 c_6 b_94 b_95 hn_93 c_96) (o38_12 l2 u2 al0 ah0 e_3 e_4 qh_5 c_6 b_94 b_95 hn_93 c_96) (le_min v_97) (le_max v_97) dX12_goesRound_80 (fun H locs ws_101 h u_102 => ?_)
                replace HE : FT = g36w_X12_goesRound_4 R61 (xso SM ad ws_101) x7_87.toInt := HE.trans (by rw [(xso_A (i := 19) hO_103 h.2 kSM_19 rfl u_102), (xg1 e_98 : v_97.toInt = (xso SM ad ws_88) 1 18 x7_87.toInt.toNat)]; rfl)
                refine y_inc (kp := 0) (n := 1) (fun v_104 => [(7, .int v_104), (0, .ref (ad 0)), (1, .int a1), (2, .int a2), (3, .int a3), (4, .int a4), (5, .int a5), (6, .int a6)]) C0 hl rfl (by decide) (by decide) (fun _ => rfl) (o38_13 l2 u2 al0 ah0 e_3 e_4 qh_5 c_6 b_94 b_95 hn_93 c_96 (le_min x7_87) (le_max x7_87) (le_min a2) (le_max a2) (le_min ap0) (le_max ap0) (le_min v_1) (le_max v_1)) (o38_14 l2 u2 al0 ah0 e_3 e_4 qh_5 c_6 b_94 b_95 hn_93 c_96 (le_min x7_87) (le_max x7_87) (le_min a2) (le_max a2) (le_min ap0) (le_max ap0) (le_min v_1) (le_max v_1)) dX12_goesRound_81 (fun v_104 ls e_105 hl => ?_)
                refine lv_goto (tgt := 61) C0.1 C0.2.1 dX12_goesRound_84 (by decide) ?_
                exact ih_91 v_104 _ _ _ _ (o38_15 l2 u2 al0 ah0 e_3 e_4 qh_5 c_6 b_94 b_95 hn_93 c_96 e_105) (o38_16 l2 u2 al0 ah0 e_3 e_4 qh_5 c_6 b_94 b_95 hn_93 c_96 e_105) (o38_17 l2 u2 al0 ah0 e_3 e_4 qh_5 c_6 b_94 b_95 hn_93 c_96 e_105) (((show FT = R61 (xso SM ad ws_101) v_104.toInt from HE.trans (by rw [e_105]; rfl)).trans (by rw [hR61]))) h (Fr.tr hF_89 (Fr.up u_102.1 kSM_19 (by decide))) (lv_sub hl [0, 1, 2, 3, 4, 5, 6, 7] rfl)
          exact lp_90 ((4 - v_85.toInt + 1).toNat) v_85 _ _ _ _ (o38_18 e_86) (o38_19 e_86) (o38_20 e_86) ((show FT = L31_X12_goesRound_4 (Int.toNat (4 - v_85.toInt + 1)) (xso SM ad ws_83) v_85.toInt from HE.trans (by rw [e_86]; rfl))) h Fr.rf (lv_sub hl [0, 1, 2, 3, 4, 5, 6, 7] rfl)
        · -- 42
          replace HE : FT = g28_X12_goesRound_4 (xso SM ad ws0) := HE.trans (if_neg (Int.not_lt.mpr c_80))
          replace HE : FT = ((xso SM ad ws0), 0) := HE.trans rfl
          rw [hQ]
          exact y_vret C0 h Fr.rf (congrArg Prod.fst (HE.symm.trans hFT)) dX12_goesRound_45
noncomputable def g7_X12_goesRound_3 (s : XS) : XR := (s, 0)
noncomputable def g18c_X12_goesRound_3 (R91 : XS → Int → Int → Int → Int → Int → Int → XR) (s : XS) (a1 : Int) (a3 : Int) (a4 : Int) (a5 : Int) (a6 : Int) (x7_9 : Int) : XR := R91 s a1 a3 a4 a5 a6 ((x7_9 + 1))
noncomputable def g17w_X12_goesRound_3 (R91 : XS → Int → Int → Int → Int → Int → Int → XR) (s : XS) (a1 : Int) (a3 : Int) (a4 : Int) (a5 : Int) (a6 : Int) (x7_9 : Int) (r_50 : Int) : XR := g18c_X12_goesRound_3 R91 ((f_X12_goesRound_4 s a1 (3 + 1) (Xior a3 (Xishl 1 x7_9)) (s 0 0 28) (Xiadd a5 r_50) (Xiadd a6 (s 0 0 37))).1) a1 a3 a4 a5 a6 x7_9
noncomputable def g15_X12_goesRound_3 (R91 : XS → Int → Int → Int → Int → Int → Int → XR) (s : XS) (a1 : Int) (a3 : Int) (a4 : Int) (a5 : Int) (a6 : Int) (x7_9 : Int) (v_45 : Int) (r_50 : Int) : XR := g17w_X12_goesRound_3 R91 (xup s 1 18 (Int.toNat 3) (v_45)) a1 a3 a4 a5 a6 x7_9 r_50
noncomputable def g16_X12_goesRound_3 (R91 : XS → Int → Int → Int → Int → Int → Int → XR) (s : XS) (a1 : Int) (a3 : Int) (a4 : Int) (a5 : Int) (a6 : Int) (x7_9 : Int) : XR := R91 s a1 a3 a4 a5 a6 ((x7_9 + 1))
noncomputable def g14b_X12_goesRound_3 (R91 : XS → Int → Int → Int → Int → Int → Int → XR) (s : XS) (r_50 : Int) (a1 : Int) (a3 : Int) (a4 : Int) (a5 : Int) (a6 : Int) (x7_9 : Int) (v_45 : Int) : XR := if r_50 = 1000000000 then g16_X12_goesRound_3 R91 s a1 a3 a4 a5 a6 x7_9 else g15_X12_goesRound_3 R91 s a1 a3 a4 a5 a6 x7_9 v_45 r_50
noncomputable def g13c_X12_goesRound_3 (R91 : XS → Int → Int → Int → Int → Int → Int → XR) (s : XS) (r_50 : Int) (a1 : Int) (a3 : Int) (a4 : Int) (a5 : Int) (a6 : Int) (x7_9 : Int) (v_45 : Int) : XR := g14b_X12_goesRound_3 R91 s r_50 a1 a3 a4 a5 a6 x7_9 v_45
noncomputable def g11_X12_goesRound_3 (R91 : XS → Int → Int → Int → Int → Int → Int → XR) (s : XS) (a1 : Int) (a3 : Int) (a4 : Int) (a5 : Int) (a6 : Int) (x7_9 : Int) : XR := g13c_X12_goesRound_3 R91 ((f_X12_leg s a4 a6 ((s 2 25 (Int.toNat ((40 * a1) + x7_9))))).1) (((f_X12_leg s a4 a6 ((s 2 25 (Int.toNat ((40 * a1) + x7_9))))).2)) a1 a3 a4 a5 a6 x7_9 (((s 2 25 (Int.toNat ((40 * a1) + x7_9)))))
noncomputable def g12_X12_goesRound_3 (R91 : XS → Int → Int → Int → Int → Int → Int → XR) (s : XS) (a1 : Int) (a3 : Int) (a4 : Int) (a5 : Int) (a6 : Int) (x7_9 : Int) : XR := R91 s a1 a3 a4 a5 a6 ((x7_9 + 1))
noncomputable def g10b_X12_goesRound_3 (R91 : XS → Int → Int → Int → Int → Int → Int → XR) (s : XS) (r_29 : Int) (a1 : Int) (a3 : Int) (a4 : Int) (a5 : Int) (a6 : Int) (x7_9 : Int) : XR := if r_29 = 0 then g11_X12_goesRound_3 R91 s a1 a3 a4 a5 a6 x7_9 else g12_X12_goesRound_3 R91 s a1 a3 a4 a5 a6 x7_9
noncomputable def g9c_X12_goesRound_3 (R91 : XS → Int → Int → Int → Int → Int → Int → XR) (s : XS) (r_29 : Int) (a1 : Int) (a3 : Int) (a4 : Int) (a5 : Int) (a6 : Int) (x7_9 : Int) : XR := g10b_X12_goesRound_3 R91 s r_29 a1 a3 a4 a5 a6 x7_9
noncomputable def g8_X12_goesRound_3 (R91 : XS → Int → Int → Int → Int → Int → Int → XR) (s : XS) (a1 : Int) (a3 : Int) (a4 : Int) (a5 : Int) (a6 : Int) (x7_9 : Int) : XR := g9c_X12_goesRound_3 R91 ((f_X12_isIn s a3 x7_9).1) (((f_X12_isIn s a3 x7_9).2)) a1 a3 a4 a5 a6 x7_9
noncomputable def g6b_X12_goesRound_3 (R91 : XS → Int → Int → Int → Int → Int → Int → XR) (s : XS) (x7_9 : Int) (a1 : Int) (a3 : Int) (a4 : Int) (a5 : Int) (a6 : Int) : XR := if x7_9 < 4 then g8_X12_goesRound_3 R91 s a1 a3 a4 a5 a6 x7_9 else g7_X12_goesRound_3 s
noncomputable def g5l_X12_goesRound_3 (R91 : XS → Int → Int → Int → Int → Int → Int → XR) (s : XS) (a1 : Int) (a3 : Int) (a4 : Int) (a5 : Int) (a6 : Int) (x7_9 : Int) : XR := g6b_X12_goesRound_3 R91 s x7_9 a1 a3 a4 a5 a6
noncomputable def L4_X12_goesRound_3 (n : Nat) : XS → Int → Int → Int → Int → Int → Int → XR := Nat.rec (motive := fun _ => XS → Int → Int → Int → Int → Int → Int → XR) (fun s _ _ _ _ _ _ => (s, 0)) (fun _ R91 => g5l_X12_goesRound_3 R91) n
noncomputable def g2_X12_goesRound_3 (s : XS) (a1 : Int) (a3 : Int) (a4 : Int) (a5 : Int) (a6 : Int) : XR := L4_X12_goesRound_3 (Int.toNat (4 - 0 + 1)) s a1 a3 a4 a5 a6 0
noncomputable def g27_X12_goesRound_3 (s : XS) : XR := (s, 0)
noncomputable def g29w_X12_goesRound_3 (R61 : XS → Int → XR) (s : XS) (x7_105 : Int) : XR := R61 s ((x7_105 + 1))
noncomputable def g28_X12_goesRound_3 (R61 : XS → Int → XR) (s : XS) (x7_105 : Int) : XR := g29w_X12_goesRound_3 R61 (xup s 1 19 (Int.toNat x7_105) ((s 1 18 (Int.toNat x7_105)))) x7_105
noncomputable def g26b_X12_goesRound_3 (R61 : XS → Int → XR) (s : XS) (x7_105 : Int) : XR := if x7_105 < 3 then g28_X12_goesRound_3 R61 s x7_105 else g27_X12_goesRound_3 s
noncomputable def g25l_X12_goesRound_3 (R61 : XS → Int → XR) (s : XS) (x7_105 : Int) : XR := g26b_X12_goesRound_3 R61 s x7_105
noncomputable def L24_X12_goesRound_3 (n : Nat) : XS → Int → XR := Nat.rec (motive := fun _ => XS → Int → XR) (fun s _ => (s, 0)) (fun _ R61 => g25l_X12_goesRound_3 R61) n
noncomputable def g23w_X12_goesRound_3 (s : XS) : XR := L24_X12_goesRound_3 (Int.toNat (3 - 0 + 1)) s 0
noncomputable def g22w_X12_goesRound_3 (s : XS) (a6 : Int) : XR := g23w_X12_goesRound_3 (xup s 0 0 36 a6)
noncomputable def g20_X12_goesRound_3 (s : XS) (a5 : Int) (a6 : Int) : XR := g22w_X12_goesRound_3 (xup s 0 0 35 a5) a6
noncomputable def g31_X12_goesRound_3 (s : XS) : XR := (s, 0)
noncomputable def g41_X12_goesRound_3 (s : XS) : XR := (s, 0)
noncomputable def g43w_X12_goesRound_3 (R61 : XS → Int → XR) (s : XS) (x7_142 : Int) : XR := R61 s ((x7_142 + 1))
noncomputable def g42_X12_goesRound_3 (R61 : XS → Int → XR) (s : XS) (x7_142 : Int) : XR := g43w_X12_goesRound_3 R61 (xup s 1 19 (Int.toNat x7_142) ((s 1 18 (Int.toNat x7_142)))) x7_142
noncomputable def g40b_X12_goesRound_3 (R61 : XS → Int → XR) (s : XS) (x7_142 : Int) : XR := if x7_142 < 3 then g42_X12_goesRound_3 R61 s x7_142 else g41_X12_goesRound_3 s
noncomputable def g39l_X12_goesRound_3 (R61 : XS → Int → XR) (s : XS) (x7_142 : Int) : XR := g40b_X12_goesRound_3 R61 s x7_142
noncomputable def L38_X12_goesRound_3 (n : Nat) : XS → Int → XR := Nat.rec (motive := fun _ => XS → Int → XR) (fun s _ => (s, 0)) (fun _ R61 => g39l_X12_goesRound_3 R61) n
noncomputable def g37w_X12_goesRound_3 (s : XS) : XR := L38_X12_goesRound_3 (Int.toNat (3 - 0 + 1)) s 0
noncomputable def g36w_X12_goesRound_3 (s : XS) (a6 : Int) : XR := g37w_X12_goesRound_3 (xup s 0 0 36 a6)
noncomputable def g34_X12_goesRound_3 (s : XS) (a5 : Int) (a6 : Int) : XR := g36w_X12_goesRound_3 (xup s 0 0 35 a5) a6
noncomputable def g52_X12_goesRound_3 (s : XS) : XR := (s, 0)
noncomputable def g54w_X12_goesRound_3 (R61 : XS → Int → XR) (s : XS) (x7_172 : Int) : XR := R61 s ((x7_172 + 1))
noncomputable def g53_X12_goesRound_3 (R61 : XS → Int → XR) (s : XS) (x7_172 : Int) : XR := g54w_X12_goesRound_3 R61 (xup s 1 19 (Int.toNat x7_172) ((s 1 18 (Int.toNat x7_172)))) x7_172
noncomputable def g51b_X12_goesRound_3 (R61 : XS → Int → XR) (s : XS) (x7_172 : Int) : XR := if x7_172 < 3 then g53_X12_goesRound_3 R61 s x7_172 else g52_X12_goesRound_3 s
noncomputable def g50l_X12_goesRound_3 (R61 : XS → Int → XR) (s : XS) (x7_172 : Int) : XR := g51b_X12_goesRound_3 R61 s x7_172
noncomputable def L49_X12_goesRound_3 (n : Nat) : XS → Int → XR := Nat.rec (motive := fun _ => XS → Int → XR) (fun s _ => (s, 0)) (fun _ R61 => g50l_X12_goesRound_3 R61) n
noncomputable def g48w_X12_goesRound_3 (s : XS) : XR := L49_X12_goesRound_3 (Int.toNat (3 - 0 + 1)) s 0
noncomputable def g47w_X12_goesRound_3 (s : XS) (a6 : Int) : XR := g48w_X12_goesRound_3 (xup s 0 0 36 a6)
noncomputable def g45_X12_goesRound_3 (s : XS) (a5 : Int) (a6 : Int) : XR := g47w_X12_goesRound_3 (xup s 0 0 35 a5) a6
noncomputable def g46_X12_goesRound_3 (s : XS) : XR := (s, 0)
noncomputable def g44b_X12_goesRound_3 (s : XS) (v_161 : Int) (a6 : Int) (a5 : Int) : XR := if a6 < v_161 then g45_X12_goesRound_3 s a5 a6 else g46_X12_goesRound_3 s
noncomputable def g35_X12_goesRound_3 (s : XS) (a5 : Int) (a6 : Int) : XR := g44b_X12_goesRound_3 s ((s 0 0 36)) a6 a5
noncomputable def g33b_X12_goesRound_3 (s : XS) (v_130 : Int) (a5 : Int) (a6 : Int) : XR := if a5 = v_130 then g35_X12_goesRound_3 s a5 a6 else g34_X12_goesRound_3 s a5 a6
noncomputable def g32_X12_goesRound_3 (s : XS) (a5 : Int) (a6 : Int) : XR := g33b_X12_goesRound_3 s ((s 0 0 35)) a5 a6
noncomputable def g30b_X12_goesRound_3 (s : XS) (v_124 : Int) (a5 : Int) (a6 : Int) : XR := if v_124 < a5 then g31_X12_goesRound_3 s else g32_X12_goesRound_3 s a5 a6
noncomputable def g21_X12_goesRound_3 (s : XS) (a5 : Int) (a6 : Int) : XR := g30b_X12_goesRound_3 s ((s 0 0 35)) a5 a6
noncomputable def g19b_X12_goesRound_3 (s : XS) (v_92 : Int) (a5 : Int) (a6 : Int) : XR := if v_92 = ((-1)) then g20_X12_goesRound_3 s a5 a6 else g21_X12_goesRound_3 s a5 a6
noncomputable def g3_X12_goesRound_3 (s : XS) (a5 : Int) (a6 : Int) : XR := g19b_X12_goesRound_3 s ((s 0 0 35)) a5 a6
noncomputable def g1b_X12_goesRound_3 (s : XS) (v_1 : Int) (a1 : Int) (a3 : Int) (a4 : Int) (a5 : Int) (a6 : Int) : XR := if 3 = v_1 then g3_X12_goesRound_3 s a5 a6 else g2_X12_goesRound_3 s a1 a3 a4 a5 a6
noncomputable def f_X12_goesRound_3 (s : XS) (a1 : Int) (a2 : Int) (a3 : Int) (a4 : Int) (a5 : Int) (a6 : Int) : XR := g1b_X12_goesRound_3 s ((s 1 24 (Int.toNat a1))) a1 a3 a4 a5 a6
set_option maxHeartbeats 4000000 in
set_option maxRecDepth 100000 in
theorem c_X12_goesRound_3 (l : Launch) (G : GG) (Z : RZ) (ad : Nat → Nat) (ws0 : va_W) (hT : Ty G SM ad ws0) (a1 : Int32) (a2 : Int32) (a3 : Int32) (a4 : Int32) (a5 : Int32) (a6 : Int32) (l1 : 0 ≤ a1.toInt) (u1 : a1.toInt ≤ 3) (l2 : 3 ≤ a2.toInt) (u2 : a2.toInt ≤ 3) (l4 : 0 ≤ a4.toInt) (u4 : a4.toInt ≤ 99) (al0 : 3 ≤ (aI ws0 24 a1.toInt.toNat).toInt) (ah0 : (aI ws0 24 a1.toInt.toNat).toInt ≤ 4) (hN : NumOk ws0 a1) (hJ : J ws0) (hLd : Laid ws0) : Mq l yX12_goesRound cX12_goesRound 10 none 9 G Z [.ref (ad 0), .int a1, .int a2, .int a3, .int a4, .int a5, .int a6] ws0 (PV G SM ad [0, 5, 8, 9, 10, 11, 12, 13, 18, 19] ws0 (fun u => (xso SM ad u = (f_X12_goesRound_3 (xso SM ad ws0) a1.toInt a2.toInt a3.toInt a4.toInt a5.toInt a6.toInt).1))) := by
  refine Mq.start (by decide) (Nat.le_of_ble_eq_true rfl) ?_
  intro p e s m below meth c A ls C0 hZ h hl
  have hl : lv_has ls 10 [(0, .ref (ad 0)), (1, .int a1), (2, .int a2), (3, .int a3), (4, .int a4), (5, .int a5), (6, .int a6)] := hl
  have h : Wt G SM ad A s s.heap [] ws0 := ⟨h, hT⟩
  obtain ⟨args, hargs⟩ : ∃ z, z = ([.ref (ad 0), .int a1, .int a2, .int a3, .int a4, .int a5, .int a6] : List Value).toArray := ⟨_, rfl⟩
  rw [← hargs] at C0 ⊢
  have C0 : Cx p s m args meth c RX12 cX12_goesRound 10 none := C0
  obtain ⟨Q, hQ⟩ : ∃ z, z = MQ below ((PV G SM ad [0, 5, 8, 9, 10, 11, 12, 13, 18, 19] ws0 (fun u => (xso SM ad u = (f_X12_goesRound_3 (xso SM ad ws0) a1.toInt a2.toInt a3.toInt a4.toInt a5.toInt a6.toInt).1))) A) args s 0 0 A := ⟨_, rfl⟩
  rw [← hQ]
  obtain ⟨FT, hFT⟩ : ∃ z, z = f_X12_goesRound_3 (xso SM ad ws0) a1.toInt a2.toInt a3.toInt a4.toInt a5.toInt a6.toInt := ⟨_, rfl⟩
  have HE : FT = f_X12_goesRound_3 (xso SM ad ws0) a1.toInt a2.toInt a3.toInt a4.toInt a5.toInt a6.toInt := hFT
  obtain ⟨ap0, ea0⟩ : ∃ v, aI ws0 24 a1.toInt.toNat = v := ⟨_, rfl⟩
  rw [ea0] at al0 ah0
  refine lv_iload_n C0.1 C0.2.1 dX12_goesRound_0 rfl (lv_at hl 2 rfl) ?_
  refine lv_aload_n C0.1 C0.2.1 dX12_goesRound_1 rfl (lv_at hl 0 rfl) ?_
  refine ng_X12_rowMany C0 h kSM_0 q_1480 dX12_goesRound_2 ?_
  refine lv_iload_n C0.1 C0.2.1 dX12_goesRound_5 rfl (lv_at hl 1 rfl) ?_
  refine y_iald C0 h kSM_24 rfl (by decide) (o38_1 l1 u1) (o38_2 l1 u1) dX12_goesRound_6 (fun v_1 e_2 e_3 e_4 => ?_)
  have qh_5 : v_1.toInt = ap0.toInt := congrArg Int32.toInt (e_2.symm.trans (Eq.trans rfl (Eq.trans rfl ea0)))
  replace HE : FT = g1b_X12_goesRound_3 (xso SM ad ws0) v_1.toInt a1.toInt a3.toInt a4.toInt a5.toInt a6.toInt := HE.trans (by rw [(xg1 e_2 : v_1.toInt = (xso SM ad ws0) 1 24 a1.toInt.toNat)]; rfl)
  refine y_icmp_ne (tgt := 88) C0 dX12_goesRound_7 (by decide) (fun c_6 => ?_) (fun c_6 => ?_)
  · -- 7
    replace HE : FT = g2_X12_goesRound_3 (xso SM ad ws0) a1.toInt a3.toInt a4.toInt a5.toInt a6.toInt := HE.trans (if_neg (o38_22 l2 u2 al0 ah0 e_3 e_4 qh_5 c_6))
    refine y_c1 (n := 0) C0 (by decide) dX12_goesRound_88 (fun v_7 e_8 => ?_)
    refine lv_istore (lv' := [(7, .int v_7), (0, .ref (ad 0)), (1, .int a1), (2, .int a2), (3, .int a3), (4, .int a4), (5, .int a5), (6, .int a6)]) C0.1 C0.2.1 dX12_goesRound_89 hl (by decide) rfl (fun ls hl => ?_)
    have lp_12 : ∀ (n_14 : Nat) (x7_9 : Int32) (H : Heap) (locs : List Loc) (ls : Array Slot) (ws_10 : va_W), 4 - x7_9.toInt < (n_14 : Int) → 0 ≤ x7_9.toInt → x7_9.toInt ≤ 4 → (FT = L4_X12_goesRound_3 n_14 (xso SM ad ws_10) a1.toInt a3.toInt a4.toInt a5.toInt a6.toInt x7_9.toInt) → Wt G SM ad A s H locs ws_10 → Fr SM [0, 5, 8, 9, 10, 11, 12, 13, 18, 19] ws0 ws_10 → lv_has ls 10 [(7, .int x7_9), (0, .ref (ad 0)), (1, .int a1), (2, .int a2), (3, .int a3), (4, .int a4), (5, .int a5), (6, .int a6)] → W p l e (rmd 9 0 0) s m args below meth c H locs 0 0 Q (F0 m 91 ls []) := by
      intro n_14
      induction n_14 with
      | zero => intro x7_9 H locs ls ws_10 hn_15 b_16 b_17 HE h hF_11 hl; exact ((o38_7 b_16 b_17 hn_15)).elim
      | succ n_14 ih_13 =>
        intro x7_9 H locs ls ws_10 hn_15 b_16 b_17 HE h hF_11 hl
        obtain ⟨R91, hR91⟩ : ∃ z, z = L4_X12_goesRound_3 n_14 := ⟨_, rfl⟩
        replace HE : FT = g5l_X12_goesRound_3 R91 (xso SM ad ws_10) a1.toInt a3.toInt a4.toInt a5.toInt a6.toInt x7_9.toInt := HE.trans (by rw [hR91]; rfl)
        refine lv_iload C0.1 C0.2.1 dX12_goesRound_91 (lv_at hl 0 rfl) ?_
        refine lv_aload_n C0.1 C0.2.1 dX12_goesRound_93 rfl (lv_at hl 1 rfl) ?_
        refine ng_X12_rowMany C0 h kSM_0 q_1480 dX12_goesRound_94 ?_
        refine lv_iload_n C0.1 C0.2.1 dX12_goesRound_97 rfl (lv_at hl 2 rfl) ?_
        refine y_iald C0 h kSM_24 rfl (by decide) (o38_1 l1 u1) (o38_2 l1 u1) dX12_goesRound_98 (fun v_18 e_19 e_20 e_21 => ?_)
        have qh_22 : v_18.toInt = ap0.toInt := congrArg Int32.toInt (e_19.symm.trans (Eq.trans rfl (Eq.trans (Fr.aI hF_11 kSM_24 (by decide)) ea0)))
        replace HE : FT = g6b_X12_goesRound_3 R91 (xso SM ad ws_10) x7_9.toInt a1.toInt a3.toInt a4.toInt a5.toInt a6.toInt := HE.trans rfl
        refine y_icmp_ge (tgt := 197) C0 dX12_goesRound_99 (by decide) (fun c_23 => ?_) (fun c_23 => ?_)
        · -- 99
          replace HE : FT = g7_X12_goesRound_3 (xso SM ad ws_10) := HE.trans (if_neg (o38_25 l2 u2 al0 ah0 e_3 e_4 qh_5 c_6 b_16 b_17 hn_15 e_20 e_21 qh_22 c_23))
          replace HE : FT = ((xso SM ad ws_10), 0) := HE.trans rfl
          rw [hQ]
          exact y_vret C0 h hF_11 (congrArg Prod.fst (HE.symm.trans hFT)) dX12_goesRound_197
        · -- 99
          replace HE : FT = g8_X12_goesRound_3 R91 (xso SM ad ws_10) a1.toInt a3.toInt a4.toInt a5.toInt a6.toInt x7_9.toInt := HE.trans (if_pos (o38_26 l2 u2 al0 ah0 e_3 e_4 qh_5 c_6 b_16 b_17 hn_15 e_20 e_21 qh_22 c_23))
          refine lv_iload_n C0.1 C0.2.1 dX12_goesRound_102 rfl (lv_at hl 4 rfl) ?_
          refine y_i2l C0 dX12_goesRound_103 (fun w_24 e_25 => ?_)
          refine lv_iload C0.1 C0.2.1 dX12_goesRound_104 (lv_at hl 0 rfl) ?_
          refine y_ci h (y_rS (As := [.long w_24, .int x7_9]) (rest := []) C0 hZ h (c_X12_isIn l G Z ad _ h.2 w_24 x7_9) k_X12_isIn q_1716 q_1715 hl.1 rfl rfl (Nat.le_of_ble_eq_true rfl) dX12_goesRound_106 ⟨Nat.le_of_ble_eq_true rfl, Nat.le_of_ble_eq_true rfl⟩ ⟨Nat.le_of_ble_eq_true rfl, Nat.le_of_ble_eq_true rfl⟩) (fun r_29 H locs ws_26 h u_27 p_28 => ?_)
          obtain ⟨e_30, e_31, e_32, e_33, e_34⟩ := p_28
          replace HE : FT = g9c_X12_goesRound_3 R91 (xso SM ad ws_26) r_29.toInt a1.toInt a3.toInt a4.toInt a5.toInt a6.toInt x7_9.toInt := HE.trans (by rw [e_30, e_31, e_25]; rfl)
          replace HE : FT = g10b_X12_goesRound_3 R91 (xso SM ad ws_26) r_29.toInt a1.toInt a3.toInt a4.toInt a5.toInt a6.toInt x7_9.toInt := HE.trans rfl
          refine y_if_eq (tgt := 115) C0 dX12_goesRound_109 (by decide) (fun c_35 => ?_) (fun c_35 => ?_)
          · -- 109
            replace HE : FT = g11_X12_goesRound_3 R91 (xso SM ad ws_26) a1.toInt a3.toInt a4.toInt a5.toInt a6.toInt x7_9.toInt := HE.trans (if_pos c_35)
            refine lv_aload_n C0.1 C0.2.1 dX12_goesRound_115 rfl (lv_at hl 1 rfl) ?_
            refine ng_X12_numbers C0 h kSM_0 q_1481 dX12_goesRound_116 ?_
            refine y_c2 (n := 40) C0 (by decide) dX12_goesRound_119 (fun v_36 e_37 => ?_)
            refine lv_iload_n C0.1 C0.2.1 dX12_goesRound_121 rfl (lv_at hl 2 rfl) ?_
            refine y_cmul (n := 40) C0 (o38_27 e_37) (o38_28 l1 u1 (le_min a1) (le_max a1)) (o38_29 l1 u1 (le_min a1) (le_max a1)) dX12_goesRound_122 (fun v_38 e_39 => ?_)
            refine lv_iload C0.1 C0.2.1 dX12_goesRound_123 (lv_at hl 0 rfl) ?_
            refine y_add C0 (o38_30 l1 u1 l2 u2 al0 ah0 e_3 e_4 qh_5 c_6 b_16 b_17 hn_15 e_20 e_21 qh_22 c_23 e_39 (le_min v_38) (le_max v_38) (le_min x7_9) (le_max x7_9) (le_min a1) (le_max a1) (le_min a2) (le_max a2) (le_min ap0) (le_max ap0) (le_min v_1) (le_max v_1) (le_min v_18) (le_max v_18)) (o38_31 l1 u1 l2 u2 al0 ah0 e_3 e_4 qh_5 c_6 b_16 b_17 hn_15 e_20 e_21 qh_22 c_23 e_39 (le_min v_38) (le_max v_38) (le_min x7_9) (le_max x7_9) (le_min a1) (le_max a1) (le_min a2) (le_max a2) (le_min ap0) (le_max ap0) (le_min v_1) (le_max v_1) (le_min v_18) (le_max v_18)) dX12_goesRound_125 (fun v_40 e_41 => ?_)
            refine y_lald C0 h kSM_25 rfl (by decide) (o38_32 l1 u1 l2 u2 al0 ah0 e_3 e_4 qh_5 c_6 b_16 b_17 hn_15 e_20 e_21 qh_22 c_23 e_39 e_41) (o38_33 l1 u1 l2 u2 al0 ah0 e_3 e_4 qh_5 c_6 b_16 b_17 hn_15 e_20 e_21 qh_22 c_23 e_39 e_41) dX12_goesRound_126 (fun w_42 e_43 => ?_)
            have g_44 := num_at (NumOk.fr (M := [0, 5, 8, 9, 10, 11, 12, 13, 18, 19]) hN (Fr.tr hF_11 (Fr.mono u_27 (by decide))) (by decide) (by decide)) (Eq.trans rfl (Eq.trans (Eq.trans (Fr.aI u_27 kSM_24 (by decide)) (Fr.aI hF_11 kSM_24 (by decide))) ea0)) (o38_34 l1 u1 l2 u2 al0 ah0 e_3 e_4 qh_5 c_6 b_16 b_17 hn_15 e_20 e_21 qh_22 c_23 e_39 e_41) (o38_35 l1 u1 l2 u2 al0 ah0 e_3 e_4 qh_5 c_6 b_16 b_17 hn_15 e_20 e_21 qh_22 c_23 e_39 e_41) e_43
            refine y_l2i C0 (o38_36 g_44.1 g_44.2) (o38_37 g_44.1 g_44.2) dX12_goesRound_127 (fun v_45 e_46 => ?_)
            refine lv_istore (lv' := [(8, .int v_45), (7, .int x7_9), (0, .ref (ad 0)), (1, .int a1), (2, .int a2), (3, .int a3), (4, .int a4), (5, .int a5), (6, .int a6)]) C0.1 C0.2.1 dX12_goesRound_128 hl (by decide) rfl (fun ls hl => ?_)
            refine lv_aload_n C0.1 C0.2.1 dX12_goesRound_130 rfl (lv_at hl 2 rfl) ?_
            refine lv_iload C0.1 C0.2.1 dX12_goesRound_131 (lv_at hl 6 rfl) ?_
            refine lv_iload C0.1 C0.2.1 dX12_goesRound_133 (lv_at hl 8 rfl) ?_
            refine lv_iload C0.1 C0.2.1 dX12_goesRound_135 (lv_at hl 0 rfl) ?_
            refine y_ci h (y_rV (As := [.int a4, .int a6, .int v_45]) (rest := []) C0 hZ h (c_X12_leg l G Z ad _ h.2 a4 a6 v_45 (o38_38 l4 u4) (o38_39 l4 u4) (o38_40 g_44.1 g_44.2 e_46) (o38_41 g_44.1 g_44.2 e_46) (J.pa hT hJ (Pa.tr (Pa.fr hF_11 (by decide)) (Pa.fr u_27 (by decide)))) (Laid.pa hLd (Pa.tr (Pa.fr hF_11 (by decide)) (Pa.fr u_27 (by decide))))) k_X12_leg q_1970 q_114 q_1968 kSM_0 rfl rfl rfl hl.1 rfl rfl (Nat.le_of_ble_eq_true rfl) dX12_goesRound_137 ⟨Nat.le_of_ble_eq_true rfl, Nat.le_of_ble_eq_true rfl⟩ ⟨Nat.le_of_ble_eq_true rfl, Nat.le_of_ble_eq_true rfl⟩) (fun r_50 H locs ws_47 h u_48 p_49 => ?_)
            obtain ⟨e_51, e_52⟩ := p_49
            replace HE : FT = g13c_X12_goesRound_3 R91 (xso SM ad ws_47) r_50.toInt a1.toInt a3.toInt a4.toInt a5.toInt a6.toInt x7_9.toInt v_45.toInt := HE.trans (by rw [e_51, e_52, e_46, (xg2 e_43 : w_42.toInt = (xso SM ad ws_26) 2 25 v_40.toInt.toNat), e_41, e_39]; rfl)
            refine lv_istore (lv' := [(9, .int r_50), (8, .int v_45), (7, .int x7_9), (0, .ref (ad 0)), (1, .int a1), (2, .int a2), (3, .int a3), (4, .int a4), (5, .int a5), (6, .int a6)]) C0.1 C0.2.1 dX12_goesRound_140 hl (by decide) rfl (fun ls hl => ?_)
            refine lv_iload C0.1 C0.2.1 dX12_goesRound_142 (lv_at hl 0 rfl) ?_
            refine y_c5 (n := 1000000000) C0 q_1887 (by decide) dX12_goesRound_144 (fun v_53 e_54 => ?_)
            replace HE : FT = g14b_X12_goesRound_3 R91 (xso SM ad ws_47) r_50.toInt a1.toInt a3.toInt a4.toInt a5.toInt a6.toInt x7_9.toInt v_45.toInt := HE.trans rfl
            refine y_icmp_ne (tgt := 153) C0 dX12_goesRound_147 (by decide) (fun c_55 => ?_) (fun c_55 => ?_)
            · -- 147
              replace HE : FT = g15_X12_goesRound_3 R91 (xso SM ad ws_47) a1.toInt a3.toInt a4.toInt a5.toInt a6.toInt x7_9.toInt v_45.toInt r_50.toInt := HE.trans (if_neg (o38_43 e_54 c_55))
              refine lv_aload_n C0.1 C0.2.1 dX12_goesRound_153 rfl (lv_at hl 3 rfl) ?_
              refine ng_X12_taken C0 h kSM_0 q_1471 dX12_goesRound_154 ?_
              refine lv_iload_n C0.1 C0.2.1 dX12_goesRound_157 rfl (lv_at hl 5 rfl) ?_
              refine lv_iload C0.1 C0.2.1 dX12_goesRound_158 (lv_at hl 1 rfl) ?_
              have hO_58 := h.2
              refine y_iast C0 h kSM_18 rfl (by decide) (o38_45 l1 u1 l2 u2 al0 ah0 e_3 e_4 qh_5 c_6 b_16 b_17 hn_15 e_20 e_21 qh_22 c_23 e_39 e_41) (o38_46 l1 u1 l2 u2 al0 ah0 e_3 e_4 qh_5 c_6 b_16 b_17 hn_15 e_20 e_21 qh_22 c_23 e_39 e_41) (le_min v_45) (le_max v_45) dX12_goesRound_160 (fun H locs ws_56 h u_57 => ?_)
              have e_59 : aI ws_56 18 3 = v_45 := (congrArg (aI ws_56 18) (ix_c (c := 3) (o38_47 l1 u1 l2 u2 al0 ah0 e_3 e_4 qh_5 c_6 b_16 b_17 hn_15 e_20 e_21 qh_22 c_23 e_39 e_41))).symm.trans u_57.2.1
              replace HE : FT = g17w_X12_goesRound_3 R91 (xso SM ad ws_56) a1.toInt a3.toInt a4.toInt a5.toInt a6.toInt x7_9.toInt r_50.toInt := HE.trans (by rw [(xso_A (i := 18) hO_58 h.2 kSM_18 rfl u_57), (o38_48 l1 u1 l2 u2 al0 ah0 e_3 e_4 qh_5 c_6 b_16 b_17 hn_15 e_20 e_21 qh_22 c_23 e_39 e_41)]; rfl)
              refine lv_aload_n C0.1 C0.2.1 dX12_goesRound_161 rfl (lv_at hl 3 rfl) ?_
              refine lv_iload_n C0.1 C0.2.1 dX12_goesRound_162 rfl (lv_at hl 4 rfl) ?_
              refine lv_iload_n C0.1 C0.2.1 dX12_goesRound_163 rfl (lv_at hl 5 rfl) ?_
              refine y_c1 (n := 1) C0 (by decide) dX12_goesRound_164 (fun v_60 e_61 => ?_)
              refine y_add C0 (o38_49 l1 u1 l2 u2 al0 ah0 e_3 e_4 qh_5 c_6 b_16 b_17 hn_15 e_20 e_21 qh_22 c_23 e_39 e_41 e_61 (le_min a2) (le_max a2) (le_min v_60) (le_max v_60) (le_min a1) (le_max a1) (le_min ap0) (le_max ap0) (le_min v_1) (le_max v_1) (le_min x7_9) (le_max x7_9) (le_min v_18) (le_max v_18) (le_min v_38) (le_max v_38) (le_min v_40) (le_max v_40)) (o38_50 l1 u1 l2 u2 al0 ah0 e_3 e_4 qh_5 c_6 b_16 b_17 hn_15 e_20 e_21 qh_22 c_23 e_39 e_41 e_61 (le_min a2) (le_max a2) (le_min v_60) (le_max v_60) (le_min a1) (le_max a1) (le_min ap0) (le_max ap0) (le_min v_1) (le_max v_1) (le_min x7_9) (le_max x7_9) (le_min v_18) (le_max v_18) (le_min v_38) (le_max v_38) (le_min v_40) (le_max v_40)) dX12_goesRound_165 (fun v_62 e_63 => ?_)
              refine lv_iload_n C0.1 C0.2.1 dX12_goesRound_166 rfl (lv_at hl 6 rfl) ?_
              refine y_c1 (n := 1) C0 (by decide) dX12_goesRound_167 (fun v_64 e_65 => ?_)
              refine lv_iload C0.1 C0.2.1 dX12_goesRound_168 (lv_at hl 2 rfl) ?_
              refine xr_ishl C0 dX12_goesRound_170 (fun v_66 e_67 => ?_)
              refine xr_ior C0 dX12_goesRound_171 (fun v_68 e_69 => ?_)
              refine lv_aload_n C0.1 C0.2.1 dX12_goesRound_172 rfl (lv_at hl 3 rfl) ?_
              refine ng_X12_endsAt C0 h kSM_0 q_1466 dX12_goesRound_173 (fun v_70 e_71 e_72 e_73 => ?_)
              refine lv_iload C0.1 C0.2.1 dX12_goesRound_176 (lv_at hl 8 rfl) ?_
              refine lv_iload C0.1 C0.2.1 dX12_goesRound_178 (lv_at hl 0 rfl) ?_
              refine xr_iadd C0 dX12_goesRound_180 (fun v_74 e_75 => ?_)
              refine lv_iload C0.1 C0.2.1 dX12_goesRound_181 (lv_at hl 9 rfl) ?_
              refine lv_aload_n C0.1 C0.2.1 dX12_goesRound_183 rfl (lv_at hl 3 rfl) ?_
              refine ng_X12_legStreets C0 h kSM_0 q_1475 dX12_goesRound_184 (fun v_76 e_77 e_78 e_79 => ?_)
              refine xr_iadd C0 dX12_goesRound_187 (fun v_80 e_81 => ?_)
              refine y_cv h (y_rV (As := [.int a1, .int v_62, .int v_68, .int v_70, .int v_74, .int v_80]) (rest := []) C0 hZ h (c_X12_goesRound_4 l G Z ad _ h.2 a1 v_62 v_68 v_70 v_74 v_80 (o38_51 l1 u1 l2 u2 al0 ah0 e_3 e_4 qh_5 c_6 b_16 b_17 hn_15 e_20 e_21 qh_22 c_23 e_39 e_41 e_61 e_63) (o38_52 l1 u1 l2 u2 al0 ah0 e_3 e_4 qh_5 c_6 b_16 b_17 hn_15 e_20 e_21 qh_22 c_23 e_39 e_41 e_61 e_63) (o38_53 l1 u1 l2 u2 al0 ah0 e_3 e_4 qh_5 c_6 b_16 b_17 hn_15 e_20 e_21 qh_22 c_23 e_39 e_41 e_61 e_63) (o38_54 l1 u1 l2 u2 al0 ah0 e_3 e_4 qh_5 c_6 b_16 b_17 hn_15 e_20 e_21 qh_22 c_23 e_39 e_41 e_61 e_63) (o38_38 e_72 e_73) (o38_39 e_72 e_73) (fbd_lo (Eq.trans rfl (Eq.trans (Eq.trans (aI_of (u_57.1 24 (kd_ne kSM_24 kSM_18 (by decide)))) (Eq.trans (Fr.aI u_48 kSM_24 (by decide)) (Eq.trans (Fr.aI u_27 kSM_24 (by decide)) (Fr.aI hF_11 kSM_24 (by decide))))) ea0)) (o38_55 l1 u1 l2 u2 al0 ah0 e_3 e_4 qh_5 c_6 b_16 b_17 hn_15 e_20 e_21 qh_22 c_23 e_39 e_41 e_61 e_63)) (fbd_hi (Eq.trans rfl (Eq.trans (Eq.trans (aI_of (u_57.1 24 (kd_ne kSM_24 kSM_18 (by decide)))) (Eq.trans (Fr.aI u_48 kSM_24 (by decide)) (Eq.trans (Fr.aI u_27 kSM_24 (by decide)) (Fr.aI hF_11 kSM_24 (by decide))))) ea0)) (o38_56 l1 u1 l2 u2 al0 ah0 e_3 e_4 qh_5 c_6 b_16 b_17 hn_15 e_20 e_21 qh_22 c_23 e_39 e_41 e_61 e_63)) (NumOk.fr (M := [0, 5, 8, 9, 10, 11, 12, 13, 18, 19]) hN (Fr.tr (Fr.tr (Fr.tr hF_11 (Fr.mono u_27 (by decide))) (Fr.mono u_48 (by decide))) (Fr.up u_57.1 kSM_18 (by decide))) (by decide) (by decide)) (J.pa hT hJ (Pa.tr (Pa.tr (Pa.tr (Pa.fr hF_11 (by decide)) (Pa.fr u_27 (by decide))) (Pa.fr u_48 (by decide))) (Pa.ud u_57.1 (by decide)))) (Laid.pa hLd (Pa.tr (Pa.tr (Pa.tr (Pa.fr hF_11 (by decide)) (Pa.fr u_27 (by decide))) (Pa.fr u_48 (by decide))) (Pa.ud u_57.1 (by decide))))) k_X12_goesRound q_1966 q_113 q_1964 kSM_0 rfl rfl rfl hl.1 rfl rfl (Nat.le_of_ble_eq_true rfl) dX12_goesRound_188 ⟨Nat.le_of_ble_eq_true rfl, Nat.le_of_ble_eq_true rfl⟩ ⟨Nat.le_of_ble_eq_true rfl, Nat.le_of_ble_eq_true rfl⟩) (fun H locs ws_82 h u_83 p_84 => ?_)
              have e_85 := p_84
              replace HE : FT = g18c_X12_goesRound_3 R91 (xso SM ad ws_82) a1.toInt a3.toInt a4.toInt a5.toInt a6.toInt x7_9.toInt := HE.trans (by rw [e_85, e_81, (xg0 e_77 : v_76.toInt = (xso SM ad ws_56) 0 0 37), e_75, (xg0 e_71 : v_70.toInt = (xso SM ad ws_56) 0 0 28), e_69, e_67, e_65, e_63, e_61, (o38_57 l1 u1 l2 u2 al0 ah0 e_3 e_4 qh_5 c_6 b_16 b_17 hn_15 e_20 e_21 qh_22 c_23 e_39 e_41 e_61 e_63)]; rfl)
              refine y_inc (kp := 2) (n := 1) (fun v_86 => [(7, .int v_86), (9, .int r_50), (8, .int v_45), (0, .ref (ad 0)), (1, .int a1), (2, .int a2), (3, .int a3), (4, .int a4), (5, .int a5), (6, .int a6)]) C0 hl rfl (by decide) (by decide) (fun _ => rfl) (o38_58 l1 u1 l2 u2 al0 ah0 e_3 e_4 qh_5 c_6 b_16 b_17 hn_15 e_20 e_21 qh_22 c_23 e_39 e_41 e_61 e_63 (le_min x7_9) (le_max x7_9) (le_min a1) (le_max a1) (le_min a2) (le_max a2) (le_min ap0) (le_max ap0) (le_min v_1) (le_max v_1) (le_min v_18) (le_max v_18) (le_min v_38) (le_max v_38) (le_min v_40) (le_max v_40) (le_min v_60) (le_max v_60) (le_min v_62) (le_max v_62)) (o38_59 l1 u1 l2 u2 al0 ah0 e_3 e_4 qh_5 c_6 b_16 b_17 hn_15 e_20 e_21 qh_22 c_23 e_39 e_41 e_61 e_63 (le_min x7_9) (le_max x7_9) (le_min a1) (le_max a1) (le_min a2) (le_max a2) (le_min ap0) (le_max ap0) (le_min v_1) (le_max v_1) (le_min v_18) (le_max v_18) (le_min v_38) (le_max v_38) (le_min v_40) (le_max v_40) (le_min v_60) (le_max v_60) (le_min v_62) (le_max v_62)) dX12_goesRound_191 (fun v_86 ls e_87 hl => ?_)
              refine lv_goto (tgt := 91) C0.1 C0.2.1 dX12_goesRound_194 (by decide) ?_
              exact ih_13 v_86 _ _ _ _ (o38_60 l1 u1 l2 u2 al0 ah0 e_3 e_4 qh_5 c_6 b_16 b_17 hn_15 e_20 e_21 qh_22 c_23 e_39 e_41 e_61 e_63 e_87) (o38_61 l1 u1 l2 u2 al0 ah0 e_3 e_4 qh_5 c_6 b_16 b_17 hn_15 e_20 e_21 qh_22 c_23 e_39 e_41 e_61 e_63 e_87) (o38_62 l1 u1 l2 u2 al0 ah0 e_3 e_4 qh_5 c_6 b_16 b_17 hn_15 e_20 e_21 qh_22 c_23 e_39 e_41 e_61 e_63 e_87) (((show FT = R91 (xso SM ad ws_82) a1.toInt a3.toInt a4.toInt a5.toInt a6.toInt v_86.toInt from HE.trans (by rw [e_87]; rfl)).trans (by rw [hR91]))) h (Fr.tr (Fr.tr (Fr.tr (Fr.tr hF_11 (Fr.mono u_27 (by decide))) (Fr.mono u_48 (by decide))) (Fr.up u_57.1 kSM_18 (by decide))) (Fr.mono u_83 (by decide))) (lv_sub hl [0, 3, 4, 5, 6, 7, 8, 9] rfl)
            · -- 147
              replace HE : FT = g16_X12_goesRound_3 R91 (xso SM ad ws_47) a1.toInt a3.toInt a4.toInt a5.toInt a6.toInt x7_9.toInt := HE.trans (if_pos (o38_44 e_54 c_55))
              refine lv_goto (tgt := 191) C0.1 C0.2.1 dX12_goesRound_150 (by decide) ?_
              refine y_inc (kp := 2) (n := 1) (fun v_88 => [(7, .int v_88), (9, .int r_50), (8, .int v_45), (0, .ref (ad 0)), (1, .int a1), (2, .int a2), (3, .int a3), (4, .int a4), (5, .int a5), (6, .int a6)]) C0 hl rfl (by decide) (by decide) (fun _ => rfl) (o38_63 l1 u1 l2 u2 al0 ah0 e_3 e_4 qh_5 c_6 b_16 b_17 hn_15 e_20 e_21 qh_22 c_23 e_39 e_41 (le_min x7_9) (le_max x7_9) (le_min a1) (le_max a1) (le_min a2) (le_max a2) (le_min ap0) (le_max ap0) (le_min v_1) (le_max v_1) (le_min v_18) (le_max v_18) (le_min v_38) (le_max v_38) (le_min v_40) (le_max v_40)) (o38_64 l1 u1 l2 u2 al0 ah0 e_3 e_4 qh_5 c_6 b_16 b_17 hn_15 e_20 e_21 qh_22 c_23 e_39 e_41 (le_min x7_9) (le_max x7_9) (le_min a1) (le_max a1) (le_min a2) (le_max a2) (le_min ap0) (le_max ap0) (le_min v_1) (le_max v_1) (le_min v_18) (le_max v_18) (le_min v_38) (le_max v_38) (le_min v_40) (le_max v_40)) dX12_goesRound_191 (fun v_88 ls e_89 hl => ?_)
              refine lv_goto (tgt := 91) C0.1 C0.2.1 dX12_goesRound_194 (by decide) ?_
              exact ih_13 v_88 _ _ _ _ (o38_65 l1 u1 l2 u2 al0 ah0 e_3 e_4 qh_5 c_6 b_16 b_17 hn_15 e_20 e_21 qh_22 c_23 e_39 e_41 e_89) (o38_66 l1 u1 l2 u2 al0 ah0 e_3 e_4 qh_5 c_6 b_16 b_17 hn_15 e_20 e_21 qh_22 c_23 e_39 e_41 e_89) (o38_67 l1 u1 l2 u2 al0 ah0 e_3 e_4 qh_5 c_6 b_16 b_17 hn_15 e_20 e_21 qh_22 c_23 e_39 e_41 e_89) (((show FT = R91 (xso SM ad ws_47) a1.toInt a3.toInt a4.toInt a5.toInt a6.toInt v_88.toInt from HE.trans (by rw [e_89]; rfl)).trans (by rw [hR91]))) h (Fr.tr (Fr.tr hF_11 (Fr.mono u_27 (by decide))) (Fr.mono u_48 (by decide))) (lv_sub hl [0, 3, 4, 5, 6, 7, 8, 9] rfl)
          · -- 109
            replace HE : FT = g12_X12_goesRound_3 R91 (xso SM ad ws_26) a1.toInt a3.toInt a4.toInt a5.toInt a6.toInt x7_9.toInt := HE.trans (if_neg c_35)
            refine lv_goto (tgt := 191) C0.1 C0.2.1 dX12_goesRound_112 (by decide) ?_
            refine y_inc (kp := 0) (n := 1) (fun v_90 => [(7, .int v_90), (0, .ref (ad 0)), (1, .int a1), (2, .int a2), (3, .int a3), (4, .int a4), (5, .int a5), (6, .int a6)]) C0 hl rfl (by decide) (by decide) (fun _ => rfl) (o38_68 l2 u2 al0 ah0 e_3 e_4 qh_5 c_6 b_16 b_17 hn_15 e_20 e_21 qh_22 c_23 (le_min x7_9) (le_max x7_9) (le_min a2) (le_max a2) (le_min ap0) (le_max ap0) (le_min v_1) (le_max v_1) (le_min v_18) (le_max v_18)) (o38_69 l2 u2 al0 ah0 e_3 e_4 qh_5 c_6 b_16 b_17 hn_15 e_20 e_21 qh_22 c_23 (le_min x7_9) (le_max x7_9) (le_min a2) (le_max a2) (le_min ap0) (le_max ap0) (le_min v_1) (le_max v_1) (le_min v_18) (le_max v_18)) dX12_goesRound_191 (fun v_90 ls e_91 hl => ?_)
            refine lv_goto (tgt := 91) C0.1 C0.2.1 dX12_goesRound_194 (by decide) ?_
            exact ih_13 v_90 _ _ _ _ (o38_70 l2 u2 al0 ah0 e_3 e_4 qh_5 c_6 b_16 b_17 hn_15 e_20 e_21 qh_22 c_23 e_91) (o38_71 l2 u2 al0 ah0 e_3 e_4 qh_5 c_6 b_16 b_17 hn_15 e_20 e_21 qh_22 c_23 e_91) (o38_72 l2 u2 al0 ah0 e_3 e_4 qh_5 c_6 b_16 b_17 hn_15 e_20 e_21 qh_22 c_23 e_91) (((show FT = R91 (xso SM ad ws_26) a1.toInt a3.toInt a4.toInt a5.toInt a6.toInt v_90.toInt from HE.trans (by rw [e_91]; rfl)).trans (by rw [hR91]))) h (Fr.tr hF_11 (Fr.mono u_27 (by decide))) (lv_sub hl [0, 1, 2, 3, 4, 5, 6, 7] rfl)
    exact lp_12 ((4 - v_7.toInt + 1).toNat) v_7 _ _ _ _ (o38_18 e_8) (o38_19 e_8) (o38_20 e_8) ((show FT = L4_X12_goesRound_3 (Int.toNat (4 - v_7.toInt + 1)) (xso SM ad ws0) a1.toInt a3.toInt a4.toInt a5.toInt a6.toInt v_7.toInt from HE.trans (by rw [e_8]; rfl))) h Fr.rf (lv_sub hl [0, 1, 2, 3, 4, 5, 6, 7] rfl)
  · -- 7
    replace HE : FT = g3_X12_goesRound_3 (xso SM ad ws0) a5.toInt a6.toInt := HE.trans (if_pos (o38_23 l2 u2 al0 ah0 e_3 e_4 qh_5 c_6))
    refine lv_aload_n C0.1 C0.2.1 dX12_goesRound_10 rfl (lv_at hl 0 rfl) ?_
    refine ng_X12_bestLefts C0 h kSM_0 q_1473 dX12_goesRound_11 (fun v_92 e_93 e_94 e_95 => ?_)
    refine y_c1 (n := (-1)) C0 (by decide) dX12_goesRound_14 (fun v_96 e_97 => ?_)
    replace HE : FT = g19b_X12_goesRound_3 (xso SM ad ws0) v_92.toInt a5.toInt a6.toInt := HE.trans (by rw [(xg0 e_93 : v_92.toInt = (xso SM ad ws0) 0 0 35)]; rfl)
    refine y_icmp_eq (tgt := 46) C0 dX12_goesRound_15 (by decide) (fun c_98 => ?_) (fun c_98 => ?_)
    · -- 15
      replace HE : FT = g20_X12_goesRound_3 (xso SM ad ws0) a5.toInt a6.toInt := HE.trans (if_pos (o38_5 e_97 c_98))
      refine lv_aload_n C0.1 C0.2.1 dX12_goesRound_46 rfl (lv_at hl 0 rfl) ?_
      refine lv_iload C0.1 C0.2.1 dX12_goesRound_47 (lv_at hl 5 rfl) ?_
      refine np_X12_bestLefts C0 h kSM_0 q_1473 (le_min a5) (le_max a5) dX12_goesRound_49 (fun H locs ws_99 h u_100 Xu_100 => ?_)
      replace HE : FT = g22w_X12_goesRound_3 (xso SM ad ws_99) a6.toInt := HE.trans (by rw [Xu_100]; rfl)
      refine lv_aload_n C0.1 C0.2.1 dX12_goesRound_52 rfl (lv_at hl 0 rfl) ?_
      refine lv_iload C0.1 C0.2.1 dX12_goesRound_53 (lv_at hl 6 rfl) ?_
      refine np_X12_bestStreets C0 h kSM_0 q_1474 (le_min a6) (le_max a6) dX12_goesRound_55 (fun H locs ws_101 h u_102 Xu_102 => ?_)
      replace HE : FT = g23w_X12_goesRound_3 (xso SM ad ws_101) := HE.trans (by rw [Xu_102]; rfl)
      refine y_c1 (n := 0) C0 (by decide) dX12_goesRound_58 (fun v_103 e_104 => ?_)
      refine lv_istore (lv' := [(7, .int v_103), (0, .ref (ad 0)), (1, .int a1), (2, .int a2), (3, .int a3), (4, .int a4), (5, .int a5), (6, .int a6)]) C0.1 C0.2.1 dX12_goesRound_59 hl (by decide) rfl (fun ls hl => ?_)
      have lp_108 : ∀ (n_110 : Nat) (x7_105 : Int32) (H : Heap) (locs : List Loc) (ls : Array Slot) (ws_106 : va_W), 3 - x7_105.toInt < (n_110 : Int) → 0 ≤ x7_105.toInt → x7_105.toInt ≤ 3 → (FT = L24_X12_goesRound_3 n_110 (xso SM ad ws_106) x7_105.toInt) → Wt G SM ad A s H locs ws_106 → Fr SM [19] ws_101 ws_106 → lv_has ls 10 [(7, .int x7_105), (0, .ref (ad 0)), (1, .int a1), (2, .int a2), (3, .int a3), (4, .int a4), (5, .int a5), (6, .int a6)] → W p l e (rmd 9 0 0) s m args below meth c H locs 0 0 Q (F0 m 61 ls []) := by
        intro n_110
        induction n_110 with
        | zero => intro x7_105 H locs ls ws_106 hn_111 b_112 b_113 HE h hF_107 hl; exact ((o38_73 b_112 b_113 hn_111)).elim
        | succ n_110 ih_109 =>
          intro x7_105 H locs ls ws_106 hn_111 b_112 b_113 HE h hF_107 hl
          obtain ⟨R61, hR61⟩ : ∃ z, z = L24_X12_goesRound_3 n_110 := ⟨_, rfl⟩
          replace HE : FT = g25l_X12_goesRound_3 R61 (xso SM ad ws_106) x7_105.toInt := HE.trans (by rw [hR61]; rfl)
          refine lv_iload C0.1 C0.2.1 dX12_goesRound_61 (lv_at hl 0 rfl) ?_
          refine lv_iload_n C0.1 C0.2.1 dX12_goesRound_63 rfl (lv_at hl 3 rfl) ?_
          replace HE : FT = g26b_X12_goesRound_3 R61 (xso SM ad ws_106) x7_105.toInt := HE.trans rfl
          refine y_icmp_ge (tgt := 87) C0 dX12_goesRound_64 (by decide) (fun c_114 => ?_) (fun c_114 => ?_)
          · -- 64
            replace HE : FT = g27_X12_goesRound_3 (xso SM ad ws_106) := HE.trans (if_neg (o38_75 l2 u2 al0 ah0 e_3 e_4 qh_5 c_6 b_112 b_113 hn_111 c_114))
            replace HE : FT = ((xso SM ad ws_106), 0) := HE.trans rfl
            rw [hQ]
            exact y_vret C0 h (Fr.tr (Fr.tr (Fr.up u_100.1 kSM_0 (by decide)) (Fr.up u_102.1 kSM_0 (by decide))) (Fr.mono hF_107 (by decide))) (congrArg Prod.fst (HE.symm.trans hFT)) dX12_goesRound_87
          · -- 64
            replace HE : FT = g28_X12_goesRound_3 R61 (xso SM ad ws_106) x7_105.toInt := HE.trans (if_pos (o38_76 l2 u2 al0 ah0 e_3 e_4 qh_5 c_6 b_112 b_113 hn_111 c_114))
            refine lv_aload_n C0.1 C0.2.1 dX12_goesRound_67 rfl (lv_at hl 1 rfl) ?_
            refine ng_X12_bestRow C0 h kSM_0 q_1472 dX12_goesRound_68 ?_
            refine lv_iload C0.1 C0.2.1 dX12_goesRound_71 (lv_at hl 0 rfl) ?_
            refine lv_aload_n C0.1 C0.2.1 dX12_goesRound_73 rfl (lv_at hl 1 rfl) ?_
            refine ng_X12_taken C0 h kSM_0 q_1471 dX12_goesRound_74 ?_
            refine lv_iload C0.1 C0.2.1 dX12_goesRound_77 (lv_at hl 0 rfl) ?_
            refine y_iald C0 h kSM_18 rfl (by decide) (o38_77 l2 u2 al0 ah0 e_3 e_4 qh_5 c_6 b_112 b_113 hn_111 c_114) (o38_78 l2 u2 al0 ah0 e_3 e_4 qh_5 c_6 b_112 b_113 hn_111 c_114) dX12_goesRound_79 (fun v_115 e_116 e_117 e_118 => ?_)
            have hO_121 := h.2
            refine y_iast C0 h kSM_19 rfl (by decide) (o38_77 l2 u2 al0 ah0 e_3 e_4 qh_5 c_6 b_112 b_113 hn_111 c_114) (o38_78 l2 u2 al0 ah0 e_3 e_4 qh_5 c_6 b_112 b_113 hn_111 c_114) (le_min v_115) (le_max v_115) dX12_goesRound_80 (fun H locs ws_119 h u_120 => ?_)
            replace HE : FT = g29w_X12_goesRound_3 R61 (xso SM ad ws_119) x7_105.toInt := HE.trans (by rw [(xso_A (i := 19) hO_121 h.2 kSM_19 rfl u_120), (xg1 e_116 : v_115.toInt = (xso SM ad ws_106) 1 18 x7_105.toInt.toNat)]; rfl)
            refine y_inc (kp := 0) (n := 1) (fun v_122 => [(7, .int v_122), (0, .ref (ad 0)), (1, .int a1), (2, .int a2), (3, .int a3), (4, .int a4), (5, .int a5), (6, .int a6)]) C0 hl rfl (by decide) (by decide) (fun _ => rfl) (o38_79 l2 u2 al0 ah0 e_3 e_4 qh_5 c_6 b_112 b_113 hn_111 c_114 (le_min x7_105) (le_max x7_105) (le_min a2) (le_max a2) (le_min ap0) (le_max ap0) (le_min v_1) (le_max v_1)) (o38_80 l2 u2 al0 ah0 e_3 e_4 qh_5 c_6 b_112 b_113 hn_111 c_114 (le_min x7_105) (le_max x7_105) (le_min a2) (le_max a2) (le_min ap0) (le_max ap0) (le_min v_1) (le_max v_1)) dX12_goesRound_81 (fun v_122 ls e_123 hl => ?_)
            refine lv_goto (tgt := 61) C0.1 C0.2.1 dX12_goesRound_84 (by decide) ?_
            exact ih_109 v_122 _ _ _ _ (o38_81 l2 u2 al0 ah0 e_3 e_4 qh_5 c_6 b_112 b_113 hn_111 c_114 e_123) (o38_82 l2 u2 al0 ah0 e_3 e_4 qh_5 c_6 b_112 b_113 hn_111 c_114 e_123) (o38_83 l2 u2 al0 ah0 e_3 e_4 qh_5 c_6 b_112 b_113 hn_111 c_114 e_123) (((show FT = R61 (xso SM ad ws_119) v_122.toInt from HE.trans (by rw [e_123]; rfl)).trans (by rw [hR61]))) h (Fr.tr hF_107 (Fr.up u_120.1 kSM_19 (by decide))) (lv_sub hl [0, 1, 2, 3, 4, 5, 6, 7] rfl)
      exact lp_108 ((3 - v_103.toInt + 1).toNat) v_103 _ _ _ _ (o38_84 e_104) (o38_19 e_104) (o38_85 e_104) ((show FT = L24_X12_goesRound_3 (Int.toNat (3 - v_103.toInt + 1)) (xso SM ad ws_101) v_103.toInt from HE.trans (by rw [e_104]; rfl))) h Fr.rf (lv_sub hl [0, 1, 2, 3, 4, 5, 6, 7] rfl)
    · -- 15
      replace HE : FT = g21_X12_goesRound_3 (xso SM ad ws0) a5.toInt a6.toInt := HE.trans (if_neg (o38_6 e_97 c_98))
      refine lv_iload C0.1 C0.2.1 dX12_goesRound_18 (lv_at hl 5 rfl) ?_
      refine lv_aload_n C0.1 C0.2.1 dX12_goesRound_20 rfl (lv_at hl 0 rfl) ?_
      refine ng_X12_bestLefts C0 h kSM_0 q_1473 dX12_goesRound_21 (fun v_124 e_125 e_126 e_127 => ?_)
      have qh_128 : v_124.toInt = v_92.toInt := congrArg Int32.toInt (e_125.symm.trans (Eq.trans rfl e_93))
      replace HE : FT = g30b_X12_goesRound_3 (xso SM ad ws0) v_124.toInt a5.toInt a6.toInt := HE.trans (by rw [(xg0 e_125 : v_124.toInt = (xso SM ad ws0) 0 0 35)]; rfl)
      refine y_icmp_gt (tgt := 45) C0 dX12_goesRound_24 (by decide) (fun c_129 => ?_) (fun c_129 => ?_)
      · -- 24
        replace HE : FT = g31_X12_goesRound_3 (xso SM ad ws0) := HE.trans (if_pos c_129)
        replace HE : FT = ((xso SM ad ws0), 0) := HE.trans rfl
        rw [hQ]
        exact y_vret C0 h Fr.rf (congrArg Prod.fst (HE.symm.trans hFT)) dX12_goesRound_45
      · -- 24
        replace HE : FT = g32_X12_goesRound_3 (xso SM ad ws0) a5.toInt a6.toInt := HE.trans (if_neg (Int.not_lt.mpr c_129))
        refine lv_iload C0.1 C0.2.1 dX12_goesRound_27 (lv_at hl 5 rfl) ?_
        refine lv_aload_n C0.1 C0.2.1 dX12_goesRound_29 rfl (lv_at hl 0 rfl) ?_
        refine ng_X12_bestLefts C0 h kSM_0 q_1473 dX12_goesRound_30 (fun v_130 e_131 e_132 e_133 => ?_)
        have qh_134 : v_130.toInt = v_92.toInt := congrArg Int32.toInt (e_131.symm.trans (Eq.trans rfl e_93))
        replace HE : FT = g33b_X12_goesRound_3 (xso SM ad ws0) v_130.toInt a5.toInt a6.toInt := HE.trans (by rw [(xg0 e_131 : v_130.toInt = (xso SM ad ws0) 0 0 35)]; rfl)
        refine y_icmp_ne (tgt := 46) C0 dX12_goesRound_33 (by decide) (fun c_135 => ?_) (fun c_135 => ?_)
        · -- 33
          replace HE : FT = g34_X12_goesRound_3 (xso SM ad ws0) a5.toInt a6.toInt := HE.trans (if_neg c_135)
          refine lv_aload_n C0.1 C0.2.1 dX12_goesRound_46 rfl (lv_at hl 0 rfl) ?_
          refine lv_iload C0.1 C0.2.1 dX12_goesRound_47 (lv_at hl 5 rfl) ?_
          refine np_X12_bestLefts C0 h kSM_0 q_1473 (le_min a5) (le_max a5) dX12_goesRound_49 (fun H locs ws_136 h u_137 Xu_137 => ?_)
          replace HE : FT = g36w_X12_goesRound_3 (xso SM ad ws_136) a6.toInt := HE.trans (by rw [Xu_137]; rfl)
          refine lv_aload_n C0.1 C0.2.1 dX12_goesRound_52 rfl (lv_at hl 0 rfl) ?_
          refine lv_iload C0.1 C0.2.1 dX12_goesRound_53 (lv_at hl 6 rfl) ?_
          refine np_X12_bestStreets C0 h kSM_0 q_1474 (le_min a6) (le_max a6) dX12_goesRound_55 (fun H locs ws_138 h u_139 Xu_139 => ?_)
          replace HE : FT = g37w_X12_goesRound_3 (xso SM ad ws_138) := HE.trans (by rw [Xu_139]; rfl)
          refine y_c1 (n := 0) C0 (by decide) dX12_goesRound_58 (fun v_140 e_141 => ?_)
          refine lv_istore (lv' := [(7, .int v_140), (0, .ref (ad 0)), (1, .int a1), (2, .int a2), (3, .int a3), (4, .int a4), (5, .int a5), (6, .int a6)]) C0.1 C0.2.1 dX12_goesRound_59 hl (by decide) rfl (fun ls hl => ?_)
          have lp_145 : ∀ (n_147 : Nat) (x7_142 : Int32) (H : Heap) (locs : List Loc) (ls : Array Slot) (ws_143 : va_W), 3 - x7_142.toInt < (n_147 : Int) → 0 ≤ x7_142.toInt → x7_142.toInt ≤ 3 → (FT = L38_X12_goesRound_3 n_147 (xso SM ad ws_143) x7_142.toInt) → Wt G SM ad A s H locs ws_143 → Fr SM [19] ws_138 ws_143 → lv_has ls 10 [(7, .int x7_142), (0, .ref (ad 0)), (1, .int a1), (2, .int a2), (3, .int a3), (4, .int a4), (5, .int a5), (6, .int a6)] → W p l e (rmd 9 0 0) s m args below meth c H locs 0 0 Q (F0 m 61 ls []) := by
            intro n_147
            induction n_147 with
            | zero => intro x7_142 H locs ls ws_143 hn_148 b_149 b_150 HE h hF_144 hl; exact ((o38_73 b_149 b_150 hn_148)).elim
            | succ n_147 ih_146 =>
              intro x7_142 H locs ls ws_143 hn_148 b_149 b_150 HE h hF_144 hl
              obtain ⟨R61, hR61⟩ : ∃ z, z = L38_X12_goesRound_3 n_147 := ⟨_, rfl⟩
              replace HE : FT = g39l_X12_goesRound_3 R61 (xso SM ad ws_143) x7_142.toInt := HE.trans (by rw [hR61]; rfl)
              refine lv_iload C0.1 C0.2.1 dX12_goesRound_61 (lv_at hl 0 rfl) ?_
              refine lv_iload_n C0.1 C0.2.1 dX12_goesRound_63 rfl (lv_at hl 3 rfl) ?_
              replace HE : FT = g40b_X12_goesRound_3 R61 (xso SM ad ws_143) x7_142.toInt := HE.trans rfl
              refine y_icmp_ge (tgt := 87) C0 dX12_goesRound_64 (by decide) (fun c_151 => ?_) (fun c_151 => ?_)
              · -- 64
                replace HE : FT = g41_X12_goesRound_3 (xso SM ad ws_143) := HE.trans (if_neg (o38_75 l2 u2 al0 ah0 e_3 e_4 qh_5 c_6 b_149 b_150 hn_148 c_151))
                replace HE : FT = ((xso SM ad ws_143), 0) := HE.trans rfl
                rw [hQ]
                exact y_vret C0 h (Fr.tr (Fr.tr (Fr.up u_137.1 kSM_0 (by decide)) (Fr.up u_139.1 kSM_0 (by decide))) (Fr.mono hF_144 (by decide))) (congrArg Prod.fst (HE.symm.trans hFT)) dX12_goesRound_87
              · -- 64
                replace HE : FT = g42_X12_goesRound_3 R61 (xso SM ad ws_143) x7_142.toInt := HE.trans (if_pos (o38_76 l2 u2 al0 ah0 e_3 e_4 qh_5 c_6 b_149 b_150 hn_148 c_151))
                refine lv_aload_n C0.1 C0.2.1 dX12_goesRound_67 rfl (lv_at hl 1 rfl) ?_
                refine ng_X12_bestRow C0 h kSM_0 q_1472 dX12_goesRound_68 ?_
                refine lv_iload C0.1 C0.2.1 dX12_goesRound_71 (lv_at hl 0 rfl) ?_
                refine lv_aload_n C0.1 C0.2.1 dX12_goesRound_73 rfl (lv_at hl 1 rfl) ?_
                refine ng_X12_taken C0 h kSM_0 q_1471 dX12_goesRound_74 ?_
                refine lv_iload C0.1 C0.2.1 dX12_goesRound_77 (lv_at hl 0 rfl) ?_
                refine y_iald C0 h kSM_18 rfl (by decide) (o38_77 l2 u2 al0 ah0 e_3 e_4 qh_5 c_6 b_149 b_150 hn_148 c_151) (o38_78 l2 u2 al0 ah0 e_3 e_4 qh_5 c_6 b_149 b_150 hn_148 c_151) dX12_goesRound_79 (fun v_152 e_153 e_154 e_155 => ?_)
                have hO_158 := h.2
                refine y_iast C0 h kSM_19 rfl (by decide) (o38_77 l2 u2 al0 ah0 e_3 e_4 qh_5 c_6 b_149 b_150 hn_148 c_151) (o38_78 l2 u2 al0 ah0 e_3 e_4 qh_5 c_6 b_149 b_150 hn_148 c_151) (le_min v_152) (le_max v_152) dX12_goesRound_80 (fun H locs ws_156 h u_157 => ?_)
                replace HE : FT = g43w_X12_goesRound_3 R61 (xso SM ad ws_156) x7_142.toInt := HE.trans (by rw [(xso_A (i := 19) hO_158 h.2 kSM_19 rfl u_157), (xg1 e_153 : v_152.toInt = (xso SM ad ws_143) 1 18 x7_142.toInt.toNat)]; rfl)
                refine y_inc (kp := 0) (n := 1) (fun v_159 => [(7, .int v_159), (0, .ref (ad 0)), (1, .int a1), (2, .int a2), (3, .int a3), (4, .int a4), (5, .int a5), (6, .int a6)]) C0 hl rfl (by decide) (by decide) (fun _ => rfl) (o38_79 l2 u2 al0 ah0 e_3 e_4 qh_5 c_6 b_149 b_150 hn_148 c_151 (le_min x7_142) (le_max x7_142) (le_min a2) (le_max a2) (le_min ap0) (le_max ap0) (le_min v_1) (le_max v_1)) (o38_80 l2 u2 al0 ah0 e_3 e_4 qh_5 c_6 b_149 b_150 hn_148 c_151 (le_min x7_142) (le_max x7_142) (le_min a2) (le_max a2) (le_min ap0) (le_max ap0) (le_min v_1) (le_max v_1)) dX12_goesRound_81 (fun v_159 ls e_160 hl => ?_)
                refine lv_goto (tgt := 61) C0.1 C0.2.1 dX12_goesRound_84 (by decide) ?_
                exact ih_146 v_159 _ _ _ _ (o38_81 l2 u2 al0 ah0 e_3 e_4 qh_5 c_6 b_149 b_150 hn_148 c_151 e_160) (o38_82 l2 u2 al0 ah0 e_3 e_4 qh_5 c_6 b_149 b_150 hn_148 c_151 e_160) (o38_83 l2 u2 al0 ah0 e_3 e_4 qh_5 c_6 b_149 b_150 hn_148 c_151 e_160) (((show FT = R61 (xso SM ad ws_156) v_159.toInt from HE.trans (by rw [e_160]; rfl)).trans (by rw [hR61]))) h (Fr.tr hF_144 (Fr.up u_157.1 kSM_19 (by decide))) (lv_sub hl [0, 1, 2, 3, 4, 5, 6, 7] rfl)
          exact lp_145 ((3 - v_140.toInt + 1).toNat) v_140 _ _ _ _ (o38_84 e_141) (o38_19 e_141) (o38_85 e_141) ((show FT = L38_X12_goesRound_3 (Int.toNat (3 - v_140.toInt + 1)) (xso SM ad ws_138) v_140.toInt from HE.trans (by rw [e_141]; rfl))) h Fr.rf (lv_sub hl [0, 1, 2, 3, 4, 5, 6, 7] rfl)
        · -- 33
          replace HE : FT = g35_X12_goesRound_3 (xso SM ad ws0) a5.toInt a6.toInt := HE.trans (if_pos c_135)
          refine lv_iload C0.1 C0.2.1 dX12_goesRound_36 (lv_at hl 6 rfl) ?_
          refine lv_aload_n C0.1 C0.2.1 dX12_goesRound_38 rfl (lv_at hl 0 rfl) ?_
          refine ng_X12_bestStreets C0 h kSM_0 q_1474 dX12_goesRound_39 (fun v_161 e_162 e_163 e_164 => ?_)
          replace HE : FT = g44b_X12_goesRound_3 (xso SM ad ws0) v_161.toInt a6.toInt a5.toInt := HE.trans (by rw [(xg0 e_162 : v_161.toInt = (xso SM ad ws0) 0 0 36)]; rfl)
          refine y_icmp_lt (tgt := 46) C0 dX12_goesRound_42 (by decide) (fun c_165 => ?_) (fun c_165 => ?_)
          · -- 42
            replace HE : FT = g45_X12_goesRound_3 (xso SM ad ws0) a5.toInt a6.toInt := HE.trans (if_pos c_165)
            refine lv_aload_n C0.1 C0.2.1 dX12_goesRound_46 rfl (lv_at hl 0 rfl) ?_
            refine lv_iload C0.1 C0.2.1 dX12_goesRound_47 (lv_at hl 5 rfl) ?_
            refine np_X12_bestLefts C0 h kSM_0 q_1473 (le_min a5) (le_max a5) dX12_goesRound_49 (fun H locs ws_166 h u_167 Xu_167 => ?_)
            replace HE : FT = g47w_X12_goesRound_3 (xso SM ad ws_166) a6.toInt := HE.trans (by rw [Xu_167]; rfl)
            refine lv_aload_n C0.1 C0.2.1 dX12_goesRound_52 rfl (lv_at hl 0 rfl) ?_
            refine lv_iload C0.1 C0.2.1 dX12_goesRound_53 (lv_at hl 6 rfl) ?_
            refine np_X12_bestStreets C0 h kSM_0 q_1474 (le_min a6) (le_max a6) dX12_goesRound_55 (fun H locs ws_168 h u_169 Xu_169 => ?_)
            replace HE : FT = g48w_X12_goesRound_3 (xso SM ad ws_168) := HE.trans (by rw [Xu_169]; rfl)
            refine y_c1 (n := 0) C0 (by decide) dX12_goesRound_58 (fun v_170 e_171 => ?_)
            refine lv_istore (lv' := [(7, .int v_170), (0, .ref (ad 0)), (1, .int a1), (2, .int a2), (3, .int a3), (4, .int a4), (5, .int a5), (6, .int a6)]) C0.1 C0.2.1 dX12_goesRound_59 hl (by decide) rfl (fun ls hl => ?_)
            have lp_175 : ∀ (n_177 : Nat) (x7_172 : Int32) (H : Heap) (locs : List Loc) (ls : Array Slot) (ws_173 : va_W), 3 - x7_172.toInt < (n_177 : Int) → 0 ≤ x7_172.toInt → x7_172.toInt ≤ 3 → (FT = L49_X12_goesRound_3 n_177 (xso SM ad ws_173) x7_172.toInt) → Wt G SM ad A s H locs ws_173 → Fr SM [19] ws_168 ws_173 → lv_has ls 10 [(7, .int x7_172), (0, .ref (ad 0)), (1, .int a1), (2, .int a2), (3, .int a3), (4, .int a4), (5, .int a5), (6, .int a6)] → W p l e (rmd 9 0 0) s m args below meth c H locs 0 0 Q (F0 m 61 ls []) := by
              intro n_177
              induction n_177 with
              | zero => intro x7_172 H locs ls ws_173 hn_178 b_179 b_180 HE h hF_174 hl; exact ((o38_73 b_179 b_180 hn_178)).elim
              | succ n_177 ih_176 =>
                intro x7_172 H locs ls ws_173 hn_178 b_179 b_180 HE h hF_174 hl
                obtain ⟨R61, hR61⟩ : ∃ z, z = L49_X12_goesRound_3 n_177 := ⟨_, rfl⟩
                replace HE : FT = g50l_X12_goesRound_3 R61 (xso SM ad ws_173) x7_172.toInt := HE.trans (by rw [hR61]; rfl)
                refine lv_iload C0.1 C0.2.1 dX12_goesRound_61 (lv_at hl 0 rfl) ?_
                refine lv_iload_n C0.1 C0.2.1 dX12_goesRound_63 rfl (lv_at hl 3 rfl) ?_
                replace HE : FT = g51b_X12_goesRound_3 R61 (xso SM ad ws_173) x7_172.toInt := HE.trans rfl
                refine y_icmp_ge (tgt := 87) C0 dX12_goesRound_64 (by decide) (fun c_181 => ?_) (fun c_181 => ?_)
                · -- 64
                  replace HE : FT = g52_X12_goesRound_3 (xso SM ad ws_173) := HE.trans (if_neg (o38_75 l2 u2 al0 ah0 e_3 e_4 qh_5 c_6 b_179 b_180 hn_178 c_181))
                  replace HE : FT = ((xso SM ad ws_173), 0) := HE.trans rfl
                  rw [hQ]
                  exact y_vret C0 h (Fr.tr (Fr.tr (Fr.up u_167.1 kSM_0 (by decide)) (Fr.up u_169.1 kSM_0 (by decide))) (Fr.mono hF_174 (by decide))) (congrArg Prod.fst (HE.symm.trans hFT)) dX12_goesRound_87
                · -- 64
                  replace HE : FT = g53_X12_goesRound_3 R61 (xso SM ad ws_173) x7_172.toInt := HE.trans (if_pos (o38_76 l2 u2 al0 ah0 e_3 e_4 qh_5 c_6 b_179 b_180 hn_178 c_181))
                  refine lv_aload_n C0.1 C0.2.1 dX12_goesRound_67 rfl (lv_at hl 1 rfl) ?_
                  refine ng_X12_bestRow C0 h kSM_0 q_1472 dX12_goesRound_68 ?_
                  refine lv_iload C0.1 C0.2.1 dX12_goesRound_71 (lv_at hl 0 rfl) ?_
                  refine lv_aload_n C0.1 C0.2.1 dX12_goesRound_73 rfl (lv_at hl 1 rfl) ?_
                  refine ng_X12_taken C0 h kSM_0 q_1471 dX12_goesRound_74 ?_
                  refine lv_iload C0.1 C0.2.1 dX12_goesRound_77 (lv_at hl 0 rfl) ?_
                  refine y_iald C0 h kSM_18 rfl (by decide) (o38_77 l2 u2 al0 ah0 e_3 e_4 qh_5 c_6 b_179 b_180 hn_178 c_181) (o38_78 l2 u2 al0 ah0 e_3 e_4 qh_5 c_6 b_179 b_180 hn_178 c_181) dX12_goesRound_79 (fun v_182 e_183 e_184 e_185 => ?_)
                  have hO_188 := h.2
                  refine y_iast C0 h kSM_19 rfl (by decide) (o38_77 l2 u2 al0 ah0 e_3 e_4 qh_5 c_6 b_179 b_180 hn_178 c_181) (o38_78 l2 u2 al0 ah0 e_3 e_4 qh_5 c_6 b_179 b_180 hn_178 c_181) (le_min v_182) (le_max v_182) dX12_goesRound_80 (fun H locs ws_186 h u_187 => ?_)
                  replace HE : FT = g54w_X12_goesRound_3 R61 (xso SM ad ws_186) x7_172.toInt := HE.trans (by rw [(xso_A (i := 19) hO_188 h.2 kSM_19 rfl u_187), (xg1 e_183 : v_182.toInt = (xso SM ad ws_173) 1 18 x7_172.toInt.toNat)]; rfl)
                  refine y_inc (kp := 0) (n := 1) (fun v_189 => [(7, .int v_189), (0, .ref (ad 0)), (1, .int a1), (2, .int a2), (3, .int a3), (4, .int a4), (5, .int a5), (6, .int a6)]) C0 hl rfl (by decide) (by decide) (fun _ => rfl) (o38_79 l2 u2 al0 ah0 e_3 e_4 qh_5 c_6 b_179 b_180 hn_178 c_181 (le_min x7_172) (le_max x7_172) (le_min a2) (le_max a2) (le_min ap0) (le_max ap0) (le_min v_1) (le_max v_1)) (o38_80 l2 u2 al0 ah0 e_3 e_4 qh_5 c_6 b_179 b_180 hn_178 c_181 (le_min x7_172) (le_max x7_172) (le_min a2) (le_max a2) (le_min ap0) (le_max ap0) (le_min v_1) (le_max v_1)) dX12_goesRound_81 (fun v_189 ls e_190 hl => ?_)
                  refine lv_goto (tgt := 61) C0.1 C0.2.1 dX12_goesRound_84 (by decide) ?_
                  exact ih_176 v_189 _ _ _ _ (o38_81 l2 u2 al0 ah0 e_3 e_4 qh_5 c_6 b_179 b_180 hn_178 c_181 e_190) (o38_82 l2 u2 al0 ah0 e_3 e_4 qh_5 c_6 b_179 b_180 hn_178 c_181 e_190) (o38_83 l2 u2 al0 ah0 e_3 e_4 qh_5 c_6 b_179 b_180 hn_178 c_181 e_190) (((show FT = R61 (xso SM ad ws_186) v_189.toInt from HE.trans (by rw [e_190]; rfl)).trans (by rw [hR61]))) h (Fr.tr hF_174 (Fr.up u_187.1 kSM_19 (by decide))) (lv_sub hl [0, 1, 2, 3, 4, 5, 6, 7] rfl)
            exact lp_175 ((3 - v_170.toInt + 1).toNat) v_170 _ _ _ _ (o38_84 e_171) (o38_19 e_171) (o38_85 e_171) ((show FT = L49_X12_goesRound_3 (Int.toNat (3 - v_170.toInt + 1)) (xso SM ad ws_168) v_170.toInt from HE.trans (by rw [e_171]; rfl))) h Fr.rf (lv_sub hl [0, 1, 2, 3, 4, 5, 6, 7] rfl)
          · -- 42
            replace HE : FT = g46_X12_goesRound_3 (xso SM ad ws0) := HE.trans (if_neg (Int.not_lt.mpr c_165))
            replace HE : FT = ((xso SM ad ws0), 0) := HE.trans rfl
            rw [hQ]
            exact y_vret C0 h Fr.rf (congrArg Prod.fst (HE.symm.trans hFT)) dX12_goesRound_45
noncomputable def g7_X12_goesRound_2 (s : XS) : XR := (s, 0)
noncomputable def g18c_X12_goesRound_2 (R91 : XS → Int → Int → Int → Int → Int → Int → XR) (s : XS) (a1 : Int) (a3 : Int) (a4 : Int) (a5 : Int) (a6 : Int) (x7_9 : Int) : XR := R91 s a1 a3 a4 a5 a6 ((x7_9 + 1))
noncomputable def g17w_X12_goesRound_2 (R91 : XS → Int → Int → Int → Int → Int → Int → XR) (s : XS) (a1 : Int) (a3 : Int) (a4 : Int) (a5 : Int) (a6 : Int) (x7_9 : Int) (r_50 : Int) : XR := g18c_X12_goesRound_2 R91 ((f_X12_goesRound_3 s a1 (2 + 1) (Xior a3 (Xishl 1 x7_9)) (s 0 0 28) (Xiadd a5 r_50) (Xiadd a6 (s 0 0 37))).1) a1 a3 a4 a5 a6 x7_9
noncomputable def g15_X12_goesRound_2 (R91 : XS → Int → Int → Int → Int → Int → Int → XR) (s : XS) (a1 : Int) (a3 : Int) (a4 : Int) (a5 : Int) (a6 : Int) (x7_9 : Int) (v_45 : Int) (r_50 : Int) : XR := g17w_X12_goesRound_2 R91 (xup s 1 18 (Int.toNat 2) (v_45)) a1 a3 a4 a5 a6 x7_9 r_50
noncomputable def g16_X12_goesRound_2 (R91 : XS → Int → Int → Int → Int → Int → Int → XR) (s : XS) (a1 : Int) (a3 : Int) (a4 : Int) (a5 : Int) (a6 : Int) (x7_9 : Int) : XR := R91 s a1 a3 a4 a5 a6 ((x7_9 + 1))
noncomputable def g14b_X12_goesRound_2 (R91 : XS → Int → Int → Int → Int → Int → Int → XR) (s : XS) (r_50 : Int) (a1 : Int) (a3 : Int) (a4 : Int) (a5 : Int) (a6 : Int) (x7_9 : Int) (v_45 : Int) : XR := if r_50 = 1000000000 then g16_X12_goesRound_2 R91 s a1 a3 a4 a5 a6 x7_9 else g15_X12_goesRound_2 R91 s a1 a3 a4 a5 a6 x7_9 v_45 r_50
noncomputable def g13c_X12_goesRound_2 (R91 : XS → Int → Int → Int → Int → Int → Int → XR) (s : XS) (r_50 : Int) (a1 : Int) (a3 : Int) (a4 : Int) (a5 : Int) (a6 : Int) (x7_9 : Int) (v_45 : Int) : XR := g14b_X12_goesRound_2 R91 s r_50 a1 a3 a4 a5 a6 x7_9 v_45
noncomputable def g11_X12_goesRound_2 (R91 : XS → Int → Int → Int → Int → Int → Int → XR) (s : XS) (a1 : Int) (a3 : Int) (a4 : Int) (a5 : Int) (a6 : Int) (x7_9 : Int) : XR := g13c_X12_goesRound_2 R91 ((f_X12_leg s a4 a6 ((s 2 25 (Int.toNat ((40 * a1) + x7_9))))).1) (((f_X12_leg s a4 a6 ((s 2 25 (Int.toNat ((40 * a1) + x7_9))))).2)) a1 a3 a4 a5 a6 x7_9 (((s 2 25 (Int.toNat ((40 * a1) + x7_9)))))
noncomputable def g12_X12_goesRound_2 (R91 : XS → Int → Int → Int → Int → Int → Int → XR) (s : XS) (a1 : Int) (a3 : Int) (a4 : Int) (a5 : Int) (a6 : Int) (x7_9 : Int) : XR := R91 s a1 a3 a4 a5 a6 ((x7_9 + 1))
noncomputable def g10b_X12_goesRound_2 (R91 : XS → Int → Int → Int → Int → Int → Int → XR) (s : XS) (r_29 : Int) (a1 : Int) (a3 : Int) (a4 : Int) (a5 : Int) (a6 : Int) (x7_9 : Int) : XR := if r_29 = 0 then g11_X12_goesRound_2 R91 s a1 a3 a4 a5 a6 x7_9 else g12_X12_goesRound_2 R91 s a1 a3 a4 a5 a6 x7_9
noncomputable def g9c_X12_goesRound_2 (R91 : XS → Int → Int → Int → Int → Int → Int → XR) (s : XS) (r_29 : Int) (a1 : Int) (a3 : Int) (a4 : Int) (a5 : Int) (a6 : Int) (x7_9 : Int) : XR := g10b_X12_goesRound_2 R91 s r_29 a1 a3 a4 a5 a6 x7_9
noncomputable def g8_X12_goesRound_2 (R91 : XS → Int → Int → Int → Int → Int → Int → XR) (s : XS) (a1 : Int) (a3 : Int) (a4 : Int) (a5 : Int) (a6 : Int) (x7_9 : Int) : XR := g9c_X12_goesRound_2 R91 ((f_X12_isIn s a3 x7_9).1) (((f_X12_isIn s a3 x7_9).2)) a1 a3 a4 a5 a6 x7_9
noncomputable def g6b_X12_goesRound_2 (R91 : XS → Int → Int → Int → Int → Int → Int → XR) (s : XS) (v_18 : Int) (x7_9 : Int) (a1 : Int) (a3 : Int) (a4 : Int) (a5 : Int) (a6 : Int) : XR := if x7_9 < v_18 then g8_X12_goesRound_2 R91 s a1 a3 a4 a5 a6 x7_9 else g7_X12_goesRound_2 s
noncomputable def g5l_X12_goesRound_2 (R91 : XS → Int → Int → Int → Int → Int → Int → XR) (s : XS) (a1 : Int) (a3 : Int) (a4 : Int) (a5 : Int) (a6 : Int) (x7_9 : Int) : XR := g6b_X12_goesRound_2 R91 s ((s 1 24 (Int.toNat a1))) x7_9 a1 a3 a4 a5 a6
noncomputable def L4_X12_goesRound_2 (n : Nat) : XS → Int → Int → Int → Int → Int → Int → XR := Nat.rec (motive := fun _ => XS → Int → Int → Int → Int → Int → Int → XR) (fun s _ _ _ _ _ _ => (s, 0)) (fun _ R91 => g5l_X12_goesRound_2 R91) n
noncomputable def g2_X12_goesRound_2 (s : XS) (a1 : Int) (a3 : Int) (a4 : Int) (a5 : Int) (a6 : Int) : XR := L4_X12_goesRound_2 (Int.toNat (4 - 0 + 1)) s a1 a3 a4 a5 a6 0
noncomputable def g27_X12_goesRound_2 (s : XS) : XR := (s, 0)
noncomputable def g29w_X12_goesRound_2 (R61 : XS → Int → XR) (s : XS) (x7_105 : Int) : XR := R61 s ((x7_105 + 1))
noncomputable def g28_X12_goesRound_2 (R61 : XS → Int → XR) (s : XS) (x7_105 : Int) : XR := g29w_X12_goesRound_2 R61 (xup s 1 19 (Int.toNat x7_105) ((s 1 18 (Int.toNat x7_105)))) x7_105
noncomputable def g26b_X12_goesRound_2 (R61 : XS → Int → XR) (s : XS) (x7_105 : Int) : XR := if x7_105 < 2 then g28_X12_goesRound_2 R61 s x7_105 else g27_X12_goesRound_2 s
noncomputable def g25l_X12_goesRound_2 (R61 : XS → Int → XR) (s : XS) (x7_105 : Int) : XR := g26b_X12_goesRound_2 R61 s x7_105
noncomputable def L24_X12_goesRound_2 (n : Nat) : XS → Int → XR := Nat.rec (motive := fun _ => XS → Int → XR) (fun s _ => (s, 0)) (fun _ R61 => g25l_X12_goesRound_2 R61) n
noncomputable def g23w_X12_goesRound_2 (s : XS) : XR := L24_X12_goesRound_2 (Int.toNat (2 - 0 + 1)) s 0
noncomputable def g22w_X12_goesRound_2 (s : XS) (a6 : Int) : XR := g23w_X12_goesRound_2 (xup s 0 0 36 a6)
noncomputable def g20_X12_goesRound_2 (s : XS) (a5 : Int) (a6 : Int) : XR := g22w_X12_goesRound_2 (xup s 0 0 35 a5) a6
noncomputable def g31_X12_goesRound_2 (s : XS) : XR := (s, 0)
noncomputable def g41_X12_goesRound_2 (s : XS) : XR := (s, 0)
noncomputable def g43w_X12_goesRound_2 (R61 : XS → Int → XR) (s : XS) (x7_142 : Int) : XR := R61 s ((x7_142 + 1))
noncomputable def g42_X12_goesRound_2 (R61 : XS → Int → XR) (s : XS) (x7_142 : Int) : XR := g43w_X12_goesRound_2 R61 (xup s 1 19 (Int.toNat x7_142) ((s 1 18 (Int.toNat x7_142)))) x7_142
noncomputable def g40b_X12_goesRound_2 (R61 : XS → Int → XR) (s : XS) (x7_142 : Int) : XR := if x7_142 < 2 then g42_X12_goesRound_2 R61 s x7_142 else g41_X12_goesRound_2 s
noncomputable def g39l_X12_goesRound_2 (R61 : XS → Int → XR) (s : XS) (x7_142 : Int) : XR := g40b_X12_goesRound_2 R61 s x7_142
noncomputable def L38_X12_goesRound_2 (n : Nat) : XS → Int → XR := Nat.rec (motive := fun _ => XS → Int → XR) (fun s _ => (s, 0)) (fun _ R61 => g39l_X12_goesRound_2 R61) n
noncomputable def g37w_X12_goesRound_2 (s : XS) : XR := L38_X12_goesRound_2 (Int.toNat (2 - 0 + 1)) s 0
noncomputable def g36w_X12_goesRound_2 (s : XS) (a6 : Int) : XR := g37w_X12_goesRound_2 (xup s 0 0 36 a6)
noncomputable def g34_X12_goesRound_2 (s : XS) (a5 : Int) (a6 : Int) : XR := g36w_X12_goesRound_2 (xup s 0 0 35 a5) a6
noncomputable def g52_X12_goesRound_2 (s : XS) : XR := (s, 0)
noncomputable def g54w_X12_goesRound_2 (R61 : XS → Int → XR) (s : XS) (x7_172 : Int) : XR := R61 s ((x7_172 + 1))
noncomputable def g53_X12_goesRound_2 (R61 : XS → Int → XR) (s : XS) (x7_172 : Int) : XR := g54w_X12_goesRound_2 R61 (xup s 1 19 (Int.toNat x7_172) ((s 1 18 (Int.toNat x7_172)))) x7_172
noncomputable def g51b_X12_goesRound_2 (R61 : XS → Int → XR) (s : XS) (x7_172 : Int) : XR := if x7_172 < 2 then g53_X12_goesRound_2 R61 s x7_172 else g52_X12_goesRound_2 s
noncomputable def g50l_X12_goesRound_2 (R61 : XS → Int → XR) (s : XS) (x7_172 : Int) : XR := g51b_X12_goesRound_2 R61 s x7_172
noncomputable def L49_X12_goesRound_2 (n : Nat) : XS → Int → XR := Nat.rec (motive := fun _ => XS → Int → XR) (fun s _ => (s, 0)) (fun _ R61 => g50l_X12_goesRound_2 R61) n
noncomputable def g48w_X12_goesRound_2 (s : XS) : XR := L49_X12_goesRound_2 (Int.toNat (2 - 0 + 1)) s 0
noncomputable def g47w_X12_goesRound_2 (s : XS) (a6 : Int) : XR := g48w_X12_goesRound_2 (xup s 0 0 36 a6)
noncomputable def g45_X12_goesRound_2 (s : XS) (a5 : Int) (a6 : Int) : XR := g47w_X12_goesRound_2 (xup s 0 0 35 a5) a6
noncomputable def g46_X12_goesRound_2 (s : XS) : XR := (s, 0)
noncomputable def g44b_X12_goesRound_2 (s : XS) (v_161 : Int) (a6 : Int) (a5 : Int) : XR := if a6 < v_161 then g45_X12_goesRound_2 s a5 a6 else g46_X12_goesRound_2 s
noncomputable def g35_X12_goesRound_2 (s : XS) (a5 : Int) (a6 : Int) : XR := g44b_X12_goesRound_2 s ((s 0 0 36)) a6 a5
noncomputable def g33b_X12_goesRound_2 (s : XS) (v_130 : Int) (a5 : Int) (a6 : Int) : XR := if a5 = v_130 then g35_X12_goesRound_2 s a5 a6 else g34_X12_goesRound_2 s a5 a6
noncomputable def g32_X12_goesRound_2 (s : XS) (a5 : Int) (a6 : Int) : XR := g33b_X12_goesRound_2 s ((s 0 0 35)) a5 a6
noncomputable def g30b_X12_goesRound_2 (s : XS) (v_124 : Int) (a5 : Int) (a6 : Int) : XR := if v_124 < a5 then g31_X12_goesRound_2 s else g32_X12_goesRound_2 s a5 a6
noncomputable def g21_X12_goesRound_2 (s : XS) (a5 : Int) (a6 : Int) : XR := g30b_X12_goesRound_2 s ((s 0 0 35)) a5 a6
noncomputable def g19b_X12_goesRound_2 (s : XS) (v_92 : Int) (a5 : Int) (a6 : Int) : XR := if v_92 = ((-1)) then g20_X12_goesRound_2 s a5 a6 else g21_X12_goesRound_2 s a5 a6
noncomputable def g3_X12_goesRound_2 (s : XS) (a5 : Int) (a6 : Int) : XR := g19b_X12_goesRound_2 s ((s 0 0 35)) a5 a6
noncomputable def g1b_X12_goesRound_2 (s : XS) (v_1 : Int) (a1 : Int) (a3 : Int) (a4 : Int) (a5 : Int) (a6 : Int) : XR := if 2 = v_1 then g3_X12_goesRound_2 s a5 a6 else g2_X12_goesRound_2 s a1 a3 a4 a5 a6
noncomputable def f_X12_goesRound_2 (s : XS) (a1 : Int) (a2 : Int) (a3 : Int) (a4 : Int) (a5 : Int) (a6 : Int) : XR := g1b_X12_goesRound_2 s ((s 1 24 (Int.toNat a1))) a1 a3 a4 a5 a6
set_option maxHeartbeats 4000000 in
set_option maxRecDepth 100000 in
theorem c_X12_goesRound_2 (l : Launch) (G : GG) (Z : RZ) (ad : Nat → Nat) (ws0 : va_W) (hT : Ty G SM ad ws0) (a1 : Int32) (a2 : Int32) (a3 : Int32) (a4 : Int32) (a5 : Int32) (a6 : Int32) (l1 : 0 ≤ a1.toInt) (u1 : a1.toInt ≤ 3) (l2 : 2 ≤ a2.toInt) (u2 : a2.toInt ≤ 2) (l4 : 0 ≤ a4.toInt) (u4 : a4.toInt ≤ 99) (al0 : 2 ≤ (aI ws0 24 a1.toInt.toNat).toInt) (ah0 : (aI ws0 24 a1.toInt.toNat).toInt ≤ 4) (hN : NumOk ws0 a1) (hJ : J ws0) (hLd : Laid ws0) : Mq l yX12_goesRound cX12_goesRound 10 none 10 G Z [.ref (ad 0), .int a1, .int a2, .int a3, .int a4, .int a5, .int a6] ws0 (PV G SM ad [0, 5, 8, 9, 10, 11, 12, 13, 18, 19] ws0 (fun u => (xso SM ad u = (f_X12_goesRound_2 (xso SM ad ws0) a1.toInt a2.toInt a3.toInt a4.toInt a5.toInt a6.toInt).1))) := by
  refine Mq.start (by decide) (Nat.le_of_ble_eq_true rfl) ?_
  intro p e s m below meth c A ls C0 hZ h hl
  have hl : lv_has ls 10 [(0, .ref (ad 0)), (1, .int a1), (2, .int a2), (3, .int a3), (4, .int a4), (5, .int a5), (6, .int a6)] := hl
  have h : Wt G SM ad A s s.heap [] ws0 := ⟨h, hT⟩
  obtain ⟨args, hargs⟩ : ∃ z, z = ([.ref (ad 0), .int a1, .int a2, .int a3, .int a4, .int a5, .int a6] : List Value).toArray := ⟨_, rfl⟩
  rw [← hargs] at C0 ⊢
  have C0 : Cx p s m args meth c RX12 cX12_goesRound 10 none := C0
  obtain ⟨Q, hQ⟩ : ∃ z, z = MQ below ((PV G SM ad [0, 5, 8, 9, 10, 11, 12, 13, 18, 19] ws0 (fun u => (xso SM ad u = (f_X12_goesRound_2 (xso SM ad ws0) a1.toInt a2.toInt a3.toInt a4.toInt a5.toInt a6.toInt).1))) A) args s 0 0 A := ⟨_, rfl⟩
  rw [← hQ]
  obtain ⟨FT, hFT⟩ : ∃ z, z = f_X12_goesRound_2 (xso SM ad ws0) a1.toInt a2.toInt a3.toInt a4.toInt a5.toInt a6.toInt := ⟨_, rfl⟩
  have HE : FT = f_X12_goesRound_2 (xso SM ad ws0) a1.toInt a2.toInt a3.toInt a4.toInt a5.toInt a6.toInt := hFT
  obtain ⟨ap0, ea0⟩ : ∃ v, aI ws0 24 a1.toInt.toNat = v := ⟨_, rfl⟩
  rw [ea0] at al0 ah0
  refine lv_iload_n C0.1 C0.2.1 dX12_goesRound_0 rfl (lv_at hl 2 rfl) ?_
  refine lv_aload_n C0.1 C0.2.1 dX12_goesRound_1 rfl (lv_at hl 0 rfl) ?_
  refine ng_X12_rowMany C0 h kSM_0 q_1480 dX12_goesRound_2 ?_
  refine lv_iload_n C0.1 C0.2.1 dX12_goesRound_5 rfl (lv_at hl 1 rfl) ?_
  refine y_iald C0 h kSM_24 rfl (by decide) (o38_1 l1 u1) (o38_2 l1 u1) dX12_goesRound_6 (fun v_1 e_2 e_3 e_4 => ?_)
  have qh_5 : v_1.toInt = ap0.toInt := congrArg Int32.toInt (e_2.symm.trans (Eq.trans rfl (Eq.trans rfl ea0)))
  replace HE : FT = g1b_X12_goesRound_2 (xso SM ad ws0) v_1.toInt a1.toInt a3.toInt a4.toInt a5.toInt a6.toInt := HE.trans (by rw [(xg1 e_2 : v_1.toInt = (xso SM ad ws0) 1 24 a1.toInt.toNat)]; rfl)
  refine y_icmp_ne (tgt := 88) C0 dX12_goesRound_7 (by decide) (fun c_6 => ?_) (fun c_6 => ?_)
  · -- 7
    replace HE : FT = g2_X12_goesRound_2 (xso SM ad ws0) a1.toInt a3.toInt a4.toInt a5.toInt a6.toInt := HE.trans (if_neg (o38_87 l2 u2 al0 ah0 e_3 e_4 qh_5 c_6))
    refine y_c1 (n := 0) C0 (by decide) dX12_goesRound_88 (fun v_7 e_8 => ?_)
    refine lv_istore (lv' := [(7, .int v_7), (0, .ref (ad 0)), (1, .int a1), (2, .int a2), (3, .int a3), (4, .int a4), (5, .int a5), (6, .int a6)]) C0.1 C0.2.1 dX12_goesRound_89 hl (by decide) rfl (fun ls hl => ?_)
    have lp_12 : ∀ (n_14 : Nat) (x7_9 : Int32) (H : Heap) (locs : List Loc) (ls : Array Slot) (ws_10 : va_W), 4 - x7_9.toInt < (n_14 : Int) → 0 ≤ x7_9.toInt → x7_9.toInt ≤ 4 → (FT = L4_X12_goesRound_2 n_14 (xso SM ad ws_10) a1.toInt a3.toInt a4.toInt a5.toInt a6.toInt x7_9.toInt) → Wt G SM ad A s H locs ws_10 → Fr SM [0, 5, 8, 9, 10, 11, 12, 13, 18, 19] ws0 ws_10 → lv_has ls 10 [(7, .int x7_9), (0, .ref (ad 0)), (1, .int a1), (2, .int a2), (3, .int a3), (4, .int a4), (5, .int a5), (6, .int a6)] → W p l e (rmd 10 0 0) s m args below meth c H locs 0 0 Q (F0 m 91 ls []) := by
      intro n_14
      induction n_14 with
      | zero => intro x7_9 H locs ls ws_10 hn_15 b_16 b_17 HE h hF_11 hl; exact ((o38_7 b_16 b_17 hn_15)).elim
      | succ n_14 ih_13 =>
        intro x7_9 H locs ls ws_10 hn_15 b_16 b_17 HE h hF_11 hl
        obtain ⟨R91, hR91⟩ : ∃ z, z = L4_X12_goesRound_2 n_14 := ⟨_, rfl⟩
        replace HE : FT = g5l_X12_goesRound_2 R91 (xso SM ad ws_10) a1.toInt a3.toInt a4.toInt a5.toInt a6.toInt x7_9.toInt := HE.trans (by rw [hR91]; rfl)
        refine lv_iload C0.1 C0.2.1 dX12_goesRound_91 (lv_at hl 0 rfl) ?_
        refine lv_aload_n C0.1 C0.2.1 dX12_goesRound_93 rfl (lv_at hl 1 rfl) ?_
        refine ng_X12_rowMany C0 h kSM_0 q_1480 dX12_goesRound_94 ?_
        refine lv_iload_n C0.1 C0.2.1 dX12_goesRound_97 rfl (lv_at hl 2 rfl) ?_
        refine y_iald C0 h kSM_24 rfl (by decide) (o38_1 l1 u1) (o38_2 l1 u1) dX12_goesRound_98 (fun v_18 e_19 e_20 e_21 => ?_)
        have qh_22 : v_18.toInt = ap0.toInt := congrArg Int32.toInt (e_19.symm.trans (Eq.trans rfl (Eq.trans (Fr.aI hF_11 kSM_24 (by decide)) ea0)))
        replace HE : FT = g6b_X12_goesRound_2 R91 (xso SM ad ws_10) v_18.toInt x7_9.toInt a1.toInt a3.toInt a4.toInt a5.toInt a6.toInt := HE.trans (by rw [(xg1 e_19 : v_18.toInt = (xso SM ad ws_10) 1 24 a1.toInt.toNat)]; rfl)
        refine y_icmp_ge (tgt := 197) C0 dX12_goesRound_99 (by decide) (fun c_23 => ?_) (fun c_23 => ?_)
        · -- 99
          replace HE : FT = g7_X12_goesRound_2 (xso SM ad ws_10) := HE.trans (if_neg (Int.not_lt.mpr c_23))
          replace HE : FT = ((xso SM ad ws_10), 0) := HE.trans rfl
          rw [hQ]
          exact y_vret C0 h hF_11 (congrArg Prod.fst (HE.symm.trans hFT)) dX12_goesRound_197
        · -- 99
          replace HE : FT = g8_X12_goesRound_2 R91 (xso SM ad ws_10) a1.toInt a3.toInt a4.toInt a5.toInt a6.toInt x7_9.toInt := HE.trans (if_pos c_23)
          refine lv_iload_n C0.1 C0.2.1 dX12_goesRound_102 rfl (lv_at hl 4 rfl) ?_
          refine y_i2l C0 dX12_goesRound_103 (fun w_24 e_25 => ?_)
          refine lv_iload C0.1 C0.2.1 dX12_goesRound_104 (lv_at hl 0 rfl) ?_
          refine y_ci h (y_rS (As := [.long w_24, .int x7_9]) (rest := []) C0 hZ h (c_X12_isIn l G Z ad _ h.2 w_24 x7_9) k_X12_isIn q_1716 q_1715 hl.1 rfl rfl (Nat.le_of_ble_eq_true rfl) dX12_goesRound_106 ⟨Nat.le_of_ble_eq_true rfl, Nat.le_of_ble_eq_true rfl⟩ ⟨Nat.le_of_ble_eq_true rfl, Nat.le_of_ble_eq_true rfl⟩) (fun r_29 H locs ws_26 h u_27 p_28 => ?_)
          obtain ⟨e_30, e_31, e_32, e_33, e_34⟩ := p_28
          replace HE : FT = g9c_X12_goesRound_2 R91 (xso SM ad ws_26) r_29.toInt a1.toInt a3.toInt a4.toInt a5.toInt a6.toInt x7_9.toInt := HE.trans (by rw [e_30, e_31, e_25]; rfl)
          replace HE : FT = g10b_X12_goesRound_2 R91 (xso SM ad ws_26) r_29.toInt a1.toInt a3.toInt a4.toInt a5.toInt a6.toInt x7_9.toInt := HE.trans rfl
          refine y_if_eq (tgt := 115) C0 dX12_goesRound_109 (by decide) (fun c_35 => ?_) (fun c_35 => ?_)
          · -- 109
            replace HE : FT = g11_X12_goesRound_2 R91 (xso SM ad ws_26) a1.toInt a3.toInt a4.toInt a5.toInt a6.toInt x7_9.toInt := HE.trans (if_pos c_35)
            refine lv_aload_n C0.1 C0.2.1 dX12_goesRound_115 rfl (lv_at hl 1 rfl) ?_
            refine ng_X12_numbers C0 h kSM_0 q_1481 dX12_goesRound_116 ?_
            refine y_c2 (n := 40) C0 (by decide) dX12_goesRound_119 (fun v_36 e_37 => ?_)
            refine lv_iload_n C0.1 C0.2.1 dX12_goesRound_121 rfl (lv_at hl 2 rfl) ?_
            refine y_cmul (n := 40) C0 (o38_27 e_37) (o38_28 l1 u1 (le_min a1) (le_max a1)) (o38_29 l1 u1 (le_min a1) (le_max a1)) dX12_goesRound_122 (fun v_38 e_39 => ?_)
            refine lv_iload C0.1 C0.2.1 dX12_goesRound_123 (lv_at hl 0 rfl) ?_
            refine y_add C0 (o38_89 l1 u1 l2 u2 al0 ah0 e_3 e_4 qh_5 c_6 b_16 b_17 hn_15 e_20 e_21 qh_22 c_23 e_39 (le_min v_38) (le_max v_38) (le_min x7_9) (le_max x7_9) (le_min a1) (le_max a1) (le_min a2) (le_max a2) (le_min ap0) (le_max ap0) (le_min v_1) (le_max v_1) (le_min v_18) (le_max v_18)) (o38_90 l1 u1 l2 u2 al0 ah0 e_3 e_4 qh_5 c_6 b_16 b_17 hn_15 e_20 e_21 qh_22 c_23 e_39 (le_min v_38) (le_max v_38) (le_min x7_9) (le_max x7_9) (le_min a1) (le_max a1) (le_min a2) (le_max a2) (le_min ap0) (le_max ap0) (le_min v_1) (le_max v_1) (le_min v_18) (le_max v_18)) dX12_goesRound_125 (fun v_40 e_41 => ?_)
            refine y_lald C0 h kSM_25 rfl (by decide) (o38_91 l1 u1 l2 u2 al0 ah0 e_3 e_4 qh_5 c_6 b_16 b_17 hn_15 e_20 e_21 qh_22 c_23 e_39 e_41) (o38_92 l1 u1 l2 u2 al0 ah0 e_3 e_4 qh_5 c_6 b_16 b_17 hn_15 e_20 e_21 qh_22 c_23 e_39 e_41) dX12_goesRound_126 (fun w_42 e_43 => ?_)
            have g_44 := num_at (NumOk.fr (M := [0, 5, 8, 9, 10, 11, 12, 13, 18, 19]) hN (Fr.tr hF_11 (Fr.mono u_27 (by decide))) (by decide) (by decide)) (Eq.trans rfl (Eq.trans (Eq.trans (Fr.aI u_27 kSM_24 (by decide)) (Fr.aI hF_11 kSM_24 (by decide))) ea0)) (o38_93 l1 u1 l2 u2 al0 ah0 e_3 e_4 qh_5 c_6 b_16 b_17 hn_15 e_20 e_21 qh_22 c_23 e_39 e_41) (o38_94 l1 u1 l2 u2 al0 ah0 e_3 e_4 qh_5 c_6 b_16 b_17 hn_15 e_20 e_21 qh_22 c_23 e_39 e_41) e_43
            refine y_l2i C0 (o38_36 g_44.1 g_44.2) (o38_37 g_44.1 g_44.2) dX12_goesRound_127 (fun v_45 e_46 => ?_)
            refine lv_istore (lv' := [(8, .int v_45), (7, .int x7_9), (0, .ref (ad 0)), (1, .int a1), (2, .int a2), (3, .int a3), (4, .int a4), (5, .int a5), (6, .int a6)]) C0.1 C0.2.1 dX12_goesRound_128 hl (by decide) rfl (fun ls hl => ?_)
            refine lv_aload_n C0.1 C0.2.1 dX12_goesRound_130 rfl (lv_at hl 2 rfl) ?_
            refine lv_iload C0.1 C0.2.1 dX12_goesRound_131 (lv_at hl 6 rfl) ?_
            refine lv_iload C0.1 C0.2.1 dX12_goesRound_133 (lv_at hl 8 rfl) ?_
            refine lv_iload C0.1 C0.2.1 dX12_goesRound_135 (lv_at hl 0 rfl) ?_
            refine y_ci h (y_rV (As := [.int a4, .int a6, .int v_45]) (rest := []) C0 hZ h (c_X12_leg l G Z ad _ h.2 a4 a6 v_45 (o38_38 l4 u4) (o38_39 l4 u4) (o38_40 g_44.1 g_44.2 e_46) (o38_41 g_44.1 g_44.2 e_46) (J.pa hT hJ (Pa.tr (Pa.fr hF_11 (by decide)) (Pa.fr u_27 (by decide)))) (Laid.pa hLd (Pa.tr (Pa.fr hF_11 (by decide)) (Pa.fr u_27 (by decide))))) k_X12_leg q_1970 q_114 q_1968 kSM_0 rfl rfl rfl hl.1 rfl rfl (Nat.le_of_ble_eq_true rfl) dX12_goesRound_137 ⟨Nat.le_of_ble_eq_true rfl, Nat.le_of_ble_eq_true rfl⟩ ⟨Nat.le_of_ble_eq_true rfl, Nat.le_of_ble_eq_true rfl⟩) (fun r_50 H locs ws_47 h u_48 p_49 => ?_)
            obtain ⟨e_51, e_52⟩ := p_49
            replace HE : FT = g13c_X12_goesRound_2 R91 (xso SM ad ws_47) r_50.toInt a1.toInt a3.toInt a4.toInt a5.toInt a6.toInt x7_9.toInt v_45.toInt := HE.trans (by rw [e_51, e_52, e_46, (xg2 e_43 : w_42.toInt = (xso SM ad ws_26) 2 25 v_40.toInt.toNat), e_41, e_39]; rfl)
            refine lv_istore (lv' := [(9, .int r_50), (8, .int v_45), (7, .int x7_9), (0, .ref (ad 0)), (1, .int a1), (2, .int a2), (3, .int a3), (4, .int a4), (5, .int a5), (6, .int a6)]) C0.1 C0.2.1 dX12_goesRound_140 hl (by decide) rfl (fun ls hl => ?_)
            refine lv_iload C0.1 C0.2.1 dX12_goesRound_142 (lv_at hl 0 rfl) ?_
            refine y_c5 (n := 1000000000) C0 q_1887 (by decide) dX12_goesRound_144 (fun v_53 e_54 => ?_)
            replace HE : FT = g14b_X12_goesRound_2 R91 (xso SM ad ws_47) r_50.toInt a1.toInt a3.toInt a4.toInt a5.toInt a6.toInt x7_9.toInt v_45.toInt := HE.trans rfl
            refine y_icmp_ne (tgt := 153) C0 dX12_goesRound_147 (by decide) (fun c_55 => ?_) (fun c_55 => ?_)
            · -- 147
              replace HE : FT = g15_X12_goesRound_2 R91 (xso SM ad ws_47) a1.toInt a3.toInt a4.toInt a5.toInt a6.toInt x7_9.toInt v_45.toInt r_50.toInt := HE.trans (if_neg (o38_43 e_54 c_55))
              refine lv_aload_n C0.1 C0.2.1 dX12_goesRound_153 rfl (lv_at hl 3 rfl) ?_
              refine ng_X12_taken C0 h kSM_0 q_1471 dX12_goesRound_154 ?_
              refine lv_iload_n C0.1 C0.2.1 dX12_goesRound_157 rfl (lv_at hl 5 rfl) ?_
              refine lv_iload C0.1 C0.2.1 dX12_goesRound_158 (lv_at hl 1 rfl) ?_
              have hO_58 := h.2
              refine y_iast C0 h kSM_18 rfl (by decide) (o38_95 l1 u1 l2 u2 al0 ah0 e_3 e_4 qh_5 c_6 b_16 b_17 hn_15 e_20 e_21 qh_22 c_23 e_39 e_41) (o38_96 l1 u1 l2 u2 al0 ah0 e_3 e_4 qh_5 c_6 b_16 b_17 hn_15 e_20 e_21 qh_22 c_23 e_39 e_41) (le_min v_45) (le_max v_45) dX12_goesRound_160 (fun H locs ws_56 h u_57 => ?_)
              have e_59 : aI ws_56 18 2 = v_45 := (congrArg (aI ws_56 18) (ix_c (c := 2) (o38_97 l1 u1 l2 u2 al0 ah0 e_3 e_4 qh_5 c_6 b_16 b_17 hn_15 e_20 e_21 qh_22 c_23 e_39 e_41))).symm.trans u_57.2.1
              replace HE : FT = g17w_X12_goesRound_2 R91 (xso SM ad ws_56) a1.toInt a3.toInt a4.toInt a5.toInt a6.toInt x7_9.toInt r_50.toInt := HE.trans (by rw [(xso_A (i := 18) hO_58 h.2 kSM_18 rfl u_57), (o38_98 l1 u1 l2 u2 al0 ah0 e_3 e_4 qh_5 c_6 b_16 b_17 hn_15 e_20 e_21 qh_22 c_23 e_39 e_41)]; rfl)
              refine lv_aload_n C0.1 C0.2.1 dX12_goesRound_161 rfl (lv_at hl 3 rfl) ?_
              refine lv_iload_n C0.1 C0.2.1 dX12_goesRound_162 rfl (lv_at hl 4 rfl) ?_
              refine lv_iload_n C0.1 C0.2.1 dX12_goesRound_163 rfl (lv_at hl 5 rfl) ?_
              refine y_c1 (n := 1) C0 (by decide) dX12_goesRound_164 (fun v_60 e_61 => ?_)
              refine y_add C0 (o38_99 l1 u1 l2 u2 al0 ah0 e_3 e_4 qh_5 c_6 b_16 b_17 hn_15 e_20 e_21 qh_22 c_23 e_39 e_41 e_61 (le_min a2) (le_max a2) (le_min v_60) (le_max v_60) (le_min a1) (le_max a1) (le_min ap0) (le_max ap0) (le_min v_1) (le_max v_1) (le_min x7_9) (le_max x7_9) (le_min v_18) (le_max v_18) (le_min v_38) (le_max v_38) (le_min v_40) (le_max v_40)) (o38_100 l1 u1 l2 u2 al0 ah0 e_3 e_4 qh_5 c_6 b_16 b_17 hn_15 e_20 e_21 qh_22 c_23 e_39 e_41 e_61 (le_min a2) (le_max a2) (le_min v_60) (le_max v_60) (le_min a1) (le_max a1) (le_min ap0) (le_max ap0) (le_min v_1) (le_max v_1) (le_min x7_9) (le_max x7_9) (le_min v_18) (le_max v_18) (le_min v_38) (le_max v_38) (le_min v_40) (le_max v_40)) dX12_goesRound_165 (fun v_62 e_63 => ?_)
              refine lv_iload_n C0.1 C0.2.1 dX12_goesRound_166 rfl (lv_at hl 6 rfl) ?_
              refine y_c1 (n := 1) C0 (by decide) dX12_goesRound_167 (fun v_64 e_65 => ?_)
              refine lv_iload C0.1 C0.2.1 dX12_goesRound_168 (lv_at hl 2 rfl) ?_
              refine xr_ishl C0 dX12_goesRound_170 (fun v_66 e_67 => ?_)
              refine xr_ior C0 dX12_goesRound_171 (fun v_68 e_69 => ?_)
              refine lv_aload_n C0.1 C0.2.1 dX12_goesRound_172 rfl (lv_at hl 3 rfl) ?_
              refine ng_X12_endsAt C0 h kSM_0 q_1466 dX12_goesRound_173 (fun v_70 e_71 e_72 e_73 => ?_)
              refine lv_iload C0.1 C0.2.1 dX12_goesRound_176 (lv_at hl 8 rfl) ?_
              refine lv_iload C0.1 C0.2.1 dX12_goesRound_178 (lv_at hl 0 rfl) ?_
              refine xr_iadd C0 dX12_goesRound_180 (fun v_74 e_75 => ?_)
              refine lv_iload C0.1 C0.2.1 dX12_goesRound_181 (lv_at hl 9 rfl) ?_
              refine lv_aload_n C0.1 C0.2.1 dX12_goesRound_183 rfl (lv_at hl 3 rfl) ?_
              refine ng_X12_legStreets C0 h kSM_0 q_1475 dX12_goesRound_184 (fun v_76 e_77 e_78 e_79 => ?_)
              refine xr_iadd C0 dX12_goesRound_187 (fun v_80 e_81 => ?_)
              refine y_cv h (y_rV (As := [.int a1, .int v_62, .int v_68, .int v_70, .int v_74, .int v_80]) (rest := []) C0 hZ h (c_X12_goesRound_3 l G Z ad _ h.2 a1 v_62 v_68 v_70 v_74 v_80 (o38_101 l1 u1 l2 u2 al0 ah0 e_3 e_4 qh_5 c_6 b_16 b_17 hn_15 e_20 e_21 qh_22 c_23 e_39 e_41 e_61 e_63) (o38_102 l1 u1 l2 u2 al0 ah0 e_3 e_4 qh_5 c_6 b_16 b_17 hn_15 e_20 e_21 qh_22 c_23 e_39 e_41 e_61 e_63) (o38_103 l1 u1 l2 u2 al0 ah0 e_3 e_4 qh_5 c_6 b_16 b_17 hn_15 e_20 e_21 qh_22 c_23 e_39 e_41 e_61 e_63) (o38_104 l1 u1 l2 u2 al0 ah0 e_3 e_4 qh_5 c_6 b_16 b_17 hn_15 e_20 e_21 qh_22 c_23 e_39 e_41 e_61 e_63) (o38_38 e_72 e_73) (o38_39 e_72 e_73) (fbd_lo (Eq.trans rfl (Eq.trans (Eq.trans (aI_of (u_57.1 24 (kd_ne kSM_24 kSM_18 (by decide)))) (Eq.trans (Fr.aI u_48 kSM_24 (by decide)) (Eq.trans (Fr.aI u_27 kSM_24 (by decide)) (Fr.aI hF_11 kSM_24 (by decide))))) ea0)) (o38_105 l1 u1 l2 u2 al0 ah0 e_3 e_4 qh_5 c_6 b_16 b_17 hn_15 e_20 e_21 qh_22 c_23 e_39 e_41 e_61 e_63)) (fbd_hi (Eq.trans rfl (Eq.trans (Eq.trans (aI_of (u_57.1 24 (kd_ne kSM_24 kSM_18 (by decide)))) (Eq.trans (Fr.aI u_48 kSM_24 (by decide)) (Eq.trans (Fr.aI u_27 kSM_24 (by decide)) (Fr.aI hF_11 kSM_24 (by decide))))) ea0)) (o38_106 l1 u1 l2 u2 al0 ah0 e_3 e_4 qh_5 c_6 b_16 b_17 hn_15 e_20 e_21 qh_22 c_23 e_39 e_41 e_61 e_63)) (NumOk.fr (M := [0, 5, 8, 9, 10, 11, 12, 13, 18, 19]) hN (Fr.tr (Fr.tr (Fr.tr hF_11 (Fr.mono u_27 (by decide))) (Fr.mono u_48 (by decide))) (Fr.up u_57.1 kSM_18 (by decide))) (by decide) (by decide)) (J.pa hT hJ (Pa.tr (Pa.tr (Pa.tr (Pa.fr hF_11 (by decide)) (Pa.fr u_27 (by decide))) (Pa.fr u_48 (by decide))) (Pa.ud u_57.1 (by decide)))) (Laid.pa hLd (Pa.tr (Pa.tr (Pa.tr (Pa.fr hF_11 (by decide)) (Pa.fr u_27 (by decide))) (Pa.fr u_48 (by decide))) (Pa.ud u_57.1 (by decide))))) k_X12_goesRound q_1966 q_113 q_1964 kSM_0 rfl rfl rfl hl.1 rfl rfl (Nat.le_of_ble_eq_true rfl) dX12_goesRound_188 ⟨Nat.le_of_ble_eq_true rfl, Nat.le_of_ble_eq_true rfl⟩ ⟨Nat.le_of_ble_eq_true rfl, Nat.le_of_ble_eq_true rfl⟩) (fun H locs ws_82 h u_83 p_84 => ?_)
              have e_85 := p_84
              replace HE : FT = g18c_X12_goesRound_2 R91 (xso SM ad ws_82) a1.toInt a3.toInt a4.toInt a5.toInt a6.toInt x7_9.toInt := HE.trans (by rw [e_85, e_81, (xg0 e_77 : v_76.toInt = (xso SM ad ws_56) 0 0 37), e_75, (xg0 e_71 : v_70.toInt = (xso SM ad ws_56) 0 0 28), e_69, e_67, e_65, e_63, e_61, (o38_107 l1 u1 l2 u2 al0 ah0 e_3 e_4 qh_5 c_6 b_16 b_17 hn_15 e_20 e_21 qh_22 c_23 e_39 e_41 e_61 e_63)]; rfl)
              refine y_inc (kp := 2) (n := 1) (fun v_86 => [(7, .int v_86), (9, .int r_50), (8, .int v_45), (0, .ref (ad 0)), (1, .int a1), (2, .int a2), (3, .int a3), (4, .int a4), (5, .int a5), (6, .int a6)]) C0 hl rfl (by decide) (by decide) (fun _ => rfl) (o38_108 l1 u1 l2 u2 al0 ah0 e_3 e_4 qh_5 c_6 b_16 b_17 hn_15 e_20 e_21 qh_22 c_23 e_39 e_41 e_61 e_63 (le_min x7_9) (le_max x7_9) (le_min a1) (le_max a1) (le_min a2) (le_max a2) (le_min ap0) (le_max ap0) (le_min v_1) (le_max v_1) (le_min v_18) (le_max v_18) (le_min v_38) (le_max v_38) (le_min v_40) (le_max v_40) (le_min v_60) (le_max v_60) (le_min v_62) (le_max v_62)) (o38_109 l1 u1 l2 u2 al0 ah0 e_3 e_4 qh_5 c_6 b_16 b_17 hn_15 e_20 e_21 qh_22 c_23 e_39 e_41 e_61 e_63 (le_min x7_9) (le_max x7_9) (le_min a1) (le_max a1) (le_min a2) (le_max a2) (le_min ap0) (le_max ap0) (le_min v_1) (le_max v_1) (le_min v_18) (le_max v_18) (le_min v_38) (le_max v_38) (le_min v_40) (le_max v_40) (le_min v_60) (le_max v_60) (le_min v_62) (le_max v_62)) dX12_goesRound_191 (fun v_86 ls e_87 hl => ?_)
              refine lv_goto (tgt := 91) C0.1 C0.2.1 dX12_goesRound_194 (by decide) ?_
              exact ih_13 v_86 _ _ _ _ (o38_110 l1 u1 l2 u2 al0 ah0 e_3 e_4 qh_5 c_6 b_16 b_17 hn_15 e_20 e_21 qh_22 c_23 e_39 e_41 e_61 e_63 e_87) (o38_111 l1 u1 l2 u2 al0 ah0 e_3 e_4 qh_5 c_6 b_16 b_17 hn_15 e_20 e_21 qh_22 c_23 e_39 e_41 e_61 e_63 e_87) (o38_112 l1 u1 l2 u2 al0 ah0 e_3 e_4 qh_5 c_6 b_16 b_17 hn_15 e_20 e_21 qh_22 c_23 e_39 e_41 e_61 e_63 e_87) (((show FT = R91 (xso SM ad ws_82) a1.toInt a3.toInt a4.toInt a5.toInt a6.toInt v_86.toInt from HE.trans (by rw [e_87]; rfl)).trans (by rw [hR91]))) h (Fr.tr (Fr.tr (Fr.tr (Fr.tr hF_11 (Fr.mono u_27 (by decide))) (Fr.mono u_48 (by decide))) (Fr.up u_57.1 kSM_18 (by decide))) u_83) (lv_sub hl [0, 3, 4, 5, 6, 7, 8, 9] rfl)
            · -- 147
              replace HE : FT = g16_X12_goesRound_2 R91 (xso SM ad ws_47) a1.toInt a3.toInt a4.toInt a5.toInt a6.toInt x7_9.toInt := HE.trans (if_pos (o38_44 e_54 c_55))
              refine lv_goto (tgt := 191) C0.1 C0.2.1 dX12_goesRound_150 (by decide) ?_
              refine y_inc (kp := 2) (n := 1) (fun v_88 => [(7, .int v_88), (9, .int r_50), (8, .int v_45), (0, .ref (ad 0)), (1, .int a1), (2, .int a2), (3, .int a3), (4, .int a4), (5, .int a5), (6, .int a6)]) C0 hl rfl (by decide) (by decide) (fun _ => rfl) (o38_113 l1 u1 l2 u2 al0 ah0 e_3 e_4 qh_5 c_6 b_16 b_17 hn_15 e_20 e_21 qh_22 c_23 e_39 e_41 (le_min x7_9) (le_max x7_9) (le_min a1) (le_max a1) (le_min a2) (le_max a2) (le_min ap0) (le_max ap0) (le_min v_1) (le_max v_1) (le_min v_18) (le_max v_18) (le_min v_38) (le_max v_38) (le_min v_40) (le_max v_40)) (o38_114 l1 u1 l2 u2 al0 ah0 e_3 e_4 qh_5 c_6 b_16 b_17 hn_15 e_20 e_21 qh_22 c_23 e_39 e_41 (le_min x7_9) (le_max x7_9) (le_min a1) (le_max a1) (le_min a2) (le_max a2) (le_min ap0) (le_max ap0) (le_min v_1) (le_max v_1) (le_min v_18) (le_max v_18) (le_min v_38) (le_max v_38) (le_min v_40) (le_max v_40)) dX12_goesRound_191 (fun v_88 ls e_89 hl => ?_)
              refine lv_goto (tgt := 91) C0.1 C0.2.1 dX12_goesRound_194 (by decide) ?_
              exact ih_13 v_88 _ _ _ _ (o38_115 l1 u1 l2 u2 al0 ah0 e_3 e_4 qh_5 c_6 b_16 b_17 hn_15 e_20 e_21 qh_22 c_23 e_39 e_41 e_89) (o38_116 l1 u1 l2 u2 al0 ah0 e_3 e_4 qh_5 c_6 b_16 b_17 hn_15 e_20 e_21 qh_22 c_23 e_39 e_41 e_89) (o38_117 l1 u1 l2 u2 al0 ah0 e_3 e_4 qh_5 c_6 b_16 b_17 hn_15 e_20 e_21 qh_22 c_23 e_39 e_41 e_89) (((show FT = R91 (xso SM ad ws_47) a1.toInt a3.toInt a4.toInt a5.toInt a6.toInt v_88.toInt from HE.trans (by rw [e_89]; rfl)).trans (by rw [hR91]))) h (Fr.tr (Fr.tr hF_11 (Fr.mono u_27 (by decide))) (Fr.mono u_48 (by decide))) (lv_sub hl [0, 3, 4, 5, 6, 7, 8, 9] rfl)
          · -- 109
            replace HE : FT = g12_X12_goesRound_2 R91 (xso SM ad ws_26) a1.toInt a3.toInt a4.toInt a5.toInt a6.toInt x7_9.toInt := HE.trans (if_neg c_35)
            refine lv_goto (tgt := 191) C0.1 C0.2.1 dX12_goesRound_112 (by decide) ?_
            refine y_inc (kp := 0) (n := 1) (fun v_90 => [(7, .int v_90), (0, .ref (ad 0)), (1, .int a1), (2, .int a2), (3, .int a3), (4, .int a4), (5, .int a5), (6, .int a6)]) C0 hl rfl (by decide) (by decide) (fun _ => rfl) (o38_118 l2 u2 al0 ah0 e_3 e_4 qh_5 c_6 b_16 b_17 hn_15 e_20 e_21 qh_22 c_23 (le_min x7_9) (le_max x7_9) (le_min a2) (le_max a2) (le_min ap0) (le_max ap0) (le_min v_1) (le_max v_1) (le_min v_18) (le_max v_18)) (o38_119 l2 u2 al0 ah0 e_3 e_4 qh_5 c_6 b_16 b_17 hn_15 e_20 e_21 qh_22 c_23 (le_min x7_9) (le_max x7_9) (le_min a2) (le_max a2) (le_min ap0) (le_max ap0) (le_min v_1) (le_max v_1) (le_min v_18) (le_max v_18)) dX12_goesRound_191 (fun v_90 ls e_91 hl => ?_)
            refine lv_goto (tgt := 91) C0.1 C0.2.1 dX12_goesRound_194 (by decide) ?_
            exact ih_13 v_90 _ _ _ _ (o38_120 l2 u2 al0 ah0 e_3 e_4 qh_5 c_6 b_16 b_17 hn_15 e_20 e_21 qh_22 c_23 e_91) (o38_121 l2 u2 al0 ah0 e_3 e_4 qh_5 c_6 b_16 b_17 hn_15 e_20 e_21 qh_22 c_23 e_91) (o38_122 l2 u2 al0 ah0 e_3 e_4 qh_5 c_6 b_16 b_17 hn_15 e_20 e_21 qh_22 c_23 e_91) (((show FT = R91 (xso SM ad ws_26) a1.toInt a3.toInt a4.toInt a5.toInt a6.toInt v_90.toInt from HE.trans (by rw [e_91]; rfl)).trans (by rw [hR91]))) h (Fr.tr hF_11 (Fr.mono u_27 (by decide))) (lv_sub hl [0, 1, 2, 3, 4, 5, 6, 7] rfl)
    exact lp_12 ((4 - v_7.toInt + 1).toNat) v_7 _ _ _ _ (o38_18 e_8) (o38_19 e_8) (o38_20 e_8) ((show FT = L4_X12_goesRound_2 (Int.toNat (4 - v_7.toInt + 1)) (xso SM ad ws0) a1.toInt a3.toInt a4.toInt a5.toInt a6.toInt v_7.toInt from HE.trans (by rw [e_8]; rfl))) h Fr.rf (lv_sub hl [0, 1, 2, 3, 4, 5, 6, 7] rfl)
  · -- 7
    replace HE : FT = g3_X12_goesRound_2 (xso SM ad ws0) a5.toInt a6.toInt := HE.trans (if_pos (o38_88 l2 u2 al0 ah0 e_3 e_4 qh_5 c_6))
    refine lv_aload_n C0.1 C0.2.1 dX12_goesRound_10 rfl (lv_at hl 0 rfl) ?_
    refine ng_X12_bestLefts C0 h kSM_0 q_1473 dX12_goesRound_11 (fun v_92 e_93 e_94 e_95 => ?_)
    refine y_c1 (n := (-1)) C0 (by decide) dX12_goesRound_14 (fun v_96 e_97 => ?_)
    replace HE : FT = g19b_X12_goesRound_2 (xso SM ad ws0) v_92.toInt a5.toInt a6.toInt := HE.trans (by rw [(xg0 e_93 : v_92.toInt = (xso SM ad ws0) 0 0 35)]; rfl)
    refine y_icmp_eq (tgt := 46) C0 dX12_goesRound_15 (by decide) (fun c_98 => ?_) (fun c_98 => ?_)
    · -- 15
      replace HE : FT = g20_X12_goesRound_2 (xso SM ad ws0) a5.toInt a6.toInt := HE.trans (if_pos (o38_5 e_97 c_98))
      refine lv_aload_n C0.1 C0.2.1 dX12_goesRound_46 rfl (lv_at hl 0 rfl) ?_
      refine lv_iload C0.1 C0.2.1 dX12_goesRound_47 (lv_at hl 5 rfl) ?_
      refine np_X12_bestLefts C0 h kSM_0 q_1473 (le_min a5) (le_max a5) dX12_goesRound_49 (fun H locs ws_99 h u_100 Xu_100 => ?_)
      replace HE : FT = g22w_X12_goesRound_2 (xso SM ad ws_99) a6.toInt := HE.trans (by rw [Xu_100]; rfl)
      refine lv_aload_n C0.1 C0.2.1 dX12_goesRound_52 rfl (lv_at hl 0 rfl) ?_
      refine lv_iload C0.1 C0.2.1 dX12_goesRound_53 (lv_at hl 6 rfl) ?_
      refine np_X12_bestStreets C0 h kSM_0 q_1474 (le_min a6) (le_max a6) dX12_goesRound_55 (fun H locs ws_101 h u_102 Xu_102 => ?_)
      replace HE : FT = g23w_X12_goesRound_2 (xso SM ad ws_101) := HE.trans (by rw [Xu_102]; rfl)
      refine y_c1 (n := 0) C0 (by decide) dX12_goesRound_58 (fun v_103 e_104 => ?_)
      refine lv_istore (lv' := [(7, .int v_103), (0, .ref (ad 0)), (1, .int a1), (2, .int a2), (3, .int a3), (4, .int a4), (5, .int a5), (6, .int a6)]) C0.1 C0.2.1 dX12_goesRound_59 hl (by decide) rfl (fun ls hl => ?_)
      have lp_108 : ∀ (n_110 : Nat) (x7_105 : Int32) (H : Heap) (locs : List Loc) (ls : Array Slot) (ws_106 : va_W), 2 - x7_105.toInt < (n_110 : Int) → 0 ≤ x7_105.toInt → x7_105.toInt ≤ 2 → (FT = L24_X12_goesRound_2 n_110 (xso SM ad ws_106) x7_105.toInt) → Wt G SM ad A s H locs ws_106 → Fr SM [19] ws_101 ws_106 → lv_has ls 10 [(7, .int x7_105), (0, .ref (ad 0)), (1, .int a1), (2, .int a2), (3, .int a3), (4, .int a4), (5, .int a5), (6, .int a6)] → W p l e (rmd 10 0 0) s m args below meth c H locs 0 0 Q (F0 m 61 ls []) := by
        intro n_110
        induction n_110 with
        | zero => intro x7_105 H locs ls ws_106 hn_111 b_112 b_113 HE h hF_107 hl; exact ((o38_123 b_112 b_113 hn_111)).elim
        | succ n_110 ih_109 =>
          intro x7_105 H locs ls ws_106 hn_111 b_112 b_113 HE h hF_107 hl
          obtain ⟨R61, hR61⟩ : ∃ z, z = L24_X12_goesRound_2 n_110 := ⟨_, rfl⟩
          replace HE : FT = g25l_X12_goesRound_2 R61 (xso SM ad ws_106) x7_105.toInt := HE.trans (by rw [hR61]; rfl)
          refine lv_iload C0.1 C0.2.1 dX12_goesRound_61 (lv_at hl 0 rfl) ?_
          refine lv_iload_n C0.1 C0.2.1 dX12_goesRound_63 rfl (lv_at hl 3 rfl) ?_
          replace HE : FT = g26b_X12_goesRound_2 R61 (xso SM ad ws_106) x7_105.toInt := HE.trans rfl
          refine y_icmp_ge (tgt := 87) C0 dX12_goesRound_64 (by decide) (fun c_114 => ?_) (fun c_114 => ?_)
          · -- 64
            replace HE : FT = g27_X12_goesRound_2 (xso SM ad ws_106) := HE.trans (if_neg (o38_125 l2 u2 al0 ah0 e_3 e_4 qh_5 c_6 b_112 b_113 hn_111 c_114))
            replace HE : FT = ((xso SM ad ws_106), 0) := HE.trans rfl
            rw [hQ]
            exact y_vret C0 h (Fr.tr (Fr.tr (Fr.up u_100.1 kSM_0 (by decide)) (Fr.up u_102.1 kSM_0 (by decide))) (Fr.mono hF_107 (by decide))) (congrArg Prod.fst (HE.symm.trans hFT)) dX12_goesRound_87
          · -- 64
            replace HE : FT = g28_X12_goesRound_2 R61 (xso SM ad ws_106) x7_105.toInt := HE.trans (if_pos (o38_126 l2 u2 al0 ah0 e_3 e_4 qh_5 c_6 b_112 b_113 hn_111 c_114))
            refine lv_aload_n C0.1 C0.2.1 dX12_goesRound_67 rfl (lv_at hl 1 rfl) ?_
            refine ng_X12_bestRow C0 h kSM_0 q_1472 dX12_goesRound_68 ?_
            refine lv_iload C0.1 C0.2.1 dX12_goesRound_71 (lv_at hl 0 rfl) ?_
            refine lv_aload_n C0.1 C0.2.1 dX12_goesRound_73 rfl (lv_at hl 1 rfl) ?_
            refine ng_X12_taken C0 h kSM_0 q_1471 dX12_goesRound_74 ?_
            refine lv_iload C0.1 C0.2.1 dX12_goesRound_77 (lv_at hl 0 rfl) ?_
            refine y_iald C0 h kSM_18 rfl (by decide) (o38_127 l2 u2 al0 ah0 e_3 e_4 qh_5 c_6 b_112 b_113 hn_111 c_114) (o38_128 l2 u2 al0 ah0 e_3 e_4 qh_5 c_6 b_112 b_113 hn_111 c_114) dX12_goesRound_79 (fun v_115 e_116 e_117 e_118 => ?_)
            have hO_121 := h.2
            refine y_iast C0 h kSM_19 rfl (by decide) (o38_127 l2 u2 al0 ah0 e_3 e_4 qh_5 c_6 b_112 b_113 hn_111 c_114) (o38_128 l2 u2 al0 ah0 e_3 e_4 qh_5 c_6 b_112 b_113 hn_111 c_114) (le_min v_115) (le_max v_115) dX12_goesRound_80 (fun H locs ws_119 h u_120 => ?_)
            replace HE : FT = g29w_X12_goesRound_2 R61 (xso SM ad ws_119) x7_105.toInt := HE.trans (by rw [(xso_A (i := 19) hO_121 h.2 kSM_19 rfl u_120), (xg1 e_116 : v_115.toInt = (xso SM ad ws_106) 1 18 x7_105.toInt.toNat)]; rfl)
            refine y_inc (kp := 0) (n := 1) (fun v_122 => [(7, .int v_122), (0, .ref (ad 0)), (1, .int a1), (2, .int a2), (3, .int a3), (4, .int a4), (5, .int a5), (6, .int a6)]) C0 hl rfl (by decide) (by decide) (fun _ => rfl) (o38_129 l2 u2 al0 ah0 e_3 e_4 qh_5 c_6 b_112 b_113 hn_111 c_114 (le_min x7_105) (le_max x7_105) (le_min a2) (le_max a2) (le_min ap0) (le_max ap0) (le_min v_1) (le_max v_1)) (o38_130 l2 u2 al0 ah0 e_3 e_4 qh_5 c_6 b_112 b_113 hn_111 c_114 (le_min x7_105) (le_max x7_105) (le_min a2) (le_max a2) (le_min ap0) (le_max ap0) (le_min v_1) (le_max v_1)) dX12_goesRound_81 (fun v_122 ls e_123 hl => ?_)
            refine lv_goto (tgt := 61) C0.1 C0.2.1 dX12_goesRound_84 (by decide) ?_
            exact ih_109 v_122 _ _ _ _ (o38_131 l2 u2 al0 ah0 e_3 e_4 qh_5 c_6 b_112 b_113 hn_111 c_114 e_123) (o38_132 l2 u2 al0 ah0 e_3 e_4 qh_5 c_6 b_112 b_113 hn_111 c_114 e_123) (o38_133 l2 u2 al0 ah0 e_3 e_4 qh_5 c_6 b_112 b_113 hn_111 c_114 e_123) (((show FT = R61 (xso SM ad ws_119) v_122.toInt from HE.trans (by rw [e_123]; rfl)).trans (by rw [hR61]))) h (Fr.tr hF_107 (Fr.up u_120.1 kSM_19 (by decide))) (lv_sub hl [0, 1, 2, 3, 4, 5, 6, 7] rfl)
      exact lp_108 ((2 - v_103.toInt + 1).toNat) v_103 _ _ _ _ (o38_134 e_104) (o38_19 e_104) (o38_135 e_104) ((show FT = L24_X12_goesRound_2 (Int.toNat (2 - v_103.toInt + 1)) (xso SM ad ws_101) v_103.toInt from HE.trans (by rw [e_104]; rfl))) h Fr.rf (lv_sub hl [0, 1, 2, 3, 4, 5, 6, 7] rfl)
    · -- 15
      replace HE : FT = g21_X12_goesRound_2 (xso SM ad ws0) a5.toInt a6.toInt := HE.trans (if_neg (o38_6 e_97 c_98))
      refine lv_iload C0.1 C0.2.1 dX12_goesRound_18 (lv_at hl 5 rfl) ?_
      refine lv_aload_n C0.1 C0.2.1 dX12_goesRound_20 rfl (lv_at hl 0 rfl) ?_
      refine ng_X12_bestLefts C0 h kSM_0 q_1473 dX12_goesRound_21 (fun v_124 e_125 e_126 e_127 => ?_)
      have qh_128 : v_124.toInt = v_92.toInt := congrArg Int32.toInt (e_125.symm.trans (Eq.trans rfl e_93))
      replace HE : FT = g30b_X12_goesRound_2 (xso SM ad ws0) v_124.toInt a5.toInt a6.toInt := HE.trans (by rw [(xg0 e_125 : v_124.toInt = (xso SM ad ws0) 0 0 35)]; rfl)
      refine y_icmp_gt (tgt := 45) C0 dX12_goesRound_24 (by decide) (fun c_129 => ?_) (fun c_129 => ?_)
      · -- 24
        replace HE : FT = g31_X12_goesRound_2 (xso SM ad ws0) := HE.trans (if_pos c_129)
        replace HE : FT = ((xso SM ad ws0), 0) := HE.trans rfl
        rw [hQ]
        exact y_vret C0 h Fr.rf (congrArg Prod.fst (HE.symm.trans hFT)) dX12_goesRound_45
      · -- 24
        replace HE : FT = g32_X12_goesRound_2 (xso SM ad ws0) a5.toInt a6.toInt := HE.trans (if_neg (Int.not_lt.mpr c_129))
        refine lv_iload C0.1 C0.2.1 dX12_goesRound_27 (lv_at hl 5 rfl) ?_
        refine lv_aload_n C0.1 C0.2.1 dX12_goesRound_29 rfl (lv_at hl 0 rfl) ?_
        refine ng_X12_bestLefts C0 h kSM_0 q_1473 dX12_goesRound_30 (fun v_130 e_131 e_132 e_133 => ?_)
        have qh_134 : v_130.toInt = v_92.toInt := congrArg Int32.toInt (e_131.symm.trans (Eq.trans rfl e_93))
        replace HE : FT = g33b_X12_goesRound_2 (xso SM ad ws0) v_130.toInt a5.toInt a6.toInt := HE.trans (by rw [(xg0 e_131 : v_130.toInt = (xso SM ad ws0) 0 0 35)]; rfl)
        refine y_icmp_ne (tgt := 46) C0 dX12_goesRound_33 (by decide) (fun c_135 => ?_) (fun c_135 => ?_)
        · -- 33
          replace HE : FT = g34_X12_goesRound_2 (xso SM ad ws0) a5.toInt a6.toInt := HE.trans (if_neg c_135)
          refine lv_aload_n C0.1 C0.2.1 dX12_goesRound_46 rfl (lv_at hl 0 rfl) ?_
          refine lv_iload C0.1 C0.2.1 dX12_goesRound_47 (lv_at hl 5 rfl) ?_
          refine np_X12_bestLefts C0 h kSM_0 q_1473 (le_min a5) (le_max a5) dX12_goesRound_49 (fun H locs ws_136 h u_137 Xu_137 => ?_)
          replace HE : FT = g36w_X12_goesRound_2 (xso SM ad ws_136) a6.toInt := HE.trans (by rw [Xu_137]; rfl)
          refine lv_aload_n C0.1 C0.2.1 dX12_goesRound_52 rfl (lv_at hl 0 rfl) ?_
          refine lv_iload C0.1 C0.2.1 dX12_goesRound_53 (lv_at hl 6 rfl) ?_
          refine np_X12_bestStreets C0 h kSM_0 q_1474 (le_min a6) (le_max a6) dX12_goesRound_55 (fun H locs ws_138 h u_139 Xu_139 => ?_)
          replace HE : FT = g37w_X12_goesRound_2 (xso SM ad ws_138) := HE.trans (by rw [Xu_139]; rfl)
          refine y_c1 (n := 0) C0 (by decide) dX12_goesRound_58 (fun v_140 e_141 => ?_)
          refine lv_istore (lv' := [(7, .int v_140), (0, .ref (ad 0)), (1, .int a1), (2, .int a2), (3, .int a3), (4, .int a4), (5, .int a5), (6, .int a6)]) C0.1 C0.2.1 dX12_goesRound_59 hl (by decide) rfl (fun ls hl => ?_)
          have lp_145 : ∀ (n_147 : Nat) (x7_142 : Int32) (H : Heap) (locs : List Loc) (ls : Array Slot) (ws_143 : va_W), 2 - x7_142.toInt < (n_147 : Int) → 0 ≤ x7_142.toInt → x7_142.toInt ≤ 2 → (FT = L38_X12_goesRound_2 n_147 (xso SM ad ws_143) x7_142.toInt) → Wt G SM ad A s H locs ws_143 → Fr SM [19] ws_138 ws_143 → lv_has ls 10 [(7, .int x7_142), (0, .ref (ad 0)), (1, .int a1), (2, .int a2), (3, .int a3), (4, .int a4), (5, .int a5), (6, .int a6)] → W p l e (rmd 10 0 0) s m args below meth c H locs 0 0 Q (F0 m 61 ls []) := by
            intro n_147
            induction n_147 with
            | zero => intro x7_142 H locs ls ws_143 hn_148 b_149 b_150 HE h hF_144 hl; exact ((o38_123 b_149 b_150 hn_148)).elim
            | succ n_147 ih_146 =>
              intro x7_142 H locs ls ws_143 hn_148 b_149 b_150 HE h hF_144 hl
              obtain ⟨R61, hR61⟩ : ∃ z, z = L38_X12_goesRound_2 n_147 := ⟨_, rfl⟩
              replace HE : FT = g39l_X12_goesRound_2 R61 (xso SM ad ws_143) x7_142.toInt := HE.trans (by rw [hR61]; rfl)
              refine lv_iload C0.1 C0.2.1 dX12_goesRound_61 (lv_at hl 0 rfl) ?_
              refine lv_iload_n C0.1 C0.2.1 dX12_goesRound_63 rfl (lv_at hl 3 rfl) ?_
              replace HE : FT = g40b_X12_goesRound_2 R61 (xso SM ad ws_143) x7_142.toInt := HE.trans rfl
              refine y_icmp_ge (tgt := 87) C0 dX12_goesRound_64 (by decide) (fun c_151 => ?_) (fun c_151 => ?_)
              · -- 64
                replace HE : FT = g41_X12_goesRound_2 (xso SM ad ws_143) := HE.trans (if_neg (o38_125 l2 u2 al0 ah0 e_3 e_4 qh_5 c_6 b_149 b_150 hn_148 c_151))
                replace HE : FT = ((xso SM ad ws_143), 0) := HE.trans rfl
                rw [hQ]
                exact y_vret C0 h (Fr.tr (Fr.tr (Fr.up u_137.1 kSM_0 (by decide)) (Fr.up u_139.1 kSM_0 (by decide))) (Fr.mono hF_144 (by decide))) (congrArg Prod.fst (HE.symm.trans hFT)) dX12_goesRound_87
              · -- 64
                replace HE : FT = g42_X12_goesRound_2 R61 (xso SM ad ws_143) x7_142.toInt := HE.trans (if_pos (o38_126 l2 u2 al0 ah0 e_3 e_4 qh_5 c_6 b_149 b_150 hn_148 c_151))
                refine lv_aload_n C0.1 C0.2.1 dX12_goesRound_67 rfl (lv_at hl 1 rfl) ?_
                refine ng_X12_bestRow C0 h kSM_0 q_1472 dX12_goesRound_68 ?_
                refine lv_iload C0.1 C0.2.1 dX12_goesRound_71 (lv_at hl 0 rfl) ?_
                refine lv_aload_n C0.1 C0.2.1 dX12_goesRound_73 rfl (lv_at hl 1 rfl) ?_
                refine ng_X12_taken C0 h kSM_0 q_1471 dX12_goesRound_74 ?_
                refine lv_iload C0.1 C0.2.1 dX12_goesRound_77 (lv_at hl 0 rfl) ?_
                refine y_iald C0 h kSM_18 rfl (by decide) (o38_127 l2 u2 al0 ah0 e_3 e_4 qh_5 c_6 b_149 b_150 hn_148 c_151) (o38_128 l2 u2 al0 ah0 e_3 e_4 qh_5 c_6 b_149 b_150 hn_148 c_151) dX12_goesRound_79 (fun v_152 e_153 e_154 e_155 => ?_)
                have hO_158 := h.2
                refine y_iast C0 h kSM_19 rfl (by decide) (o38_127 l2 u2 al0 ah0 e_3 e_4 qh_5 c_6 b_149 b_150 hn_148 c_151) (o38_128 l2 u2 al0 ah0 e_3 e_4 qh_5 c_6 b_149 b_150 hn_148 c_151) (le_min v_152) (le_max v_152) dX12_goesRound_80 (fun H locs ws_156 h u_157 => ?_)
                replace HE : FT = g43w_X12_goesRound_2 R61 (xso SM ad ws_156) x7_142.toInt := HE.trans (by rw [(xso_A (i := 19) hO_158 h.2 kSM_19 rfl u_157), (xg1 e_153 : v_152.toInt = (xso SM ad ws_143) 1 18 x7_142.toInt.toNat)]; rfl)
                refine y_inc (kp := 0) (n := 1) (fun v_159 => [(7, .int v_159), (0, .ref (ad 0)), (1, .int a1), (2, .int a2), (3, .int a3), (4, .int a4), (5, .int a5), (6, .int a6)]) C0 hl rfl (by decide) (by decide) (fun _ => rfl) (o38_129 l2 u2 al0 ah0 e_3 e_4 qh_5 c_6 b_149 b_150 hn_148 c_151 (le_min x7_142) (le_max x7_142) (le_min a2) (le_max a2) (le_min ap0) (le_max ap0) (le_min v_1) (le_max v_1)) (o38_130 l2 u2 al0 ah0 e_3 e_4 qh_5 c_6 b_149 b_150 hn_148 c_151 (le_min x7_142) (le_max x7_142) (le_min a2) (le_max a2) (le_min ap0) (le_max ap0) (le_min v_1) (le_max v_1)) dX12_goesRound_81 (fun v_159 ls e_160 hl => ?_)
                refine lv_goto (tgt := 61) C0.1 C0.2.1 dX12_goesRound_84 (by decide) ?_
                exact ih_146 v_159 _ _ _ _ (o38_131 l2 u2 al0 ah0 e_3 e_4 qh_5 c_6 b_149 b_150 hn_148 c_151 e_160) (o38_132 l2 u2 al0 ah0 e_3 e_4 qh_5 c_6 b_149 b_150 hn_148 c_151 e_160) (o38_133 l2 u2 al0 ah0 e_3 e_4 qh_5 c_6 b_149 b_150 hn_148 c_151 e_160) (((show FT = R61 (xso SM ad ws_156) v_159.toInt from HE.trans (by rw [e_160]; rfl)).trans (by rw [hR61]))) h (Fr.tr hF_144 (Fr.up u_157.1 kSM_19 (by decide))) (lv_sub hl [0, 1, 2, 3, 4, 5, 6, 7] rfl)
          exact lp_145 ((2 - v_140.toInt + 1).toNat) v_140 _ _ _ _ (o38_134 e_141) (o38_19 e_141) (o38_135 e_141) ((show FT = L38_X12_goesRound_2 (Int.toNat (2 - v_140.toInt + 1)) (xso SM ad ws_138) v_140.toInt from HE.trans (by rw [e_141]; rfl))) h Fr.rf (lv_sub hl [0, 1, 2, 3, 4, 5, 6, 7] rfl)
        · -- 33
          replace HE : FT = g35_X12_goesRound_2 (xso SM ad ws0) a5.toInt a6.toInt := HE.trans (if_pos c_135)
          refine lv_iload C0.1 C0.2.1 dX12_goesRound_36 (lv_at hl 6 rfl) ?_
          refine lv_aload_n C0.1 C0.2.1 dX12_goesRound_38 rfl (lv_at hl 0 rfl) ?_
          refine ng_X12_bestStreets C0 h kSM_0 q_1474 dX12_goesRound_39 (fun v_161 e_162 e_163 e_164 => ?_)
          replace HE : FT = g44b_X12_goesRound_2 (xso SM ad ws0) v_161.toInt a6.toInt a5.toInt := HE.trans (by rw [(xg0 e_162 : v_161.toInt = (xso SM ad ws0) 0 0 36)]; rfl)
          refine y_icmp_lt (tgt := 46) C0 dX12_goesRound_42 (by decide) (fun c_165 => ?_) (fun c_165 => ?_)
          · -- 42
            replace HE : FT = g45_X12_goesRound_2 (xso SM ad ws0) a5.toInt a6.toInt := HE.trans (if_pos c_165)
            refine lv_aload_n C0.1 C0.2.1 dX12_goesRound_46 rfl (lv_at hl 0 rfl) ?_
            refine lv_iload C0.1 C0.2.1 dX12_goesRound_47 (lv_at hl 5 rfl) ?_
            refine np_X12_bestLefts C0 h kSM_0 q_1473 (le_min a5) (le_max a5) dX12_goesRound_49 (fun H locs ws_166 h u_167 Xu_167 => ?_)
            replace HE : FT = g47w_X12_goesRound_2 (xso SM ad ws_166) a6.toInt := HE.trans (by rw [Xu_167]; rfl)
            refine lv_aload_n C0.1 C0.2.1 dX12_goesRound_52 rfl (lv_at hl 0 rfl) ?_
            refine lv_iload C0.1 C0.2.1 dX12_goesRound_53 (lv_at hl 6 rfl) ?_
            refine np_X12_bestStreets C0 h kSM_0 q_1474 (le_min a6) (le_max a6) dX12_goesRound_55 (fun H locs ws_168 h u_169 Xu_169 => ?_)
            replace HE : FT = g48w_X12_goesRound_2 (xso SM ad ws_168) := HE.trans (by rw [Xu_169]; rfl)
            refine y_c1 (n := 0) C0 (by decide) dX12_goesRound_58 (fun v_170 e_171 => ?_)
            refine lv_istore (lv' := [(7, .int v_170), (0, .ref (ad 0)), (1, .int a1), (2, .int a2), (3, .int a3), (4, .int a4), (5, .int a5), (6, .int a6)]) C0.1 C0.2.1 dX12_goesRound_59 hl (by decide) rfl (fun ls hl => ?_)
            have lp_175 : ∀ (n_177 : Nat) (x7_172 : Int32) (H : Heap) (locs : List Loc) (ls : Array Slot) (ws_173 : va_W), 2 - x7_172.toInt < (n_177 : Int) → 0 ≤ x7_172.toInt → x7_172.toInt ≤ 2 → (FT = L49_X12_goesRound_2 n_177 (xso SM ad ws_173) x7_172.toInt) → Wt G SM ad A s H locs ws_173 → Fr SM [19] ws_168 ws_173 → lv_has ls 10 [(7, .int x7_172), (0, .ref (ad 0)), (1, .int a1), (2, .int a2), (3, .int a3), (4, .int a4), (5, .int a5), (6, .int a6)] → W p l e (rmd 10 0 0) s m args below meth c H locs 0 0 Q (F0 m 61 ls []) := by
              intro n_177
              induction n_177 with
              | zero => intro x7_172 H locs ls ws_173 hn_178 b_179 b_180 HE h hF_174 hl; exact ((o38_123 b_179 b_180 hn_178)).elim
              | succ n_177 ih_176 =>
                intro x7_172 H locs ls ws_173 hn_178 b_179 b_180 HE h hF_174 hl
                obtain ⟨R61, hR61⟩ : ∃ z, z = L49_X12_goesRound_2 n_177 := ⟨_, rfl⟩
                replace HE : FT = g50l_X12_goesRound_2 R61 (xso SM ad ws_173) x7_172.toInt := HE.trans (by rw [hR61]; rfl)
                refine lv_iload C0.1 C0.2.1 dX12_goesRound_61 (lv_at hl 0 rfl) ?_
                refine lv_iload_n C0.1 C0.2.1 dX12_goesRound_63 rfl (lv_at hl 3 rfl) ?_
                replace HE : FT = g51b_X12_goesRound_2 R61 (xso SM ad ws_173) x7_172.toInt := HE.trans rfl
                refine y_icmp_ge (tgt := 87) C0 dX12_goesRound_64 (by decide) (fun c_181 => ?_) (fun c_181 => ?_)
                · -- 64
                  replace HE : FT = g52_X12_goesRound_2 (xso SM ad ws_173) := HE.trans (if_neg (o38_125 l2 u2 al0 ah0 e_3 e_4 qh_5 c_6 b_179 b_180 hn_178 c_181))
                  replace HE : FT = ((xso SM ad ws_173), 0) := HE.trans rfl
                  rw [hQ]
                  exact y_vret C0 h (Fr.tr (Fr.tr (Fr.up u_167.1 kSM_0 (by decide)) (Fr.up u_169.1 kSM_0 (by decide))) (Fr.mono hF_174 (by decide))) (congrArg Prod.fst (HE.symm.trans hFT)) dX12_goesRound_87
                · -- 64
                  replace HE : FT = g53_X12_goesRound_2 R61 (xso SM ad ws_173) x7_172.toInt := HE.trans (if_pos (o38_126 l2 u2 al0 ah0 e_3 e_4 qh_5 c_6 b_179 b_180 hn_178 c_181))
                  refine lv_aload_n C0.1 C0.2.1 dX12_goesRound_67 rfl (lv_at hl 1 rfl) ?_
                  refine ng_X12_bestRow C0 h kSM_0 q_1472 dX12_goesRound_68 ?_
                  refine lv_iload C0.1 C0.2.1 dX12_goesRound_71 (lv_at hl 0 rfl) ?_
                  refine lv_aload_n C0.1 C0.2.1 dX12_goesRound_73 rfl (lv_at hl 1 rfl) ?_
                  refine ng_X12_taken C0 h kSM_0 q_1471 dX12_goesRound_74 ?_
                  refine lv_iload C0.1 C0.2.1 dX12_goesRound_77 (lv_at hl 0 rfl) ?_
                  refine y_iald C0 h kSM_18 rfl (by decide) (o38_127 l2 u2 al0 ah0 e_3 e_4 qh_5 c_6 b_179 b_180 hn_178 c_181) (o38_128 l2 u2 al0 ah0 e_3 e_4 qh_5 c_6 b_179 b_180 hn_178 c_181) dX12_goesRound_79 (fun v_182 e_183 e_184 e_185 => ?_)
                  have hO_188 := h.2
                  refine y_iast C0 h kSM_19 rfl (by decide) (o38_127 l2 u2 al0 ah0 e_3 e_4 qh_5 c_6 b_179 b_180 hn_178 c_181) (o38_128 l2 u2 al0 ah0 e_3 e_4 qh_5 c_6 b_179 b_180 hn_178 c_181) (le_min v_182) (le_max v_182) dX12_goesRound_80 (fun H locs ws_186 h u_187 => ?_)
                  replace HE : FT = g54w_X12_goesRound_2 R61 (xso SM ad ws_186) x7_172.toInt := HE.trans (by rw [(xso_A (i := 19) hO_188 h.2 kSM_19 rfl u_187), (xg1 e_183 : v_182.toInt = (xso SM ad ws_173) 1 18 x7_172.toInt.toNat)]; rfl)
                  refine y_inc (kp := 0) (n := 1) (fun v_189 => [(7, .int v_189), (0, .ref (ad 0)), (1, .int a1), (2, .int a2), (3, .int a3), (4, .int a4), (5, .int a5), (6, .int a6)]) C0 hl rfl (by decide) (by decide) (fun _ => rfl) (o38_129 l2 u2 al0 ah0 e_3 e_4 qh_5 c_6 b_179 b_180 hn_178 c_181 (le_min x7_172) (le_max x7_172) (le_min a2) (le_max a2) (le_min ap0) (le_max ap0) (le_min v_1) (le_max v_1)) (o38_130 l2 u2 al0 ah0 e_3 e_4 qh_5 c_6 b_179 b_180 hn_178 c_181 (le_min x7_172) (le_max x7_172) (le_min a2) (le_max a2) (le_min ap0) (le_max ap0) (le_min v_1) (le_max v_1)) dX12_goesRound_81 (fun v_189 ls e_190 hl => ?_)
                  refine lv_goto (tgt := 61) C0.1 C0.2.1 dX12_goesRound_84 (by decide) ?_
                  exact ih_176 v_189 _ _ _ _ (o38_131 l2 u2 al0 ah0 e_3 e_4 qh_5 c_6 b_179 b_180 hn_178 c_181 e_190) (o38_132 l2 u2 al0 ah0 e_3 e_4 qh_5 c_6 b_179 b_180 hn_178 c_181 e_190) (o38_133 l2 u2 al0 ah0 e_3 e_4 qh_5 c_6 b_179 b_180 hn_178 c_181 e_190) (((show FT = R61 (xso SM ad ws_186) v_189.toInt from HE.trans (by rw [e_190]; rfl)).trans (by rw [hR61]))) h (Fr.tr hF_174 (Fr.up u_187.1 kSM_19 (by decide))) (lv_sub hl [0, 1, 2, 3, 4, 5, 6, 7] rfl)
            exact lp_175 ((2 - v_170.toInt + 1).toNat) v_170 _ _ _ _ (o38_134 e_171) (o38_19 e_171) (o38_135 e_171) ((show FT = L49_X12_goesRound_2 (Int.toNat (2 - v_170.toInt + 1)) (xso SM ad ws_168) v_170.toInt from HE.trans (by rw [e_171]; rfl))) h Fr.rf (lv_sub hl [0, 1, 2, 3, 4, 5, 6, 7] rfl)
          · -- 42
            replace HE : FT = g46_X12_goesRound_2 (xso SM ad ws0) := HE.trans (if_neg (Int.not_lt.mpr c_165))
            replace HE : FT = ((xso SM ad ws0), 0) := HE.trans rfl
            rw [hQ]
            exact y_vret C0 h Fr.rf (congrArg Prod.fst (HE.symm.trans hFT)) dX12_goesRound_45
noncomputable def g7_X12_goesRound_1 (s : XS) : XR := (s, 0)
noncomputable def g18c_X12_goesRound_1 (R91 : XS → Int → Int → Int → Int → Int → Int → XR) (s : XS) (a1 : Int) (a3 : Int) (a4 : Int) (a5 : Int) (a6 : Int) (x7_9 : Int) : XR := R91 s a1 a3 a4 a5 a6 ((x7_9 + 1))
noncomputable def g17w_X12_goesRound_1 (R91 : XS → Int → Int → Int → Int → Int → Int → XR) (s : XS) (a1 : Int) (a3 : Int) (a4 : Int) (a5 : Int) (a6 : Int) (x7_9 : Int) (r_50 : Int) : XR := g18c_X12_goesRound_1 R91 ((f_X12_goesRound_2 s a1 (1 + 1) (Xior a3 (Xishl 1 x7_9)) (s 0 0 28) (Xiadd a5 r_50) (Xiadd a6 (s 0 0 37))).1) a1 a3 a4 a5 a6 x7_9
noncomputable def g15_X12_goesRound_1 (R91 : XS → Int → Int → Int → Int → Int → Int → XR) (s : XS) (a1 : Int) (a3 : Int) (a4 : Int) (a5 : Int) (a6 : Int) (x7_9 : Int) (v_45 : Int) (r_50 : Int) : XR := g17w_X12_goesRound_1 R91 (xup s 1 18 (Int.toNat 1) (v_45)) a1 a3 a4 a5 a6 x7_9 r_50
noncomputable def g16_X12_goesRound_1 (R91 : XS → Int → Int → Int → Int → Int → Int → XR) (s : XS) (a1 : Int) (a3 : Int) (a4 : Int) (a5 : Int) (a6 : Int) (x7_9 : Int) : XR := R91 s a1 a3 a4 a5 a6 ((x7_9 + 1))
noncomputable def g14b_X12_goesRound_1 (R91 : XS → Int → Int → Int → Int → Int → Int → XR) (s : XS) (r_50 : Int) (a1 : Int) (a3 : Int) (a4 : Int) (a5 : Int) (a6 : Int) (x7_9 : Int) (v_45 : Int) : XR := if r_50 = 1000000000 then g16_X12_goesRound_1 R91 s a1 a3 a4 a5 a6 x7_9 else g15_X12_goesRound_1 R91 s a1 a3 a4 a5 a6 x7_9 v_45 r_50
noncomputable def g13c_X12_goesRound_1 (R91 : XS → Int → Int → Int → Int → Int → Int → XR) (s : XS) (r_50 : Int) (a1 : Int) (a3 : Int) (a4 : Int) (a5 : Int) (a6 : Int) (x7_9 : Int) (v_45 : Int) : XR := g14b_X12_goesRound_1 R91 s r_50 a1 a3 a4 a5 a6 x7_9 v_45
noncomputable def g11_X12_goesRound_1 (R91 : XS → Int → Int → Int → Int → Int → Int → XR) (s : XS) (a1 : Int) (a3 : Int) (a4 : Int) (a5 : Int) (a6 : Int) (x7_9 : Int) : XR := g13c_X12_goesRound_1 R91 ((f_X12_leg s a4 a6 ((s 2 25 (Int.toNat ((40 * a1) + x7_9))))).1) (((f_X12_leg s a4 a6 ((s 2 25 (Int.toNat ((40 * a1) + x7_9))))).2)) a1 a3 a4 a5 a6 x7_9 (((s 2 25 (Int.toNat ((40 * a1) + x7_9)))))
noncomputable def g12_X12_goesRound_1 (R91 : XS → Int → Int → Int → Int → Int → Int → XR) (s : XS) (a1 : Int) (a3 : Int) (a4 : Int) (a5 : Int) (a6 : Int) (x7_9 : Int) : XR := R91 s a1 a3 a4 a5 a6 ((x7_9 + 1))
noncomputable def g10b_X12_goesRound_1 (R91 : XS → Int → Int → Int → Int → Int → Int → XR) (s : XS) (r_29 : Int) (a1 : Int) (a3 : Int) (a4 : Int) (a5 : Int) (a6 : Int) (x7_9 : Int) : XR := if r_29 = 0 then g11_X12_goesRound_1 R91 s a1 a3 a4 a5 a6 x7_9 else g12_X12_goesRound_1 R91 s a1 a3 a4 a5 a6 x7_9
noncomputable def g9c_X12_goesRound_1 (R91 : XS → Int → Int → Int → Int → Int → Int → XR) (s : XS) (r_29 : Int) (a1 : Int) (a3 : Int) (a4 : Int) (a5 : Int) (a6 : Int) (x7_9 : Int) : XR := g10b_X12_goesRound_1 R91 s r_29 a1 a3 a4 a5 a6 x7_9
noncomputable def g8_X12_goesRound_1 (R91 : XS → Int → Int → Int → Int → Int → Int → XR) (s : XS) (a1 : Int) (a3 : Int) (a4 : Int) (a5 : Int) (a6 : Int) (x7_9 : Int) : XR := g9c_X12_goesRound_1 R91 ((f_X12_isIn s a3 x7_9).1) (((f_X12_isIn s a3 x7_9).2)) a1 a3 a4 a5 a6 x7_9
noncomputable def g6b_X12_goesRound_1 (R91 : XS → Int → Int → Int → Int → Int → Int → XR) (s : XS) (v_18 : Int) (x7_9 : Int) (a1 : Int) (a3 : Int) (a4 : Int) (a5 : Int) (a6 : Int) : XR := if x7_9 < v_18 then g8_X12_goesRound_1 R91 s a1 a3 a4 a5 a6 x7_9 else g7_X12_goesRound_1 s
noncomputable def g5l_X12_goesRound_1 (R91 : XS → Int → Int → Int → Int → Int → Int → XR) (s : XS) (a1 : Int) (a3 : Int) (a4 : Int) (a5 : Int) (a6 : Int) (x7_9 : Int) : XR := g6b_X12_goesRound_1 R91 s ((s 1 24 (Int.toNat a1))) x7_9 a1 a3 a4 a5 a6
noncomputable def L4_X12_goesRound_1 (n : Nat) : XS → Int → Int → Int → Int → Int → Int → XR := Nat.rec (motive := fun _ => XS → Int → Int → Int → Int → Int → Int → XR) (fun s _ _ _ _ _ _ => (s, 0)) (fun _ R91 => g5l_X12_goesRound_1 R91) n
noncomputable def g2_X12_goesRound_1 (s : XS) (a1 : Int) (a3 : Int) (a4 : Int) (a5 : Int) (a6 : Int) : XR := L4_X12_goesRound_1 (Int.toNat (4 - 0 + 1)) s a1 a3 a4 a5 a6 0
noncomputable def g27_X12_goesRound_1 (s : XS) : XR := (s, 0)
noncomputable def g29w_X12_goesRound_1 (R61 : XS → Int → XR) (s : XS) : XR := R61 s ((0 + 1))
noncomputable def g28_X12_goesRound_1 (R61 : XS → Int → XR) (s : XS) : XR := g29w_X12_goesRound_1 R61 (xup s 1 19 (Int.toNat 0) ((s 1 18 (Int.toNat 0))))
noncomputable def g26b_X12_goesRound_1 (R61 : XS → Int → XR) (s : XS) (x7_105 : Int) : XR := if x7_105 < 1 then g28_X12_goesRound_1 R61 s else g27_X12_goesRound_1 s
noncomputable def g25l_X12_goesRound_1 (R61 : XS → Int → XR) (s : XS) (x7_105 : Int) : XR := g26b_X12_goesRound_1 R61 s x7_105
noncomputable def L24_X12_goesRound_1 (n : Nat) : XS → Int → XR := Nat.rec (motive := fun _ => XS → Int → XR) (fun s _ => (s, 0)) (fun _ R61 => g25l_X12_goesRound_1 R61) n
noncomputable def g23w_X12_goesRound_1 (s : XS) : XR := L24_X12_goesRound_1 (Int.toNat (1 - 0 + 1)) s 0
noncomputable def g22w_X12_goesRound_1 (s : XS) (a6 : Int) : XR := g23w_X12_goesRound_1 (xup s 0 0 36 a6)
noncomputable def g20_X12_goesRound_1 (s : XS) (a5 : Int) (a6 : Int) : XR := g22w_X12_goesRound_1 (xup s 0 0 35 a5) a6
noncomputable def g31_X12_goesRound_1 (s : XS) : XR := (s, 0)
noncomputable def g41_X12_goesRound_1 (s : XS) : XR := (s, 0)
noncomputable def g43w_X12_goesRound_1 (R61 : XS → Int → XR) (s : XS) : XR := R61 s ((0 + 1))
noncomputable def g42_X12_goesRound_1 (R61 : XS → Int → XR) (s : XS) : XR := g43w_X12_goesRound_1 R61 (xup s 1 19 (Int.toNat 0) ((s 1 18 (Int.toNat 0))))
noncomputable def g40b_X12_goesRound_1 (R61 : XS → Int → XR) (s : XS) (x7_144 : Int) : XR := if x7_144 < 1 then g42_X12_goesRound_1 R61 s else g41_X12_goesRound_1 s
noncomputable def g39l_X12_goesRound_1 (R61 : XS → Int → XR) (s : XS) (x7_144 : Int) : XR := g40b_X12_goesRound_1 R61 s x7_144
noncomputable def L38_X12_goesRound_1 (n : Nat) : XS → Int → XR := Nat.rec (motive := fun _ => XS → Int → XR) (fun s _ => (s, 0)) (fun _ R61 => g39l_X12_goesRound_1 R61) n
noncomputable def g37w_X12_goesRound_1 (s : XS) : XR := L38_X12_goesRound_1 (Int.toNat (1 - 0 + 1)) s 0
noncomputable def g36w_X12_goesRound_1 (s : XS) (a6 : Int) : XR := g37w_X12_goesRound_1 (xup s 0 0 36 a6)
noncomputable def g34_X12_goesRound_1 (s : XS) (a5 : Int) (a6 : Int) : XR := g36w_X12_goesRound_1 (xup s 0 0 35 a5) a6
noncomputable def g52_X12_goesRound_1 (s : XS) : XR := (s, 0)
noncomputable def g54w_X12_goesRound_1 (R61 : XS → Int → XR) (s : XS) : XR := R61 s ((0 + 1))
noncomputable def g53_X12_goesRound_1 (R61 : XS → Int → XR) (s : XS) : XR := g54w_X12_goesRound_1 R61 (xup s 1 19 (Int.toNat 0) ((s 1 18 (Int.toNat 0))))
noncomputable def g51b_X12_goesRound_1 (R61 : XS → Int → XR) (s : XS) (x7_176 : Int) : XR := if x7_176 < 1 then g53_X12_goesRound_1 R61 s else g52_X12_goesRound_1 s
noncomputable def g50l_X12_goesRound_1 (R61 : XS → Int → XR) (s : XS) (x7_176 : Int) : XR := g51b_X12_goesRound_1 R61 s x7_176
noncomputable def L49_X12_goesRound_1 (n : Nat) : XS → Int → XR := Nat.rec (motive := fun _ => XS → Int → XR) (fun s _ => (s, 0)) (fun _ R61 => g50l_X12_goesRound_1 R61) n
noncomputable def g48w_X12_goesRound_1 (s : XS) : XR := L49_X12_goesRound_1 (Int.toNat (1 - 0 + 1)) s 0
noncomputable def g47w_X12_goesRound_1 (s : XS) (a6 : Int) : XR := g48w_X12_goesRound_1 (xup s 0 0 36 a6)
noncomputable def g45_X12_goesRound_1 (s : XS) (a5 : Int) (a6 : Int) : XR := g47w_X12_goesRound_1 (xup s 0 0 35 a5) a6
noncomputable def g46_X12_goesRound_1 (s : XS) : XR := (s, 0)
noncomputable def g44b_X12_goesRound_1 (s : XS) (v_165 : Int) (a6 : Int) (a5 : Int) : XR := if a6 < v_165 then g45_X12_goesRound_1 s a5 a6 else g46_X12_goesRound_1 s
noncomputable def g35_X12_goesRound_1 (s : XS) (a5 : Int) (a6 : Int) : XR := g44b_X12_goesRound_1 s ((s 0 0 36)) a6 a5
noncomputable def g33b_X12_goesRound_1 (s : XS) (v_132 : Int) (a5 : Int) (a6 : Int) : XR := if a5 = v_132 then g35_X12_goesRound_1 s a5 a6 else g34_X12_goesRound_1 s a5 a6
noncomputable def g32_X12_goesRound_1 (s : XS) (a5 : Int) (a6 : Int) : XR := g33b_X12_goesRound_1 s ((s 0 0 35)) a5 a6
noncomputable def g30b_X12_goesRound_1 (s : XS) (v_126 : Int) (a5 : Int) (a6 : Int) : XR := if v_126 < a5 then g31_X12_goesRound_1 s else g32_X12_goesRound_1 s a5 a6
noncomputable def g21_X12_goesRound_1 (s : XS) (a5 : Int) (a6 : Int) : XR := g30b_X12_goesRound_1 s ((s 0 0 35)) a5 a6
noncomputable def g19b_X12_goesRound_1 (s : XS) (v_92 : Int) (a5 : Int) (a6 : Int) : XR := if v_92 = ((-1)) then g20_X12_goesRound_1 s a5 a6 else g21_X12_goesRound_1 s a5 a6
noncomputable def g3_X12_goesRound_1 (s : XS) (a5 : Int) (a6 : Int) : XR := g19b_X12_goesRound_1 s ((s 0 0 35)) a5 a6
noncomputable def g1b_X12_goesRound_1 (s : XS) (v_1 : Int) (a1 : Int) (a3 : Int) (a4 : Int) (a5 : Int) (a6 : Int) : XR := if 1 = v_1 then g3_X12_goesRound_1 s a5 a6 else g2_X12_goesRound_1 s a1 a3 a4 a5 a6
noncomputable def f_X12_goesRound_1 (s : XS) (a1 : Int) (a2 : Int) (a3 : Int) (a4 : Int) (a5 : Int) (a6 : Int) : XR := g1b_X12_goesRound_1 s ((s 1 24 (Int.toNat a1))) a1 a3 a4 a5 a6
set_option maxHeartbeats 4000000 in
set_option maxRecDepth 100000 in
theorem c_X12_goesRound_1 (l : Launch) (G : GG) (Z : RZ) (ad : Nat → Nat) (ws0 : va_W) (hT : Ty G SM ad ws0) (a1 : Int32) (a2 : Int32) (a3 : Int32) (a4 : Int32) (a5 : Int32) (a6 : Int32) (l1 : 0 ≤ a1.toInt) (u1 : a1.toInt ≤ 3) (l2 : 1 ≤ a2.toInt) (u2 : a2.toInt ≤ 1) (l4 : 0 ≤ a4.toInt) (u4 : a4.toInt ≤ 99) (al0 : 1 ≤ (aI ws0 24 a1.toInt.toNat).toInt) (ah0 : (aI ws0 24 a1.toInt.toNat).toInt ≤ 4) (hN : NumOk ws0 a1) (hJ : J ws0) (hLd : Laid ws0) : Mq l yX12_goesRound cX12_goesRound 10 none 11 G Z [.ref (ad 0), .int a1, .int a2, .int a3, .int a4, .int a5, .int a6] ws0 (PV G SM ad [0, 5, 8, 9, 10, 11, 12, 13, 18, 19] ws0 (fun u => (xso SM ad u = (f_X12_goesRound_1 (xso SM ad ws0) a1.toInt a2.toInt a3.toInt a4.toInt a5.toInt a6.toInt).1))) := by
  refine Mq.start (by decide) (Nat.le_of_ble_eq_true rfl) ?_
  intro p e s m below meth c A ls C0 hZ h hl
  have hl : lv_has ls 10 [(0, .ref (ad 0)), (1, .int a1), (2, .int a2), (3, .int a3), (4, .int a4), (5, .int a5), (6, .int a6)] := hl
  have h : Wt G SM ad A s s.heap [] ws0 := ⟨h, hT⟩
  obtain ⟨args, hargs⟩ : ∃ z, z = ([.ref (ad 0), .int a1, .int a2, .int a3, .int a4, .int a5, .int a6] : List Value).toArray := ⟨_, rfl⟩
  rw [← hargs] at C0 ⊢
  have C0 : Cx p s m args meth c RX12 cX12_goesRound 10 none := C0
  obtain ⟨Q, hQ⟩ : ∃ z, z = MQ below ((PV G SM ad [0, 5, 8, 9, 10, 11, 12, 13, 18, 19] ws0 (fun u => (xso SM ad u = (f_X12_goesRound_1 (xso SM ad ws0) a1.toInt a2.toInt a3.toInt a4.toInt a5.toInt a6.toInt).1))) A) args s 0 0 A := ⟨_, rfl⟩
  rw [← hQ]
  obtain ⟨FT, hFT⟩ : ∃ z, z = f_X12_goesRound_1 (xso SM ad ws0) a1.toInt a2.toInt a3.toInt a4.toInt a5.toInt a6.toInt := ⟨_, rfl⟩
  have HE : FT = f_X12_goesRound_1 (xso SM ad ws0) a1.toInt a2.toInt a3.toInt a4.toInt a5.toInt a6.toInt := hFT
  obtain ⟨ap0, ea0⟩ : ∃ v, aI ws0 24 a1.toInt.toNat = v := ⟨_, rfl⟩
  rw [ea0] at al0 ah0
  refine lv_iload_n C0.1 C0.2.1 dX12_goesRound_0 rfl (lv_at hl 2 rfl) ?_
  refine lv_aload_n C0.1 C0.2.1 dX12_goesRound_1 rfl (lv_at hl 0 rfl) ?_
  refine ng_X12_rowMany C0 h kSM_0 q_1480 dX12_goesRound_2 ?_
  refine lv_iload_n C0.1 C0.2.1 dX12_goesRound_5 rfl (lv_at hl 1 rfl) ?_
  refine y_iald C0 h kSM_24 rfl (by decide) (o38_1 l1 u1) (o38_2 l1 u1) dX12_goesRound_6 (fun v_1 e_2 e_3 e_4 => ?_)
  have qh_5 : v_1.toInt = ap0.toInt := congrArg Int32.toInt (e_2.symm.trans (Eq.trans rfl (Eq.trans rfl ea0)))
  replace HE : FT = g1b_X12_goesRound_1 (xso SM ad ws0) v_1.toInt a1.toInt a3.toInt a4.toInt a5.toInt a6.toInt := HE.trans (by rw [(xg1 e_2 : v_1.toInt = (xso SM ad ws0) 1 24 a1.toInt.toNat)]; rfl)
  refine y_icmp_ne (tgt := 88) C0 dX12_goesRound_7 (by decide) (fun c_6 => ?_) (fun c_6 => ?_)
  · -- 7
    replace HE : FT = g2_X12_goesRound_1 (xso SM ad ws0) a1.toInt a3.toInt a4.toInt a5.toInt a6.toInt := HE.trans (if_neg (o38_137 l2 u2 al0 ah0 e_3 e_4 qh_5 c_6))
    refine y_c1 (n := 0) C0 (by decide) dX12_goesRound_88 (fun v_7 e_8 => ?_)
    refine lv_istore (lv' := [(7, .int v_7), (0, .ref (ad 0)), (1, .int a1), (2, .int a2), (3, .int a3), (4, .int a4), (5, .int a5), (6, .int a6)]) C0.1 C0.2.1 dX12_goesRound_89 hl (by decide) rfl (fun ls hl => ?_)
    have lp_12 : ∀ (n_14 : Nat) (x7_9 : Int32) (H : Heap) (locs : List Loc) (ls : Array Slot) (ws_10 : va_W), 4 - x7_9.toInt < (n_14 : Int) → 0 ≤ x7_9.toInt → x7_9.toInt ≤ 4 → (FT = L4_X12_goesRound_1 n_14 (xso SM ad ws_10) a1.toInt a3.toInt a4.toInt a5.toInt a6.toInt x7_9.toInt) → Wt G SM ad A s H locs ws_10 → Fr SM [0, 5, 8, 9, 10, 11, 12, 13, 18, 19] ws0 ws_10 → lv_has ls 10 [(7, .int x7_9), (0, .ref (ad 0)), (1, .int a1), (2, .int a2), (3, .int a3), (4, .int a4), (5, .int a5), (6, .int a6)] → W p l e (rmd 11 0 0) s m args below meth c H locs 0 0 Q (F0 m 91 ls []) := by
      intro n_14
      induction n_14 with
      | zero => intro x7_9 H locs ls ws_10 hn_15 b_16 b_17 HE h hF_11 hl; exact ((o38_7 b_16 b_17 hn_15)).elim
      | succ n_14 ih_13 =>
        intro x7_9 H locs ls ws_10 hn_15 b_16 b_17 HE h hF_11 hl
        obtain ⟨R91, hR91⟩ : ∃ z, z = L4_X12_goesRound_1 n_14 := ⟨_, rfl⟩
        replace HE : FT = g5l_X12_goesRound_1 R91 (xso SM ad ws_10) a1.toInt a3.toInt a4.toInt a5.toInt a6.toInt x7_9.toInt := HE.trans (by rw [hR91]; rfl)
        refine lv_iload C0.1 C0.2.1 dX12_goesRound_91 (lv_at hl 0 rfl) ?_
        refine lv_aload_n C0.1 C0.2.1 dX12_goesRound_93 rfl (lv_at hl 1 rfl) ?_
        refine ng_X12_rowMany C0 h kSM_0 q_1480 dX12_goesRound_94 ?_
        refine lv_iload_n C0.1 C0.2.1 dX12_goesRound_97 rfl (lv_at hl 2 rfl) ?_
        refine y_iald C0 h kSM_24 rfl (by decide) (o38_1 l1 u1) (o38_2 l1 u1) dX12_goesRound_98 (fun v_18 e_19 e_20 e_21 => ?_)
        have qh_22 : v_18.toInt = ap0.toInt := congrArg Int32.toInt (e_19.symm.trans (Eq.trans rfl (Eq.trans (Fr.aI hF_11 kSM_24 (by decide)) ea0)))
        replace HE : FT = g6b_X12_goesRound_1 R91 (xso SM ad ws_10) v_18.toInt x7_9.toInt a1.toInt a3.toInt a4.toInt a5.toInt a6.toInt := HE.trans (by rw [(xg1 e_19 : v_18.toInt = (xso SM ad ws_10) 1 24 a1.toInt.toNat)]; rfl)
        refine y_icmp_ge (tgt := 197) C0 dX12_goesRound_99 (by decide) (fun c_23 => ?_) (fun c_23 => ?_)
        · -- 99
          replace HE : FT = g7_X12_goesRound_1 (xso SM ad ws_10) := HE.trans (if_neg (Int.not_lt.mpr c_23))
          replace HE : FT = ((xso SM ad ws_10), 0) := HE.trans rfl
          rw [hQ]
          exact y_vret C0 h hF_11 (congrArg Prod.fst (HE.symm.trans hFT)) dX12_goesRound_197
        · -- 99
          replace HE : FT = g8_X12_goesRound_1 R91 (xso SM ad ws_10) a1.toInt a3.toInt a4.toInt a5.toInt a6.toInt x7_9.toInt := HE.trans (if_pos c_23)
          refine lv_iload_n C0.1 C0.2.1 dX12_goesRound_102 rfl (lv_at hl 4 rfl) ?_
          refine y_i2l C0 dX12_goesRound_103 (fun w_24 e_25 => ?_)
          refine lv_iload C0.1 C0.2.1 dX12_goesRound_104 (lv_at hl 0 rfl) ?_
          refine y_ci h (y_rS (As := [.long w_24, .int x7_9]) (rest := []) C0 hZ h (c_X12_isIn l G Z ad _ h.2 w_24 x7_9) k_X12_isIn q_1716 q_1715 hl.1 rfl rfl (Nat.le_of_ble_eq_true rfl) dX12_goesRound_106 ⟨Nat.le_of_ble_eq_true rfl, Nat.le_of_ble_eq_true rfl⟩ ⟨Nat.le_of_ble_eq_true rfl, Nat.le_of_ble_eq_true rfl⟩) (fun r_29 H locs ws_26 h u_27 p_28 => ?_)
          obtain ⟨e_30, e_31, e_32, e_33, e_34⟩ := p_28
          replace HE : FT = g9c_X12_goesRound_1 R91 (xso SM ad ws_26) r_29.toInt a1.toInt a3.toInt a4.toInt a5.toInt a6.toInt x7_9.toInt := HE.trans (by rw [e_30, e_31, e_25]; rfl)
          replace HE : FT = g10b_X12_goesRound_1 R91 (xso SM ad ws_26) r_29.toInt a1.toInt a3.toInt a4.toInt a5.toInt a6.toInt x7_9.toInt := HE.trans rfl
          refine y_if_eq (tgt := 115) C0 dX12_goesRound_109 (by decide) (fun c_35 => ?_) (fun c_35 => ?_)
          · -- 109
            replace HE : FT = g11_X12_goesRound_1 R91 (xso SM ad ws_26) a1.toInt a3.toInt a4.toInt a5.toInt a6.toInt x7_9.toInt := HE.trans (if_pos c_35)
            refine lv_aload_n C0.1 C0.2.1 dX12_goesRound_115 rfl (lv_at hl 1 rfl) ?_
            refine ng_X12_numbers C0 h kSM_0 q_1481 dX12_goesRound_116 ?_
            refine y_c2 (n := 40) C0 (by decide) dX12_goesRound_119 (fun v_36 e_37 => ?_)
            refine lv_iload_n C0.1 C0.2.1 dX12_goesRound_121 rfl (lv_at hl 2 rfl) ?_
            refine y_cmul (n := 40) C0 (o38_27 e_37) (o38_28 l1 u1 (le_min a1) (le_max a1)) (o38_29 l1 u1 (le_min a1) (le_max a1)) dX12_goesRound_122 (fun v_38 e_39 => ?_)
            refine lv_iload C0.1 C0.2.1 dX12_goesRound_123 (lv_at hl 0 rfl) ?_
            refine y_add C0 (o38_139 l1 u1 l2 u2 al0 ah0 e_3 e_4 qh_5 c_6 b_16 b_17 hn_15 e_20 e_21 qh_22 c_23 e_39 (le_min v_38) (le_max v_38) (le_min x7_9) (le_max x7_9) (le_min a1) (le_max a1) (le_min a2) (le_max a2) (le_min ap0) (le_max ap0) (le_min v_1) (le_max v_1) (le_min v_18) (le_max v_18)) (o38_140 l1 u1 l2 u2 al0 ah0 e_3 e_4 qh_5 c_6 b_16 b_17 hn_15 e_20 e_21 qh_22 c_23 e_39 (le_min v_38) (le_max v_38) (le_min x7_9) (le_max x7_9) (le_min a1) (le_max a1) (le_min a2) (le_max a2) (le_min ap0) (le_max ap0) (le_min v_1) (le_max v_1) (le_min v_18) (le_max v_18)) dX12_goesRound_125 (fun v_40 e_41 => ?_)
            refine y_lald C0 h kSM_25 rfl (by decide) (o38_141 l1 u1 l2 u2 al0 ah0 e_3 e_4 qh_5 c_6 b_16 b_17 hn_15 e_20 e_21 qh_22 c_23 e_39 e_41) (o38_142 l1 u1 l2 u2 al0 ah0 e_3 e_4 qh_5 c_6 b_16 b_17 hn_15 e_20 e_21 qh_22 c_23 e_39 e_41) dX12_goesRound_126 (fun w_42 e_43 => ?_)
            have g_44 := num_at (NumOk.fr (M := [0, 5, 8, 9, 10, 11, 12, 13, 18, 19]) hN (Fr.tr hF_11 (Fr.mono u_27 (by decide))) (by decide) (by decide)) (Eq.trans rfl (Eq.trans (Eq.trans (Fr.aI u_27 kSM_24 (by decide)) (Fr.aI hF_11 kSM_24 (by decide))) ea0)) (o38_143 l1 u1 l2 u2 al0 ah0 e_3 e_4 qh_5 c_6 b_16 b_17 hn_15 e_20 e_21 qh_22 c_23 e_39 e_41) (o38_144 l1 u1 l2 u2 al0 ah0 e_3 e_4 qh_5 c_6 b_16 b_17 hn_15 e_20 e_21 qh_22 c_23 e_39 e_41) e_43
            refine y_l2i C0 (o38_36 g_44.1 g_44.2) (o38_37 g_44.1 g_44.2) dX12_goesRound_127 (fun v_45 e_46 => ?_)
            refine lv_istore (lv' := [(8, .int v_45), (7, .int x7_9), (0, .ref (ad 0)), (1, .int a1), (2, .int a2), (3, .int a3), (4, .int a4), (5, .int a5), (6, .int a6)]) C0.1 C0.2.1 dX12_goesRound_128 hl (by decide) rfl (fun ls hl => ?_)
            refine lv_aload_n C0.1 C0.2.1 dX12_goesRound_130 rfl (lv_at hl 2 rfl) ?_
            refine lv_iload C0.1 C0.2.1 dX12_goesRound_131 (lv_at hl 6 rfl) ?_
            refine lv_iload C0.1 C0.2.1 dX12_goesRound_133 (lv_at hl 8 rfl) ?_
            refine lv_iload C0.1 C0.2.1 dX12_goesRound_135 (lv_at hl 0 rfl) ?_
            refine y_ci h (y_rV (As := [.int a4, .int a6, .int v_45]) (rest := []) C0 hZ h (c_X12_leg l G Z ad _ h.2 a4 a6 v_45 (o38_38 l4 u4) (o38_39 l4 u4) (o38_40 g_44.1 g_44.2 e_46) (o38_41 g_44.1 g_44.2 e_46) (J.pa hT hJ (Pa.tr (Pa.fr hF_11 (by decide)) (Pa.fr u_27 (by decide)))) (Laid.pa hLd (Pa.tr (Pa.fr hF_11 (by decide)) (Pa.fr u_27 (by decide))))) k_X12_leg q_1970 q_114 q_1968 kSM_0 rfl rfl rfl hl.1 rfl rfl (Nat.le_of_ble_eq_true rfl) dX12_goesRound_137 ⟨Nat.le_of_ble_eq_true rfl, Nat.le_of_ble_eq_true rfl⟩ ⟨Nat.le_of_ble_eq_true rfl, Nat.le_of_ble_eq_true rfl⟩) (fun r_50 H locs ws_47 h u_48 p_49 => ?_)
            obtain ⟨e_51, e_52⟩ := p_49
            replace HE : FT = g13c_X12_goesRound_1 R91 (xso SM ad ws_47) r_50.toInt a1.toInt a3.toInt a4.toInt a5.toInt a6.toInt x7_9.toInt v_45.toInt := HE.trans (by rw [e_51, e_52, e_46, (xg2 e_43 : w_42.toInt = (xso SM ad ws_26) 2 25 v_40.toInt.toNat), e_41, e_39]; rfl)
            refine lv_istore (lv' := [(9, .int r_50), (8, .int v_45), (7, .int x7_9), (0, .ref (ad 0)), (1, .int a1), (2, .int a2), (3, .int a3), (4, .int a4), (5, .int a5), (6, .int a6)]) C0.1 C0.2.1 dX12_goesRound_140 hl (by decide) rfl (fun ls hl => ?_)
            refine lv_iload C0.1 C0.2.1 dX12_goesRound_142 (lv_at hl 0 rfl) ?_
            refine y_c5 (n := 1000000000) C0 q_1887 (by decide) dX12_goesRound_144 (fun v_53 e_54 => ?_)
            replace HE : FT = g14b_X12_goesRound_1 R91 (xso SM ad ws_47) r_50.toInt a1.toInt a3.toInt a4.toInt a5.toInt a6.toInt x7_9.toInt v_45.toInt := HE.trans rfl
            refine y_icmp_ne (tgt := 153) C0 dX12_goesRound_147 (by decide) (fun c_55 => ?_) (fun c_55 => ?_)
            · -- 147
              replace HE : FT = g15_X12_goesRound_1 R91 (xso SM ad ws_47) a1.toInt a3.toInt a4.toInt a5.toInt a6.toInt x7_9.toInt v_45.toInt r_50.toInt := HE.trans (if_neg (o38_43 e_54 c_55))
              refine lv_aload_n C0.1 C0.2.1 dX12_goesRound_153 rfl (lv_at hl 3 rfl) ?_
              refine ng_X12_taken C0 h kSM_0 q_1471 dX12_goesRound_154 ?_
              refine lv_iload_n C0.1 C0.2.1 dX12_goesRound_157 rfl (lv_at hl 5 rfl) ?_
              refine lv_iload C0.1 C0.2.1 dX12_goesRound_158 (lv_at hl 1 rfl) ?_
              have hO_58 := h.2
              refine y_iast C0 h kSM_18 rfl (by decide) (o38_145 l1 u1 l2 u2 al0 ah0 e_3 e_4 qh_5 c_6 b_16 b_17 hn_15 e_20 e_21 qh_22 c_23 e_39 e_41) (o38_146 l1 u1 l2 u2 al0 ah0 e_3 e_4 qh_5 c_6 b_16 b_17 hn_15 e_20 e_21 qh_22 c_23 e_39 e_41) (le_min v_45) (le_max v_45) dX12_goesRound_160 (fun H locs ws_56 h u_57 => ?_)
              have e_59 : aI ws_56 18 1 = v_45 := (congrArg (aI ws_56 18) (ix_c (c := 1) (o38_147 l1 u1 l2 u2 al0 ah0 e_3 e_4 qh_5 c_6 b_16 b_17 hn_15 e_20 e_21 qh_22 c_23 e_39 e_41))).symm.trans u_57.2.1
              replace HE : FT = g17w_X12_goesRound_1 R91 (xso SM ad ws_56) a1.toInt a3.toInt a4.toInt a5.toInt a6.toInt x7_9.toInt r_50.toInt := HE.trans (by rw [(xso_A (i := 18) hO_58 h.2 kSM_18 rfl u_57), (o38_148 l1 u1 l2 u2 al0 ah0 e_3 e_4 qh_5 c_6 b_16 b_17 hn_15 e_20 e_21 qh_22 c_23 e_39 e_41)]; rfl)
              refine lv_aload_n C0.1 C0.2.1 dX12_goesRound_161 rfl (lv_at hl 3 rfl) ?_
              refine lv_iload_n C0.1 C0.2.1 dX12_goesRound_162 rfl (lv_at hl 4 rfl) ?_
              refine lv_iload_n C0.1 C0.2.1 dX12_goesRound_163 rfl (lv_at hl 5 rfl) ?_
              refine y_c1 (n := 1) C0 (by decide) dX12_goesRound_164 (fun v_60 e_61 => ?_)
              refine y_add C0 (o38_149 l1 u1 l2 u2 al0 ah0 e_3 e_4 qh_5 c_6 b_16 b_17 hn_15 e_20 e_21 qh_22 c_23 e_39 e_41 e_61 (le_min a2) (le_max a2) (le_min v_60) (le_max v_60) (le_min a1) (le_max a1) (le_min ap0) (le_max ap0) (le_min v_1) (le_max v_1) (le_min x7_9) (le_max x7_9) (le_min v_18) (le_max v_18) (le_min v_38) (le_max v_38) (le_min v_40) (le_max v_40)) (o38_150 l1 u1 l2 u2 al0 ah0 e_3 e_4 qh_5 c_6 b_16 b_17 hn_15 e_20 e_21 qh_22 c_23 e_39 e_41 e_61 (le_min a2) (le_max a2) (le_min v_60) (le_max v_60) (le_min a1) (le_max a1) (le_min ap0) (le_max ap0) (le_min v_1) (le_max v_1) (le_min x7_9) (le_max x7_9) (le_min v_18) (le_max v_18) (le_min v_38) (le_max v_38) (le_min v_40) (le_max v_40)) dX12_goesRound_165 (fun v_62 e_63 => ?_)
              refine lv_iload_n C0.1 C0.2.1 dX12_goesRound_166 rfl (lv_at hl 6 rfl) ?_
              refine y_c1 (n := 1) C0 (by decide) dX12_goesRound_167 (fun v_64 e_65 => ?_)
              refine lv_iload C0.1 C0.2.1 dX12_goesRound_168 (lv_at hl 2 rfl) ?_
              refine xr_ishl C0 dX12_goesRound_170 (fun v_66 e_67 => ?_)
              refine xr_ior C0 dX12_goesRound_171 (fun v_68 e_69 => ?_)
              refine lv_aload_n C0.1 C0.2.1 dX12_goesRound_172 rfl (lv_at hl 3 rfl) ?_
              refine ng_X12_endsAt C0 h kSM_0 q_1466 dX12_goesRound_173 (fun v_70 e_71 e_72 e_73 => ?_)
              refine lv_iload C0.1 C0.2.1 dX12_goesRound_176 (lv_at hl 8 rfl) ?_
              refine lv_iload C0.1 C0.2.1 dX12_goesRound_178 (lv_at hl 0 rfl) ?_
              refine xr_iadd C0 dX12_goesRound_180 (fun v_74 e_75 => ?_)
              refine lv_iload C0.1 C0.2.1 dX12_goesRound_181 (lv_at hl 9 rfl) ?_
              refine lv_aload_n C0.1 C0.2.1 dX12_goesRound_183 rfl (lv_at hl 3 rfl) ?_
              refine ng_X12_legStreets C0 h kSM_0 q_1475 dX12_goesRound_184 (fun v_76 e_77 e_78 e_79 => ?_)
              refine xr_iadd C0 dX12_goesRound_187 (fun v_80 e_81 => ?_)
              refine y_cv h (y_rV (As := [.int a1, .int v_62, .int v_68, .int v_70, .int v_74, .int v_80]) (rest := []) C0 hZ h (c_X12_goesRound_2 l G Z ad _ h.2 a1 v_62 v_68 v_70 v_74 v_80 (o38_151 l1 u1 l2 u2 al0 ah0 e_3 e_4 qh_5 c_6 b_16 b_17 hn_15 e_20 e_21 qh_22 c_23 e_39 e_41 e_61 e_63) (o38_152 l1 u1 l2 u2 al0 ah0 e_3 e_4 qh_5 c_6 b_16 b_17 hn_15 e_20 e_21 qh_22 c_23 e_39 e_41 e_61 e_63) (o38_153 l1 u1 l2 u2 al0 ah0 e_3 e_4 qh_5 c_6 b_16 b_17 hn_15 e_20 e_21 qh_22 c_23 e_39 e_41 e_61 e_63) (o38_154 l1 u1 l2 u2 al0 ah0 e_3 e_4 qh_5 c_6 b_16 b_17 hn_15 e_20 e_21 qh_22 c_23 e_39 e_41 e_61 e_63) (o38_38 e_72 e_73) (o38_39 e_72 e_73) (fbd_lo (Eq.trans rfl (Eq.trans (Eq.trans (aI_of (u_57.1 24 (kd_ne kSM_24 kSM_18 (by decide)))) (Eq.trans (Fr.aI u_48 kSM_24 (by decide)) (Eq.trans (Fr.aI u_27 kSM_24 (by decide)) (Fr.aI hF_11 kSM_24 (by decide))))) ea0)) (o38_155 l1 u1 l2 u2 al0 ah0 e_3 e_4 qh_5 c_6 b_16 b_17 hn_15 e_20 e_21 qh_22 c_23 e_39 e_41 e_61 e_63)) (fbd_hi (Eq.trans rfl (Eq.trans (Eq.trans (aI_of (u_57.1 24 (kd_ne kSM_24 kSM_18 (by decide)))) (Eq.trans (Fr.aI u_48 kSM_24 (by decide)) (Eq.trans (Fr.aI u_27 kSM_24 (by decide)) (Fr.aI hF_11 kSM_24 (by decide))))) ea0)) (o38_156 l1 u1 l2 u2 al0 ah0 e_3 e_4 qh_5 c_6 b_16 b_17 hn_15 e_20 e_21 qh_22 c_23 e_39 e_41 e_61 e_63)) (NumOk.fr (M := [0, 5, 8, 9, 10, 11, 12, 13, 18, 19]) hN (Fr.tr (Fr.tr (Fr.tr hF_11 (Fr.mono u_27 (by decide))) (Fr.mono u_48 (by decide))) (Fr.up u_57.1 kSM_18 (by decide))) (by decide) (by decide)) (J.pa hT hJ (Pa.tr (Pa.tr (Pa.tr (Pa.fr hF_11 (by decide)) (Pa.fr u_27 (by decide))) (Pa.fr u_48 (by decide))) (Pa.ud u_57.1 (by decide)))) (Laid.pa hLd (Pa.tr (Pa.tr (Pa.tr (Pa.fr hF_11 (by decide)) (Pa.fr u_27 (by decide))) (Pa.fr u_48 (by decide))) (Pa.ud u_57.1 (by decide))))) k_X12_goesRound q_1966 q_113 q_1964 kSM_0 rfl rfl rfl hl.1 rfl rfl (Nat.le_of_ble_eq_true rfl) dX12_goesRound_188 ⟨Nat.le_of_ble_eq_true rfl, Nat.le_of_ble_eq_true rfl⟩ ⟨Nat.le_of_ble_eq_true rfl, Nat.le_of_ble_eq_true rfl⟩) (fun H locs ws_82 h u_83 p_84 => ?_)
              have e_85 := p_84
              replace HE : FT = g18c_X12_goesRound_1 R91 (xso SM ad ws_82) a1.toInt a3.toInt a4.toInt a5.toInt a6.toInt x7_9.toInt := HE.trans (by rw [e_85, e_81, (xg0 e_77 : v_76.toInt = (xso SM ad ws_56) 0 0 37), e_75, (xg0 e_71 : v_70.toInt = (xso SM ad ws_56) 0 0 28), e_69, e_67, e_65, e_63, e_61, (o38_157 l1 u1 l2 u2 al0 ah0 e_3 e_4 qh_5 c_6 b_16 b_17 hn_15 e_20 e_21 qh_22 c_23 e_39 e_41 e_61 e_63)]; rfl)
              refine y_inc (kp := 2) (n := 1) (fun v_86 => [(7, .int v_86), (9, .int r_50), (8, .int v_45), (0, .ref (ad 0)), (1, .int a1), (2, .int a2), (3, .int a3), (4, .int a4), (5, .int a5), (6, .int a6)]) C0 hl rfl (by decide) (by decide) (fun _ => rfl) (o38_158 l1 u1 l2 u2 al0 ah0 e_3 e_4 qh_5 c_6 b_16 b_17 hn_15 e_20 e_21 qh_22 c_23 e_39 e_41 e_61 e_63 (le_min x7_9) (le_max x7_9) (le_min a1) (le_max a1) (le_min a2) (le_max a2) (le_min ap0) (le_max ap0) (le_min v_1) (le_max v_1) (le_min v_18) (le_max v_18) (le_min v_38) (le_max v_38) (le_min v_40) (le_max v_40) (le_min v_60) (le_max v_60) (le_min v_62) (le_max v_62)) (o38_159 l1 u1 l2 u2 al0 ah0 e_3 e_4 qh_5 c_6 b_16 b_17 hn_15 e_20 e_21 qh_22 c_23 e_39 e_41 e_61 e_63 (le_min x7_9) (le_max x7_9) (le_min a1) (le_max a1) (le_min a2) (le_max a2) (le_min ap0) (le_max ap0) (le_min v_1) (le_max v_1) (le_min v_18) (le_max v_18) (le_min v_38) (le_max v_38) (le_min v_40) (le_max v_40) (le_min v_60) (le_max v_60) (le_min v_62) (le_max v_62)) dX12_goesRound_191 (fun v_86 ls e_87 hl => ?_)
              refine lv_goto (tgt := 91) C0.1 C0.2.1 dX12_goesRound_194 (by decide) ?_
              exact ih_13 v_86 _ _ _ _ (o38_160 l1 u1 l2 u2 al0 ah0 e_3 e_4 qh_5 c_6 b_16 b_17 hn_15 e_20 e_21 qh_22 c_23 e_39 e_41 e_61 e_63 e_87) (o38_161 l1 u1 l2 u2 al0 ah0 e_3 e_4 qh_5 c_6 b_16 b_17 hn_15 e_20 e_21 qh_22 c_23 e_39 e_41 e_61 e_63 e_87) (o38_162 l1 u1 l2 u2 al0 ah0 e_3 e_4 qh_5 c_6 b_16 b_17 hn_15 e_20 e_21 qh_22 c_23 e_39 e_41 e_61 e_63 e_87) (((show FT = R91 (xso SM ad ws_82) a1.toInt a3.toInt a4.toInt a5.toInt a6.toInt v_86.toInt from HE.trans (by rw [e_87]; rfl)).trans (by rw [hR91]))) h (Fr.tr (Fr.tr (Fr.tr (Fr.tr hF_11 (Fr.mono u_27 (by decide))) (Fr.mono u_48 (by decide))) (Fr.up u_57.1 kSM_18 (by decide))) u_83) (lv_sub hl [0, 3, 4, 5, 6, 7, 8, 9] rfl)
            · -- 147
              replace HE : FT = g16_X12_goesRound_1 R91 (xso SM ad ws_47) a1.toInt a3.toInt a4.toInt a5.toInt a6.toInt x7_9.toInt := HE.trans (if_pos (o38_44 e_54 c_55))
              refine lv_goto (tgt := 191) C0.1 C0.2.1 dX12_goesRound_150 (by decide) ?_
              refine y_inc (kp := 2) (n := 1) (fun v_88 => [(7, .int v_88), (9, .int r_50), (8, .int v_45), (0, .ref (ad 0)), (1, .int a1), (2, .int a2), (3, .int a3), (4, .int a4), (5, .int a5), (6, .int a6)]) C0 hl rfl (by decide) (by decide) (fun _ => rfl) (o38_163 l1 u1 l2 u2 al0 ah0 e_3 e_4 qh_5 c_6 b_16 b_17 hn_15 e_20 e_21 qh_22 c_23 e_39 e_41 (le_min x7_9) (le_max x7_9) (le_min a1) (le_max a1) (le_min a2) (le_max a2) (le_min ap0) (le_max ap0) (le_min v_1) (le_max v_1) (le_min v_18) (le_max v_18) (le_min v_38) (le_max v_38) (le_min v_40) (le_max v_40)) (o38_164 l1 u1 l2 u2 al0 ah0 e_3 e_4 qh_5 c_6 b_16 b_17 hn_15 e_20 e_21 qh_22 c_23 e_39 e_41 (le_min x7_9) (le_max x7_9) (le_min a1) (le_max a1) (le_min a2) (le_max a2) (le_min ap0) (le_max ap0) (le_min v_1) (le_max v_1) (le_min v_18) (le_max v_18) (le_min v_38) (le_max v_38) (le_min v_40) (le_max v_40)) dX12_goesRound_191 (fun v_88 ls e_89 hl => ?_)
              refine lv_goto (tgt := 91) C0.1 C0.2.1 dX12_goesRound_194 (by decide) ?_
              exact ih_13 v_88 _ _ _ _ (o38_165 l1 u1 l2 u2 al0 ah0 e_3 e_4 qh_5 c_6 b_16 b_17 hn_15 e_20 e_21 qh_22 c_23 e_39 e_41 e_89) (o38_166 l1 u1 l2 u2 al0 ah0 e_3 e_4 qh_5 c_6 b_16 b_17 hn_15 e_20 e_21 qh_22 c_23 e_39 e_41 e_89) (o38_167 l1 u1 l2 u2 al0 ah0 e_3 e_4 qh_5 c_6 b_16 b_17 hn_15 e_20 e_21 qh_22 c_23 e_39 e_41 e_89) (((show FT = R91 (xso SM ad ws_47) a1.toInt a3.toInt a4.toInt a5.toInt a6.toInt v_88.toInt from HE.trans (by rw [e_89]; rfl)).trans (by rw [hR91]))) h (Fr.tr (Fr.tr hF_11 (Fr.mono u_27 (by decide))) (Fr.mono u_48 (by decide))) (lv_sub hl [0, 3, 4, 5, 6, 7, 8, 9] rfl)
          · -- 109
            replace HE : FT = g12_X12_goesRound_1 R91 (xso SM ad ws_26) a1.toInt a3.toInt a4.toInt a5.toInt a6.toInt x7_9.toInt := HE.trans (if_neg c_35)
            refine lv_goto (tgt := 191) C0.1 C0.2.1 dX12_goesRound_112 (by decide) ?_
            refine y_inc (kp := 0) (n := 1) (fun v_90 => [(7, .int v_90), (0, .ref (ad 0)), (1, .int a1), (2, .int a2), (3, .int a3), (4, .int a4), (5, .int a5), (6, .int a6)]) C0 hl rfl (by decide) (by decide) (fun _ => rfl) (o38_168 l2 u2 al0 ah0 e_3 e_4 qh_5 c_6 b_16 b_17 hn_15 e_20 e_21 qh_22 c_23 (le_min x7_9) (le_max x7_9) (le_min a2) (le_max a2) (le_min ap0) (le_max ap0) (le_min v_1) (le_max v_1) (le_min v_18) (le_max v_18)) (o38_169 l2 u2 al0 ah0 e_3 e_4 qh_5 c_6 b_16 b_17 hn_15 e_20 e_21 qh_22 c_23 (le_min x7_9) (le_max x7_9) (le_min a2) (le_max a2) (le_min ap0) (le_max ap0) (le_min v_1) (le_max v_1) (le_min v_18) (le_max v_18)) dX12_goesRound_191 (fun v_90 ls e_91 hl => ?_)
            refine lv_goto (tgt := 91) C0.1 C0.2.1 dX12_goesRound_194 (by decide) ?_
            exact ih_13 v_90 _ _ _ _ (o38_170 l2 u2 al0 ah0 e_3 e_4 qh_5 c_6 b_16 b_17 hn_15 e_20 e_21 qh_22 c_23 e_91) (o38_171 l2 u2 al0 ah0 e_3 e_4 qh_5 c_6 b_16 b_17 hn_15 e_20 e_21 qh_22 c_23 e_91) (o38_172 l2 u2 al0 ah0 e_3 e_4 qh_5 c_6 b_16 b_17 hn_15 e_20 e_21 qh_22 c_23 e_91) (((show FT = R91 (xso SM ad ws_26) a1.toInt a3.toInt a4.toInt a5.toInt a6.toInt v_90.toInt from HE.trans (by rw [e_91]; rfl)).trans (by rw [hR91]))) h (Fr.tr hF_11 (Fr.mono u_27 (by decide))) (lv_sub hl [0, 1, 2, 3, 4, 5, 6, 7] rfl)
    exact lp_12 ((4 - v_7.toInt + 1).toNat) v_7 _ _ _ _ (o38_18 e_8) (o38_19 e_8) (o38_20 e_8) ((show FT = L4_X12_goesRound_1 (Int.toNat (4 - v_7.toInt + 1)) (xso SM ad ws0) a1.toInt a3.toInt a4.toInt a5.toInt a6.toInt v_7.toInt from HE.trans (by rw [e_8]; rfl))) h Fr.rf (lv_sub hl [0, 1, 2, 3, 4, 5, 6, 7] rfl)
  · -- 7
    replace HE : FT = g3_X12_goesRound_1 (xso SM ad ws0) a5.toInt a6.toInt := HE.trans (if_pos (o38_138 l2 u2 al0 ah0 e_3 e_4 qh_5 c_6))
    refine lv_aload_n C0.1 C0.2.1 dX12_goesRound_10 rfl (lv_at hl 0 rfl) ?_
    refine ng_X12_bestLefts C0 h kSM_0 q_1473 dX12_goesRound_11 (fun v_92 e_93 e_94 e_95 => ?_)
    refine y_c1 (n := (-1)) C0 (by decide) dX12_goesRound_14 (fun v_96 e_97 => ?_)
    replace HE : FT = g19b_X12_goesRound_1 (xso SM ad ws0) v_92.toInt a5.toInt a6.toInt := HE.trans (by rw [(xg0 e_93 : v_92.toInt = (xso SM ad ws0) 0 0 35)]; rfl)
    refine y_icmp_eq (tgt := 46) C0 dX12_goesRound_15 (by decide) (fun c_98 => ?_) (fun c_98 => ?_)
    · -- 15
      replace HE : FT = g20_X12_goesRound_1 (xso SM ad ws0) a5.toInt a6.toInt := HE.trans (if_pos (o38_5 e_97 c_98))
      refine lv_aload_n C0.1 C0.2.1 dX12_goesRound_46 rfl (lv_at hl 0 rfl) ?_
      refine lv_iload C0.1 C0.2.1 dX12_goesRound_47 (lv_at hl 5 rfl) ?_
      refine np_X12_bestLefts C0 h kSM_0 q_1473 (le_min a5) (le_max a5) dX12_goesRound_49 (fun H locs ws_99 h u_100 Xu_100 => ?_)
      replace HE : FT = g22w_X12_goesRound_1 (xso SM ad ws_99) a6.toInt := HE.trans (by rw [Xu_100]; rfl)
      refine lv_aload_n C0.1 C0.2.1 dX12_goesRound_52 rfl (lv_at hl 0 rfl) ?_
      refine lv_iload C0.1 C0.2.1 dX12_goesRound_53 (lv_at hl 6 rfl) ?_
      refine np_X12_bestStreets C0 h kSM_0 q_1474 (le_min a6) (le_max a6) dX12_goesRound_55 (fun H locs ws_101 h u_102 Xu_102 => ?_)
      replace HE : FT = g23w_X12_goesRound_1 (xso SM ad ws_101) := HE.trans (by rw [Xu_102]; rfl)
      refine y_c1 (n := 0) C0 (by decide) dX12_goesRound_58 (fun v_103 e_104 => ?_)
      refine lv_istore (lv' := [(7, .int v_103), (0, .ref (ad 0)), (1, .int a1), (2, .int a2), (3, .int a3), (4, .int a4), (5, .int a5), (6, .int a6)]) C0.1 C0.2.1 dX12_goesRound_59 hl (by decide) rfl (fun ls hl => ?_)
      have lp_108 : ∀ (n_110 : Nat) (x7_105 : Int32) (H : Heap) (locs : List Loc) (ls : Array Slot) (ws_106 : va_W), 1 - x7_105.toInt < (n_110 : Int) → 0 ≤ x7_105.toInt → x7_105.toInt ≤ 1 → (FT = L24_X12_goesRound_1 n_110 (xso SM ad ws_106) x7_105.toInt) → Wt G SM ad A s H locs ws_106 → Fr SM [19] ws_101 ws_106 → lv_has ls 10 [(7, .int x7_105), (0, .ref (ad 0)), (1, .int a1), (2, .int a2), (3, .int a3), (4, .int a4), (5, .int a5), (6, .int a6)] → W p l e (rmd 11 0 0) s m args below meth c H locs 0 0 Q (F0 m 61 ls []) := by
        intro n_110
        induction n_110 with
        | zero => intro x7_105 H locs ls ws_106 hn_111 b_112 b_113 HE h hF_107 hl; exact ((o38_173 b_112 b_113 hn_111)).elim
        | succ n_110 ih_109 =>
          intro x7_105 H locs ls ws_106 hn_111 b_112 b_113 HE h hF_107 hl
          obtain ⟨R61, hR61⟩ : ∃ z, z = L24_X12_goesRound_1 n_110 := ⟨_, rfl⟩
          replace HE : FT = g25l_X12_goesRound_1 R61 (xso SM ad ws_106) x7_105.toInt := HE.trans (by rw [hR61]; rfl)
          refine lv_iload C0.1 C0.2.1 dX12_goesRound_61 (lv_at hl 0 rfl) ?_
          refine lv_iload_n C0.1 C0.2.1 dX12_goesRound_63 rfl (lv_at hl 3 rfl) ?_
          replace HE : FT = g26b_X12_goesRound_1 R61 (xso SM ad ws_106) x7_105.toInt := HE.trans rfl
          refine y_icmp_ge (tgt := 87) C0 dX12_goesRound_64 (by decide) (fun c_114 => ?_) (fun c_114 => ?_)
          · -- 64
            replace HE : FT = g27_X12_goesRound_1 (xso SM ad ws_106) := HE.trans (if_neg (o38_175 l2 u2 al0 ah0 e_3 e_4 qh_5 c_6 b_112 b_113 hn_111 c_114))
            replace HE : FT = ((xso SM ad ws_106), 0) := HE.trans rfl
            rw [hQ]
            exact y_vret C0 h (Fr.tr (Fr.tr (Fr.up u_100.1 kSM_0 (by decide)) (Fr.up u_102.1 kSM_0 (by decide))) (Fr.mono hF_107 (by decide))) (congrArg Prod.fst (HE.symm.trans hFT)) dX12_goesRound_87
          · -- 64
            replace HE : FT = g28_X12_goesRound_1 R61 (xso SM ad ws_106) := HE.trans (if_pos (o38_176 l2 u2 al0 ah0 e_3 e_4 qh_5 c_6 b_112 b_113 hn_111 c_114))
            refine lv_aload_n C0.1 C0.2.1 dX12_goesRound_67 rfl (lv_at hl 1 rfl) ?_
            refine ng_X12_bestRow C0 h kSM_0 q_1472 dX12_goesRound_68 ?_
            refine lv_iload C0.1 C0.2.1 dX12_goesRound_71 (lv_at hl 0 rfl) ?_
            refine lv_aload_n C0.1 C0.2.1 dX12_goesRound_73 rfl (lv_at hl 1 rfl) ?_
            refine ng_X12_taken C0 h kSM_0 q_1471 dX12_goesRound_74 ?_
            refine lv_iload C0.1 C0.2.1 dX12_goesRound_77 (lv_at hl 0 rfl) ?_
            refine y_iald C0 h kSM_18 rfl (by decide) (o38_177 l2 u2 al0 ah0 e_3 e_4 qh_5 c_6 b_112 b_113 hn_111 c_114) (o38_178 l2 u2 al0 ah0 e_3 e_4 qh_5 c_6 b_112 b_113 hn_111 c_114) dX12_goesRound_79 (fun v_115 e_116 e_117 e_118 => ?_)
            have e_119 : aI ws_106 18 0 = v_115 := (congrArg (aI ws_106 18) (ix_c (c := 0) (o38_179 l2 u2 al0 ah0 e_3 e_4 qh_5 c_6 b_112 b_113 hn_111 c_114))).symm.trans e_116
            have hO_122 := h.2
            refine y_iast C0 h kSM_19 rfl (by decide) (o38_177 l2 u2 al0 ah0 e_3 e_4 qh_5 c_6 b_112 b_113 hn_111 c_114) (o38_178 l2 u2 al0 ah0 e_3 e_4 qh_5 c_6 b_112 b_113 hn_111 c_114) (le_min v_115) (le_max v_115) dX12_goesRound_80 (fun H locs ws_120 h u_121 => ?_)
            have e_123 : aI ws_120 19 0 = v_115 := (congrArg (aI ws_120 19) (ix_c (c := 0) (o38_179 l2 u2 al0 ah0 e_3 e_4 qh_5 c_6 b_112 b_113 hn_111 c_114))).symm.trans u_121.2.1
            replace HE : FT = g29w_X12_goesRound_1 R61 (xso SM ad ws_120) := HE.trans (by rw [(xso_A (i := 19) hO_122 h.2 kSM_19 rfl u_121), (xg1 e_116 : v_115.toInt = (xso SM ad ws_106) 1 18 x7_105.toInt.toNat), (o38_180 l2 u2 al0 ah0 e_3 e_4 qh_5 c_6 b_112 b_113 hn_111 c_114)]; rfl)
            refine y_inc (kp := 0) (n := 1) (fun v_124 => [(7, .int v_124), (0, .ref (ad 0)), (1, .int a1), (2, .int a2), (3, .int a3), (4, .int a4), (5, .int a5), (6, .int a6)]) C0 hl rfl (by decide) (by decide) (fun _ => rfl) (o38_181 l2 u2 al0 ah0 e_3 e_4 qh_5 c_6 b_112 b_113 hn_111 c_114 (le_min x7_105) (le_max x7_105) (le_min a2) (le_max a2) (le_min ap0) (le_max ap0) (le_min v_1) (le_max v_1)) (o38_182 l2 u2 al0 ah0 e_3 e_4 qh_5 c_6 b_112 b_113 hn_111 c_114 (le_min x7_105) (le_max x7_105) (le_min a2) (le_max a2) (le_min ap0) (le_max ap0) (le_min v_1) (le_max v_1)) dX12_goesRound_81 (fun v_124 ls e_125 hl => ?_)
            refine lv_goto (tgt := 61) C0.1 C0.2.1 dX12_goesRound_84 (by decide) ?_
            exact ih_109 v_124 _ _ _ _ (o38_183 l2 u2 al0 ah0 e_3 e_4 qh_5 c_6 b_112 b_113 hn_111 c_114 e_125) (o38_184 l2 u2 al0 ah0 e_3 e_4 qh_5 c_6 b_112 b_113 hn_111 c_114 e_125) (o38_185 l2 u2 al0 ah0 e_3 e_4 qh_5 c_6 b_112 b_113 hn_111 c_114 e_125) (((show FT = R61 (xso SM ad ws_120) v_124.toInt from HE.trans (by rw [e_125, (o38_186 l2 u2 al0 ah0 e_3 e_4 qh_5 c_6 b_112 b_113 hn_111 c_114 e_125)]; rfl)).trans (by rw [hR61]))) h (Fr.tr hF_107 (Fr.up u_121.1 kSM_19 (by decide))) (lv_sub hl [0, 1, 2, 3, 4, 5, 6, 7] rfl)
      exact lp_108 ((1 - v_103.toInt + 1).toNat) v_103 _ _ _ _ (o38_187 e_104) (o38_19 e_104) (o38_188 e_104) ((show FT = L24_X12_goesRound_1 (Int.toNat (1 - v_103.toInt + 1)) (xso SM ad ws_101) v_103.toInt from HE.trans (by rw [e_104]; rfl))) h Fr.rf (lv_sub hl [0, 1, 2, 3, 4, 5, 6, 7] rfl)
    · -- 15
      replace HE : FT = g21_X12_goesRound_1 (xso SM ad ws0) a5.toInt a6.toInt := HE.trans (if_neg (o38_6 e_97 c_98))
      refine lv_iload C0.1 C0.2.1 dX12_goesRound_18 (lv_at hl 5 rfl) ?_
      refine lv_aload_n C0.1 C0.2.1 dX12_goesRound_20 rfl (lv_at hl 0 rfl) ?_
      refine ng_X12_bestLefts C0 h kSM_0 q_1473 dX12_goesRound_21 (fun v_126 e_127 e_128 e_129 => ?_)
      have qh_130 : v_126.toInt = v_92.toInt := congrArg Int32.toInt (e_127.symm.trans (Eq.trans rfl e_93))
      replace HE : FT = g30b_X12_goesRound_1 (xso SM ad ws0) v_126.toInt a5.toInt a6.toInt := HE.trans (by rw [(xg0 e_127 : v_126.toInt = (xso SM ad ws0) 0 0 35)]; rfl)
      refine y_icmp_gt (tgt := 45) C0 dX12_goesRound_24 (by decide) (fun c_131 => ?_) (fun c_131 => ?_)
      · -- 24
        replace HE : FT = g31_X12_goesRound_1 (xso SM ad ws0) := HE.trans (if_pos c_131)
        replace HE : FT = ((xso SM ad ws0), 0) := HE.trans rfl
        rw [hQ]
        exact y_vret C0 h Fr.rf (congrArg Prod.fst (HE.symm.trans hFT)) dX12_goesRound_45
      · -- 24
        replace HE : FT = g32_X12_goesRound_1 (xso SM ad ws0) a5.toInt a6.toInt := HE.trans (if_neg (Int.not_lt.mpr c_131))
        refine lv_iload C0.1 C0.2.1 dX12_goesRound_27 (lv_at hl 5 rfl) ?_
        refine lv_aload_n C0.1 C0.2.1 dX12_goesRound_29 rfl (lv_at hl 0 rfl) ?_
        refine ng_X12_bestLefts C0 h kSM_0 q_1473 dX12_goesRound_30 (fun v_132 e_133 e_134 e_135 => ?_)
        have qh_136 : v_132.toInt = v_92.toInt := congrArg Int32.toInt (e_133.symm.trans (Eq.trans rfl e_93))
        replace HE : FT = g33b_X12_goesRound_1 (xso SM ad ws0) v_132.toInt a5.toInt a6.toInt := HE.trans (by rw [(xg0 e_133 : v_132.toInt = (xso SM ad ws0) 0 0 35)]; rfl)
        refine y_icmp_ne (tgt := 46) C0 dX12_goesRound_33 (by decide) (fun c_137 => ?_) (fun c_137 => ?_)
        · -- 33
          replace HE : FT = g34_X12_goesRound_1 (xso SM ad ws0) a5.toInt a6.toInt := HE.trans (if_neg c_137)
          refine lv_aload_n C0.1 C0.2.1 dX12_goesRound_46 rfl (lv_at hl 0 rfl) ?_
          refine lv_iload C0.1 C0.2.1 dX12_goesRound_47 (lv_at hl 5 rfl) ?_
          refine np_X12_bestLefts C0 h kSM_0 q_1473 (le_min a5) (le_max a5) dX12_goesRound_49 (fun H locs ws_138 h u_139 Xu_139 => ?_)
          replace HE : FT = g36w_X12_goesRound_1 (xso SM ad ws_138) a6.toInt := HE.trans (by rw [Xu_139]; rfl)
          refine lv_aload_n C0.1 C0.2.1 dX12_goesRound_52 rfl (lv_at hl 0 rfl) ?_
          refine lv_iload C0.1 C0.2.1 dX12_goesRound_53 (lv_at hl 6 rfl) ?_
          refine np_X12_bestStreets C0 h kSM_0 q_1474 (le_min a6) (le_max a6) dX12_goesRound_55 (fun H locs ws_140 h u_141 Xu_141 => ?_)
          replace HE : FT = g37w_X12_goesRound_1 (xso SM ad ws_140) := HE.trans (by rw [Xu_141]; rfl)
          refine y_c1 (n := 0) C0 (by decide) dX12_goesRound_58 (fun v_142 e_143 => ?_)
          refine lv_istore (lv' := [(7, .int v_142), (0, .ref (ad 0)), (1, .int a1), (2, .int a2), (3, .int a3), (4, .int a4), (5, .int a5), (6, .int a6)]) C0.1 C0.2.1 dX12_goesRound_59 hl (by decide) rfl (fun ls hl => ?_)
          have lp_147 : ∀ (n_149 : Nat) (x7_144 : Int32) (H : Heap) (locs : List Loc) (ls : Array Slot) (ws_145 : va_W), 1 - x7_144.toInt < (n_149 : Int) → 0 ≤ x7_144.toInt → x7_144.toInt ≤ 1 → (FT = L38_X12_goesRound_1 n_149 (xso SM ad ws_145) x7_144.toInt) → Wt G SM ad A s H locs ws_145 → Fr SM [19] ws_140 ws_145 → lv_has ls 10 [(7, .int x7_144), (0, .ref (ad 0)), (1, .int a1), (2, .int a2), (3, .int a3), (4, .int a4), (5, .int a5), (6, .int a6)] → W p l e (rmd 11 0 0) s m args below meth c H locs 0 0 Q (F0 m 61 ls []) := by
            intro n_149
            induction n_149 with
            | zero => intro x7_144 H locs ls ws_145 hn_150 b_151 b_152 HE h hF_146 hl; exact ((o38_173 b_151 b_152 hn_150)).elim
            | succ n_149 ih_148 =>
              intro x7_144 H locs ls ws_145 hn_150 b_151 b_152 HE h hF_146 hl
              obtain ⟨R61, hR61⟩ : ∃ z, z = L38_X12_goesRound_1 n_149 := ⟨_, rfl⟩
              replace HE : FT = g39l_X12_goesRound_1 R61 (xso SM ad ws_145) x7_144.toInt := HE.trans (by rw [hR61]; rfl)
              refine lv_iload C0.1 C0.2.1 dX12_goesRound_61 (lv_at hl 0 rfl) ?_
              refine lv_iload_n C0.1 C0.2.1 dX12_goesRound_63 rfl (lv_at hl 3 rfl) ?_
              replace HE : FT = g40b_X12_goesRound_1 R61 (xso SM ad ws_145) x7_144.toInt := HE.trans rfl
              refine y_icmp_ge (tgt := 87) C0 dX12_goesRound_64 (by decide) (fun c_153 => ?_) (fun c_153 => ?_)
              · -- 64
                replace HE : FT = g41_X12_goesRound_1 (xso SM ad ws_145) := HE.trans (if_neg (o38_175 l2 u2 al0 ah0 e_3 e_4 qh_5 c_6 b_151 b_152 hn_150 c_153))
                replace HE : FT = ((xso SM ad ws_145), 0) := HE.trans rfl
                rw [hQ]
                exact y_vret C0 h (Fr.tr (Fr.tr (Fr.up u_139.1 kSM_0 (by decide)) (Fr.up u_141.1 kSM_0 (by decide))) (Fr.mono hF_146 (by decide))) (congrArg Prod.fst (HE.symm.trans hFT)) dX12_goesRound_87
              · -- 64
                replace HE : FT = g42_X12_goesRound_1 R61 (xso SM ad ws_145) := HE.trans (if_pos (o38_176 l2 u2 al0 ah0 e_3 e_4 qh_5 c_6 b_151 b_152 hn_150 c_153))
                refine lv_aload_n C0.1 C0.2.1 dX12_goesRound_67 rfl (lv_at hl 1 rfl) ?_
                refine ng_X12_bestRow C0 h kSM_0 q_1472 dX12_goesRound_68 ?_
                refine lv_iload C0.1 C0.2.1 dX12_goesRound_71 (lv_at hl 0 rfl) ?_
                refine lv_aload_n C0.1 C0.2.1 dX12_goesRound_73 rfl (lv_at hl 1 rfl) ?_
                refine ng_X12_taken C0 h kSM_0 q_1471 dX12_goesRound_74 ?_
                refine lv_iload C0.1 C0.2.1 dX12_goesRound_77 (lv_at hl 0 rfl) ?_
                refine y_iald C0 h kSM_18 rfl (by decide) (o38_177 l2 u2 al0 ah0 e_3 e_4 qh_5 c_6 b_151 b_152 hn_150 c_153) (o38_178 l2 u2 al0 ah0 e_3 e_4 qh_5 c_6 b_151 b_152 hn_150 c_153) dX12_goesRound_79 (fun v_154 e_155 e_156 e_157 => ?_)
                have e_158 : aI ws_145 18 0 = v_154 := (congrArg (aI ws_145 18) (ix_c (c := 0) (o38_179 l2 u2 al0 ah0 e_3 e_4 qh_5 c_6 b_151 b_152 hn_150 c_153))).symm.trans e_155
                have hO_161 := h.2
                refine y_iast C0 h kSM_19 rfl (by decide) (o38_177 l2 u2 al0 ah0 e_3 e_4 qh_5 c_6 b_151 b_152 hn_150 c_153) (o38_178 l2 u2 al0 ah0 e_3 e_4 qh_5 c_6 b_151 b_152 hn_150 c_153) (le_min v_154) (le_max v_154) dX12_goesRound_80 (fun H locs ws_159 h u_160 => ?_)
                have e_162 : aI ws_159 19 0 = v_154 := (congrArg (aI ws_159 19) (ix_c (c := 0) (o38_179 l2 u2 al0 ah0 e_3 e_4 qh_5 c_6 b_151 b_152 hn_150 c_153))).symm.trans u_160.2.1
                replace HE : FT = g43w_X12_goesRound_1 R61 (xso SM ad ws_159) := HE.trans (by rw [(xso_A (i := 19) hO_161 h.2 kSM_19 rfl u_160), (xg1 e_155 : v_154.toInt = (xso SM ad ws_145) 1 18 x7_144.toInt.toNat), (o38_180 l2 u2 al0 ah0 e_3 e_4 qh_5 c_6 b_151 b_152 hn_150 c_153)]; rfl)
                refine y_inc (kp := 0) (n := 1) (fun v_163 => [(7, .int v_163), (0, .ref (ad 0)), (1, .int a1), (2, .int a2), (3, .int a3), (4, .int a4), (5, .int a5), (6, .int a6)]) C0 hl rfl (by decide) (by decide) (fun _ => rfl) (o38_181 l2 u2 al0 ah0 e_3 e_4 qh_5 c_6 b_151 b_152 hn_150 c_153 (le_min x7_144) (le_max x7_144) (le_min a2) (le_max a2) (le_min ap0) (le_max ap0) (le_min v_1) (le_max v_1)) (o38_182 l2 u2 al0 ah0 e_3 e_4 qh_5 c_6 b_151 b_152 hn_150 c_153 (le_min x7_144) (le_max x7_144) (le_min a2) (le_max a2) (le_min ap0) (le_max ap0) (le_min v_1) (le_max v_1)) dX12_goesRound_81 (fun v_163 ls e_164 hl => ?_)
                refine lv_goto (tgt := 61) C0.1 C0.2.1 dX12_goesRound_84 (by decide) ?_
                exact ih_148 v_163 _ _ _ _ (o38_183 l2 u2 al0 ah0 e_3 e_4 qh_5 c_6 b_151 b_152 hn_150 c_153 e_164) (o38_184 l2 u2 al0 ah0 e_3 e_4 qh_5 c_6 b_151 b_152 hn_150 c_153 e_164) (o38_185 l2 u2 al0 ah0 e_3 e_4 qh_5 c_6 b_151 b_152 hn_150 c_153 e_164) (((show FT = R61 (xso SM ad ws_159) v_163.toInt from HE.trans (by rw [e_164, (o38_186 l2 u2 al0 ah0 e_3 e_4 qh_5 c_6 b_151 b_152 hn_150 c_153 e_164)]; rfl)).trans (by rw [hR61]))) h (Fr.tr hF_146 (Fr.up u_160.1 kSM_19 (by decide))) (lv_sub hl [0, 1, 2, 3, 4, 5, 6, 7] rfl)
          exact lp_147 ((1 - v_142.toInt + 1).toNat) v_142 _ _ _ _ (o38_187 e_143) (o38_19 e_143) (o38_188 e_143) ((show FT = L38_X12_goesRound_1 (Int.toNat (1 - v_142.toInt + 1)) (xso SM ad ws_140) v_142.toInt from HE.trans (by rw [e_143]; rfl))) h Fr.rf (lv_sub hl [0, 1, 2, 3, 4, 5, 6, 7] rfl)
        · -- 33
          replace HE : FT = g35_X12_goesRound_1 (xso SM ad ws0) a5.toInt a6.toInt := HE.trans (if_pos c_137)
          refine lv_iload C0.1 C0.2.1 dX12_goesRound_36 (lv_at hl 6 rfl) ?_
          refine lv_aload_n C0.1 C0.2.1 dX12_goesRound_38 rfl (lv_at hl 0 rfl) ?_
          refine ng_X12_bestStreets C0 h kSM_0 q_1474 dX12_goesRound_39 (fun v_165 e_166 e_167 e_168 => ?_)
          replace HE : FT = g44b_X12_goesRound_1 (xso SM ad ws0) v_165.toInt a6.toInt a5.toInt := HE.trans (by rw [(xg0 e_166 : v_165.toInt = (xso SM ad ws0) 0 0 36)]; rfl)
          refine y_icmp_lt (tgt := 46) C0 dX12_goesRound_42 (by decide) (fun c_169 => ?_) (fun c_169 => ?_)
          · -- 42
            replace HE : FT = g45_X12_goesRound_1 (xso SM ad ws0) a5.toInt a6.toInt := HE.trans (if_pos c_169)
            refine lv_aload_n C0.1 C0.2.1 dX12_goesRound_46 rfl (lv_at hl 0 rfl) ?_
            refine lv_iload C0.1 C0.2.1 dX12_goesRound_47 (lv_at hl 5 rfl) ?_
            refine np_X12_bestLefts C0 h kSM_0 q_1473 (le_min a5) (le_max a5) dX12_goesRound_49 (fun H locs ws_170 h u_171 Xu_171 => ?_)
            replace HE : FT = g47w_X12_goesRound_1 (xso SM ad ws_170) a6.toInt := HE.trans (by rw [Xu_171]; rfl)
            refine lv_aload_n C0.1 C0.2.1 dX12_goesRound_52 rfl (lv_at hl 0 rfl) ?_
            refine lv_iload C0.1 C0.2.1 dX12_goesRound_53 (lv_at hl 6 rfl) ?_
            refine np_X12_bestStreets C0 h kSM_0 q_1474 (le_min a6) (le_max a6) dX12_goesRound_55 (fun H locs ws_172 h u_173 Xu_173 => ?_)
            replace HE : FT = g48w_X12_goesRound_1 (xso SM ad ws_172) := HE.trans (by rw [Xu_173]; rfl)
            refine y_c1 (n := 0) C0 (by decide) dX12_goesRound_58 (fun v_174 e_175 => ?_)
            refine lv_istore (lv' := [(7, .int v_174), (0, .ref (ad 0)), (1, .int a1), (2, .int a2), (3, .int a3), (4, .int a4), (5, .int a5), (6, .int a6)]) C0.1 C0.2.1 dX12_goesRound_59 hl (by decide) rfl (fun ls hl => ?_)
            have lp_179 : ∀ (n_181 : Nat) (x7_176 : Int32) (H : Heap) (locs : List Loc) (ls : Array Slot) (ws_177 : va_W), 1 - x7_176.toInt < (n_181 : Int) → 0 ≤ x7_176.toInt → x7_176.toInt ≤ 1 → (FT = L49_X12_goesRound_1 n_181 (xso SM ad ws_177) x7_176.toInt) → Wt G SM ad A s H locs ws_177 → Fr SM [19] ws_172 ws_177 → lv_has ls 10 [(7, .int x7_176), (0, .ref (ad 0)), (1, .int a1), (2, .int a2), (3, .int a3), (4, .int a4), (5, .int a5), (6, .int a6)] → W p l e (rmd 11 0 0) s m args below meth c H locs 0 0 Q (F0 m 61 ls []) := by
              intro n_181
              induction n_181 with
              | zero => intro x7_176 H locs ls ws_177 hn_182 b_183 b_184 HE h hF_178 hl; exact ((o38_173 b_183 b_184 hn_182)).elim
              | succ n_181 ih_180 =>
                intro x7_176 H locs ls ws_177 hn_182 b_183 b_184 HE h hF_178 hl
                obtain ⟨R61, hR61⟩ : ∃ z, z = L49_X12_goesRound_1 n_181 := ⟨_, rfl⟩
                replace HE : FT = g50l_X12_goesRound_1 R61 (xso SM ad ws_177) x7_176.toInt := HE.trans (by rw [hR61]; rfl)
                refine lv_iload C0.1 C0.2.1 dX12_goesRound_61 (lv_at hl 0 rfl) ?_
                refine lv_iload_n C0.1 C0.2.1 dX12_goesRound_63 rfl (lv_at hl 3 rfl) ?_
                replace HE : FT = g51b_X12_goesRound_1 R61 (xso SM ad ws_177) x7_176.toInt := HE.trans rfl
                refine y_icmp_ge (tgt := 87) C0 dX12_goesRound_64 (by decide) (fun c_185 => ?_) (fun c_185 => ?_)
                · -- 64
                  replace HE : FT = g52_X12_goesRound_1 (xso SM ad ws_177) := HE.trans (if_neg (o38_175 l2 u2 al0 ah0 e_3 e_4 qh_5 c_6 b_183 b_184 hn_182 c_185))
                  replace HE : FT = ((xso SM ad ws_177), 0) := HE.trans rfl
                  rw [hQ]
                  exact y_vret C0 h (Fr.tr (Fr.tr (Fr.up u_171.1 kSM_0 (by decide)) (Fr.up u_173.1 kSM_0 (by decide))) (Fr.mono hF_178 (by decide))) (congrArg Prod.fst (HE.symm.trans hFT)) dX12_goesRound_87
                · -- 64
                  replace HE : FT = g53_X12_goesRound_1 R61 (xso SM ad ws_177) := HE.trans (if_pos (o38_176 l2 u2 al0 ah0 e_3 e_4 qh_5 c_6 b_183 b_184 hn_182 c_185))
                  refine lv_aload_n C0.1 C0.2.1 dX12_goesRound_67 rfl (lv_at hl 1 rfl) ?_
                  refine ng_X12_bestRow C0 h kSM_0 q_1472 dX12_goesRound_68 ?_
                  refine lv_iload C0.1 C0.2.1 dX12_goesRound_71 (lv_at hl 0 rfl) ?_
                  refine lv_aload_n C0.1 C0.2.1 dX12_goesRound_73 rfl (lv_at hl 1 rfl) ?_
                  refine ng_X12_taken C0 h kSM_0 q_1471 dX12_goesRound_74 ?_
                  refine lv_iload C0.1 C0.2.1 dX12_goesRound_77 (lv_at hl 0 rfl) ?_
                  refine y_iald C0 h kSM_18 rfl (by decide) (o38_177 l2 u2 al0 ah0 e_3 e_4 qh_5 c_6 b_183 b_184 hn_182 c_185) (o38_178 l2 u2 al0 ah0 e_3 e_4 qh_5 c_6 b_183 b_184 hn_182 c_185) dX12_goesRound_79 (fun v_186 e_187 e_188 e_189 => ?_)
                  have e_190 : aI ws_177 18 0 = v_186 := (congrArg (aI ws_177 18) (ix_c (c := 0) (o38_179 l2 u2 al0 ah0 e_3 e_4 qh_5 c_6 b_183 b_184 hn_182 c_185))).symm.trans e_187
                  have hO_193 := h.2
                  refine y_iast C0 h kSM_19 rfl (by decide) (o38_177 l2 u2 al0 ah0 e_3 e_4 qh_5 c_6 b_183 b_184 hn_182 c_185) (o38_178 l2 u2 al0 ah0 e_3 e_4 qh_5 c_6 b_183 b_184 hn_182 c_185) (le_min v_186) (le_max v_186) dX12_goesRound_80 (fun H locs ws_191 h u_192 => ?_)
                  have e_194 : aI ws_191 19 0 = v_186 := (congrArg (aI ws_191 19) (ix_c (c := 0) (o38_179 l2 u2 al0 ah0 e_3 e_4 qh_5 c_6 b_183 b_184 hn_182 c_185))).symm.trans u_192.2.1
                  replace HE : FT = g54w_X12_goesRound_1 R61 (xso SM ad ws_191) := HE.trans (by rw [(xso_A (i := 19) hO_193 h.2 kSM_19 rfl u_192), (xg1 e_187 : v_186.toInt = (xso SM ad ws_177) 1 18 x7_176.toInt.toNat), (o38_180 l2 u2 al0 ah0 e_3 e_4 qh_5 c_6 b_183 b_184 hn_182 c_185)]; rfl)
                  refine y_inc (kp := 0) (n := 1) (fun v_195 => [(7, .int v_195), (0, .ref (ad 0)), (1, .int a1), (2, .int a2), (3, .int a3), (4, .int a4), (5, .int a5), (6, .int a6)]) C0 hl rfl (by decide) (by decide) (fun _ => rfl) (o38_181 l2 u2 al0 ah0 e_3 e_4 qh_5 c_6 b_183 b_184 hn_182 c_185 (le_min x7_176) (le_max x7_176) (le_min a2) (le_max a2) (le_min ap0) (le_max ap0) (le_min v_1) (le_max v_1)) (o38_182 l2 u2 al0 ah0 e_3 e_4 qh_5 c_6 b_183 b_184 hn_182 c_185 (le_min x7_176) (le_max x7_176) (le_min a2) (le_max a2) (le_min ap0) (le_max ap0) (le_min v_1) (le_max v_1)) dX12_goesRound_81 (fun v_195 ls e_196 hl => ?_)
                  refine lv_goto (tgt := 61) C0.1 C0.2.1 dX12_goesRound_84 (by decide) ?_
                  exact ih_180 v_195 _ _ _ _ (o38_183 l2 u2 al0 ah0 e_3 e_4 qh_5 c_6 b_183 b_184 hn_182 c_185 e_196) (o38_184 l2 u2 al0 ah0 e_3 e_4 qh_5 c_6 b_183 b_184 hn_182 c_185 e_196) (o38_185 l2 u2 al0 ah0 e_3 e_4 qh_5 c_6 b_183 b_184 hn_182 c_185 e_196) (((show FT = R61 (xso SM ad ws_191) v_195.toInt from HE.trans (by rw [e_196, (o38_186 l2 u2 al0 ah0 e_3 e_4 qh_5 c_6 b_183 b_184 hn_182 c_185 e_196)]; rfl)).trans (by rw [hR61]))) h (Fr.tr hF_178 (Fr.up u_192.1 kSM_19 (by decide))) (lv_sub hl [0, 1, 2, 3, 4, 5, 6, 7] rfl)
            exact lp_179 ((1 - v_174.toInt + 1).toNat) v_174 _ _ _ _ (o38_187 e_175) (o38_19 e_175) (o38_188 e_175) ((show FT = L49_X12_goesRound_1 (Int.toNat (1 - v_174.toInt + 1)) (xso SM ad ws_172) v_174.toInt from HE.trans (by rw [e_175]; rfl))) h Fr.rf (lv_sub hl [0, 1, 2, 3, 4, 5, 6, 7] rfl)
          · -- 42
            replace HE : FT = g46_X12_goesRound_1 (xso SM ad ws0) := HE.trans (if_neg (Int.not_lt.mpr c_169))
            replace HE : FT = ((xso SM ad ws0), 0) := HE.trans rfl
            rw [hQ]
            exact y_vret C0 h Fr.rf (congrArg Prod.fst (HE.symm.trans hFT)) dX12_goesRound_45
noncomputable def g4_X12_goesRound_0 (s : XS) : XR := (s, 0)
noncomputable def g15c_X12_goesRound_0 (R91 : XS → Int → Int → Int → Int → Int → Int → XR) (s : XS) (a1 : Int) (a3 : Int) (a4 : Int) (a5 : Int) (a6 : Int) (x7_9 : Int) : XR := R91 s a1 a3 a4 a5 a6 ((x7_9 + 1))
noncomputable def g14w_X12_goesRound_0 (R91 : XS → Int → Int → Int → Int → Int → Int → XR) (s : XS) (a1 : Int) (a3 : Int) (a4 : Int) (a5 : Int) (a6 : Int) (x7_9 : Int) (r_50 : Int) : XR := g15c_X12_goesRound_0 R91 ((f_X12_goesRound_1 s a1 (0 + 1) (Xior a3 (Xishl 1 x7_9)) (s 0 0 28) (Xiadd a5 r_50) (Xiadd a6 (s 0 0 37))).1) a1 a3 a4 a5 a6 x7_9
noncomputable def g12_X12_goesRound_0 (R91 : XS → Int → Int → Int → Int → Int → Int → XR) (s : XS) (a1 : Int) (a3 : Int) (a4 : Int) (a5 : Int) (a6 : Int) (x7_9 : Int) (v_45 : Int) (r_50 : Int) : XR := g14w_X12_goesRound_0 R91 (xup s 1 18 (Int.toNat 0) (v_45)) a1 a3 a4 a5 a6 x7_9 r_50
noncomputable def g13_X12_goesRound_0 (R91 : XS → Int → Int → Int → Int → Int → Int → XR) (s : XS) (a1 : Int) (a3 : Int) (a4 : Int) (a5 : Int) (a6 : Int) (x7_9 : Int) : XR := R91 s a1 a3 a4 a5 a6 ((x7_9 + 1))
noncomputable def g11b_X12_goesRound_0 (R91 : XS → Int → Int → Int → Int → Int → Int → XR) (s : XS) (r_50 : Int) (a1 : Int) (a3 : Int) (a4 : Int) (a5 : Int) (a6 : Int) (x7_9 : Int) (v_45 : Int) : XR := if r_50 = 1000000000 then g13_X12_goesRound_0 R91 s a1 a3 a4 a5 a6 x7_9 else g12_X12_goesRound_0 R91 s a1 a3 a4 a5 a6 x7_9 v_45 r_50
noncomputable def g10c_X12_goesRound_0 (R91 : XS → Int → Int → Int → Int → Int → Int → XR) (s : XS) (r_50 : Int) (a1 : Int) (a3 : Int) (a4 : Int) (a5 : Int) (a6 : Int) (x7_9 : Int) (v_45 : Int) : XR := g11b_X12_goesRound_0 R91 s r_50 a1 a3 a4 a5 a6 x7_9 v_45
noncomputable def g8_X12_goesRound_0 (R91 : XS → Int → Int → Int → Int → Int → Int → XR) (s : XS) (a1 : Int) (a3 : Int) (a4 : Int) (a5 : Int) (a6 : Int) (x7_9 : Int) : XR := g10c_X12_goesRound_0 R91 ((f_X12_leg s a4 a6 ((s 2 25 (Int.toNat ((40 * a1) + x7_9))))).1) (((f_X12_leg s a4 a6 ((s 2 25 (Int.toNat ((40 * a1) + x7_9))))).2)) a1 a3 a4 a5 a6 x7_9 (((s 2 25 (Int.toNat ((40 * a1) + x7_9)))))
noncomputable def g9_X12_goesRound_0 (R91 : XS → Int → Int → Int → Int → Int → Int → XR) (s : XS) (a1 : Int) (a3 : Int) (a4 : Int) (a5 : Int) (a6 : Int) (x7_9 : Int) : XR := R91 s a1 a3 a4 a5 a6 ((x7_9 + 1))
noncomputable def g7b_X12_goesRound_0 (R91 : XS → Int → Int → Int → Int → Int → Int → XR) (s : XS) (r_29 : Int) (a1 : Int) (a3 : Int) (a4 : Int) (a5 : Int) (a6 : Int) (x7_9 : Int) : XR := if r_29 = 0 then g8_X12_goesRound_0 R91 s a1 a3 a4 a5 a6 x7_9 else g9_X12_goesRound_0 R91 s a1 a3 a4 a5 a6 x7_9
noncomputable def g6c_X12_goesRound_0 (R91 : XS → Int → Int → Int → Int → Int → Int → XR) (s : XS) (r_29 : Int) (a1 : Int) (a3 : Int) (a4 : Int) (a5 : Int) (a6 : Int) (x7_9 : Int) : XR := g7b_X12_goesRound_0 R91 s r_29 a1 a3 a4 a5 a6 x7_9
noncomputable def g5_X12_goesRound_0 (R91 : XS → Int → Int → Int → Int → Int → Int → XR) (s : XS) (a1 : Int) (a3 : Int) (a4 : Int) (a5 : Int) (a6 : Int) (x7_9 : Int) : XR := g6c_X12_goesRound_0 R91 ((f_X12_isIn s a3 x7_9).1) (((f_X12_isIn s a3 x7_9).2)) a1 a3 a4 a5 a6 x7_9
noncomputable def g3b_X12_goesRound_0 (R91 : XS → Int → Int → Int → Int → Int → Int → XR) (s : XS) (v_18 : Int) (x7_9 : Int) (a1 : Int) (a3 : Int) (a4 : Int) (a5 : Int) (a6 : Int) : XR := if x7_9 < v_18 then g5_X12_goesRound_0 R91 s a1 a3 a4 a5 a6 x7_9 else g4_X12_goesRound_0 s
noncomputable def g2l_X12_goesRound_0 (R91 : XS → Int → Int → Int → Int → Int → Int → XR) (s : XS) (a1 : Int) (a3 : Int) (a4 : Int) (a5 : Int) (a6 : Int) (x7_9 : Int) : XR := g3b_X12_goesRound_0 R91 s ((s 1 24 (Int.toNat a1))) x7_9 a1 a3 a4 a5 a6
noncomputable def L1_X12_goesRound_0 (n : Nat) : XS → Int → Int → Int → Int → Int → Int → XR := Nat.rec (motive := fun _ => XS → Int → Int → Int → Int → Int → Int → XR) (fun s _ _ _ _ _ _ => (s, 0)) (fun _ R91 => g2l_X12_goesRound_0 R91) n
noncomputable def f_X12_goesRound_0 (s : XS) (a1 : Int) (a2 : Int) (a3 : Int) (a4 : Int) (a5 : Int) (a6 : Int) : XR := L1_X12_goesRound_0 (Int.toNat (4 - 0 + 1)) s a1 a3 a4 a5 a6 0
set_option maxHeartbeats 4000000 in
set_option maxRecDepth 100000 in
theorem c_X12_goesRound_0 (l : Launch) (G : GG) (Z : RZ) (ad : Nat → Nat) (ws0 : va_W) (hT : Ty G SM ad ws0) (a1 : Int32) (a2 : Int32) (a3 : Int32) (a4 : Int32) (a5 : Int32) (a6 : Int32) (l1 : 0 ≤ a1.toInt) (u1 : a1.toInt ≤ 3) (l2 : 0 ≤ a2.toInt) (u2 : a2.toInt ≤ 0) (l4 : 0 ≤ a4.toInt) (u4 : a4.toInt ≤ 99) (al0 : 1 ≤ (aI ws0 24 a1.toInt.toNat).toInt) (ah0 : (aI ws0 24 a1.toInt.toNat).toInt ≤ 4) (hN : NumOk ws0 a1) (hJ : J ws0) (hLd : Laid ws0) : Mq l yX12_goesRound cX12_goesRound 10 none 12 G Z [.ref (ad 0), .int a1, .int a2, .int a3, .int a4, .int a5, .int a6] ws0 (PV G SM ad [0, 5, 8, 9, 10, 11, 12, 13, 18, 19] ws0 (fun u => (xso SM ad u = (f_X12_goesRound_0 (xso SM ad ws0) a1.toInt a2.toInt a3.toInt a4.toInt a5.toInt a6.toInt).1))) := by
  refine Mq.start (by decide) (Nat.le_of_ble_eq_true rfl) ?_
  intro p e s m below meth c A ls C0 hZ h hl
  have hl : lv_has ls 10 [(0, .ref (ad 0)), (1, .int a1), (2, .int a2), (3, .int a3), (4, .int a4), (5, .int a5), (6, .int a6)] := hl
  have h : Wt G SM ad A s s.heap [] ws0 := ⟨h, hT⟩
  obtain ⟨args, hargs⟩ : ∃ z, z = ([.ref (ad 0), .int a1, .int a2, .int a3, .int a4, .int a5, .int a6] : List Value).toArray := ⟨_, rfl⟩
  rw [← hargs] at C0 ⊢
  have C0 : Cx p s m args meth c RX12 cX12_goesRound 10 none := C0
  obtain ⟨Q, hQ⟩ : ∃ z, z = MQ below ((PV G SM ad [0, 5, 8, 9, 10, 11, 12, 13, 18, 19] ws0 (fun u => (xso SM ad u = (f_X12_goesRound_0 (xso SM ad ws0) a1.toInt a2.toInt a3.toInt a4.toInt a5.toInt a6.toInt).1))) A) args s 0 0 A := ⟨_, rfl⟩
  rw [← hQ]
  obtain ⟨FT, hFT⟩ : ∃ z, z = f_X12_goesRound_0 (xso SM ad ws0) a1.toInt a2.toInt a3.toInt a4.toInt a5.toInt a6.toInt := ⟨_, rfl⟩
  have HE : FT = f_X12_goesRound_0 (xso SM ad ws0) a1.toInt a2.toInt a3.toInt a4.toInt a5.toInt a6.toInt := hFT
  obtain ⟨ap0, ea0⟩ : ∃ v, aI ws0 24 a1.toInt.toNat = v := ⟨_, rfl⟩
  rw [ea0] at al0 ah0
  refine lv_iload_n C0.1 C0.2.1 dX12_goesRound_0 rfl (lv_at hl 2 rfl) ?_
  refine lv_aload_n C0.1 C0.2.1 dX12_goesRound_1 rfl (lv_at hl 0 rfl) ?_
  refine ng_X12_rowMany C0 h kSM_0 q_1480 dX12_goesRound_2 ?_
  refine lv_iload_n C0.1 C0.2.1 dX12_goesRound_5 rfl (lv_at hl 1 rfl) ?_
  refine y_iald C0 h kSM_24 rfl (by decide) (o38_1 l1 u1) (o38_2 l1 u1) dX12_goesRound_6 (fun v_1 e_2 e_3 e_4 => ?_)
  have qh_5 : v_1.toInt = ap0.toInt := congrArg Int32.toInt (e_2.symm.trans (Eq.trans rfl (Eq.trans rfl ea0)))
  refine y_icmp_ne (tgt := 88) C0 dX12_goesRound_7 (by decide) (fun c_6 => ?_) (fun c_6 => ((o38_189 l2 u2 al0 ah0 e_3 e_4 qh_5 c_6)).elim)
  refine y_c1 (n := 0) C0 (by decide) dX12_goesRound_88 (fun v_7 e_8 => ?_)
  refine lv_istore (lv' := [(7, .int v_7), (0, .ref (ad 0)), (1, .int a1), (2, .int a2), (3, .int a3), (4, .int a4), (5, .int a5), (6, .int a6)]) C0.1 C0.2.1 dX12_goesRound_89 hl (by decide) rfl (fun ls hl => ?_)
  have lp_12 : ∀ (n_14 : Nat) (x7_9 : Int32) (H : Heap) (locs : List Loc) (ls : Array Slot) (ws_10 : va_W), 4 - x7_9.toInt < (n_14 : Int) → 0 ≤ x7_9.toInt → x7_9.toInt ≤ 4 → (FT = L1_X12_goesRound_0 n_14 (xso SM ad ws_10) a1.toInt a3.toInt a4.toInt a5.toInt a6.toInt x7_9.toInt) → Wt G SM ad A s H locs ws_10 → Fr SM [0, 5, 8, 9, 10, 11, 12, 13, 18, 19] ws0 ws_10 → lv_has ls 10 [(7, .int x7_9), (0, .ref (ad 0)), (1, .int a1), (2, .int a2), (3, .int a3), (4, .int a4), (5, .int a5), (6, .int a6)] → W p l e (rmd 12 0 0) s m args below meth c H locs 0 0 Q (F0 m 91 ls []) := by
    intro n_14
    induction n_14 with
    | zero => intro x7_9 H locs ls ws_10 hn_15 b_16 b_17 HE h hF_11 hl; exact ((o38_7 b_16 b_17 hn_15)).elim
    | succ n_14 ih_13 =>
      intro x7_9 H locs ls ws_10 hn_15 b_16 b_17 HE h hF_11 hl
      obtain ⟨R91, hR91⟩ : ∃ z, z = L1_X12_goesRound_0 n_14 := ⟨_, rfl⟩
      replace HE : FT = g2l_X12_goesRound_0 R91 (xso SM ad ws_10) a1.toInt a3.toInt a4.toInt a5.toInt a6.toInt x7_9.toInt := HE.trans (by rw [hR91]; rfl)
      refine lv_iload C0.1 C0.2.1 dX12_goesRound_91 (lv_at hl 0 rfl) ?_
      refine lv_aload_n C0.1 C0.2.1 dX12_goesRound_93 rfl (lv_at hl 1 rfl) ?_
      refine ng_X12_rowMany C0 h kSM_0 q_1480 dX12_goesRound_94 ?_
      refine lv_iload_n C0.1 C0.2.1 dX12_goesRound_97 rfl (lv_at hl 2 rfl) ?_
      refine y_iald C0 h kSM_24 rfl (by decide) (o38_1 l1 u1) (o38_2 l1 u1) dX12_goesRound_98 (fun v_18 e_19 e_20 e_21 => ?_)
      have qh_22 : v_18.toInt = ap0.toInt := congrArg Int32.toInt (e_19.symm.trans (Eq.trans rfl (Eq.trans (Fr.aI hF_11 kSM_24 (by decide)) ea0)))
      replace HE : FT = g3b_X12_goesRound_0 R91 (xso SM ad ws_10) v_18.toInt x7_9.toInt a1.toInt a3.toInt a4.toInt a5.toInt a6.toInt := HE.trans (by rw [(xg1 e_19 : v_18.toInt = (xso SM ad ws_10) 1 24 a1.toInt.toNat)]; rfl)
      refine y_icmp_ge (tgt := 197) C0 dX12_goesRound_99 (by decide) (fun c_23 => ?_) (fun c_23 => ?_)
      · -- 99
        replace HE : FT = g4_X12_goesRound_0 (xso SM ad ws_10) := HE.trans (if_neg (Int.not_lt.mpr c_23))
        replace HE : FT = ((xso SM ad ws_10), 0) := HE.trans rfl
        rw [hQ]
        exact y_vret C0 h hF_11 (congrArg Prod.fst (HE.symm.trans hFT)) dX12_goesRound_197
      · -- 99
        replace HE : FT = g5_X12_goesRound_0 R91 (xso SM ad ws_10) a1.toInt a3.toInt a4.toInt a5.toInt a6.toInt x7_9.toInt := HE.trans (if_pos c_23)
        refine lv_iload_n C0.1 C0.2.1 dX12_goesRound_102 rfl (lv_at hl 4 rfl) ?_
        refine y_i2l C0 dX12_goesRound_103 (fun w_24 e_25 => ?_)
        refine lv_iload C0.1 C0.2.1 dX12_goesRound_104 (lv_at hl 0 rfl) ?_
        refine y_ci h (y_rS (As := [.long w_24, .int x7_9]) (rest := []) C0 hZ h (c_X12_isIn l G Z ad _ h.2 w_24 x7_9) k_X12_isIn q_1716 q_1715 hl.1 rfl rfl (Nat.le_of_ble_eq_true rfl) dX12_goesRound_106 ⟨Nat.le_of_ble_eq_true rfl, Nat.le_of_ble_eq_true rfl⟩ ⟨Nat.le_of_ble_eq_true rfl, Nat.le_of_ble_eq_true rfl⟩) (fun r_29 H locs ws_26 h u_27 p_28 => ?_)
        obtain ⟨e_30, e_31, e_32, e_33, e_34⟩ := p_28
        replace HE : FT = g6c_X12_goesRound_0 R91 (xso SM ad ws_26) r_29.toInt a1.toInt a3.toInt a4.toInt a5.toInt a6.toInt x7_9.toInt := HE.trans (by rw [e_30, e_31, e_25]; rfl)
        replace HE : FT = g7b_X12_goesRound_0 R91 (xso SM ad ws_26) r_29.toInt a1.toInt a3.toInt a4.toInt a5.toInt a6.toInt x7_9.toInt := HE.trans rfl
        refine y_if_eq (tgt := 115) C0 dX12_goesRound_109 (by decide) (fun c_35 => ?_) (fun c_35 => ?_)
        · -- 109
          replace HE : FT = g8_X12_goesRound_0 R91 (xso SM ad ws_26) a1.toInt a3.toInt a4.toInt a5.toInt a6.toInt x7_9.toInt := HE.trans (if_pos c_35)
          refine lv_aload_n C0.1 C0.2.1 dX12_goesRound_115 rfl (lv_at hl 1 rfl) ?_
          refine ng_X12_numbers C0 h kSM_0 q_1481 dX12_goesRound_116 ?_
          refine y_c2 (n := 40) C0 (by decide) dX12_goesRound_119 (fun v_36 e_37 => ?_)
          refine lv_iload_n C0.1 C0.2.1 dX12_goesRound_121 rfl (lv_at hl 2 rfl) ?_
          refine y_cmul (n := 40) C0 (o38_27 e_37) (o38_28 l1 u1 (le_min a1) (le_max a1)) (o38_29 l1 u1 (le_min a1) (le_max a1)) dX12_goesRound_122 (fun v_38 e_39 => ?_)
          refine lv_iload C0.1 C0.2.1 dX12_goesRound_123 (lv_at hl 0 rfl) ?_
          refine y_add C0 (o38_190 l1 u1 l2 u2 al0 ah0 e_3 e_4 qh_5 c_6 b_16 b_17 hn_15 e_20 e_21 qh_22 c_23 e_39 (le_min v_38) (le_max v_38) (le_min x7_9) (le_max x7_9) (le_min a1) (le_max a1) (le_min a2) (le_max a2) (le_min ap0) (le_max ap0) (le_min v_1) (le_max v_1) (le_min v_18) (le_max v_18)) (o38_191 l1 u1 l2 u2 al0 ah0 e_3 e_4 qh_5 c_6 b_16 b_17 hn_15 e_20 e_21 qh_22 c_23 e_39 (le_min v_38) (le_max v_38) (le_min x7_9) (le_max x7_9) (le_min a1) (le_max a1) (le_min a2) (le_max a2) (le_min ap0) (le_max ap0) (le_min v_1) (le_max v_1) (le_min v_18) (le_max v_18)) dX12_goesRound_125 (fun v_40 e_41 => ?_)
          refine y_lald C0 h kSM_25 rfl (by decide) (o38_192 l1 u1 l2 u2 al0 ah0 e_3 e_4 qh_5 c_6 b_16 b_17 hn_15 e_20 e_21 qh_22 c_23 e_39 e_41) (o38_193 l1 u1 l2 u2 al0 ah0 e_3 e_4 qh_5 c_6 b_16 b_17 hn_15 e_20 e_21 qh_22 c_23 e_39 e_41) dX12_goesRound_126 (fun w_42 e_43 => ?_)
          have g_44 := num_at (NumOk.fr (M := [0, 5, 8, 9, 10, 11, 12, 13, 18, 19]) hN (Fr.tr hF_11 (Fr.mono u_27 (by decide))) (by decide) (by decide)) (Eq.trans rfl (Eq.trans (Eq.trans (Fr.aI u_27 kSM_24 (by decide)) (Fr.aI hF_11 kSM_24 (by decide))) ea0)) (o38_194 l1 u1 l2 u2 al0 ah0 e_3 e_4 qh_5 c_6 b_16 b_17 hn_15 e_20 e_21 qh_22 c_23 e_39 e_41) (o38_195 l1 u1 l2 u2 al0 ah0 e_3 e_4 qh_5 c_6 b_16 b_17 hn_15 e_20 e_21 qh_22 c_23 e_39 e_41) e_43
          refine y_l2i C0 (o38_36 g_44.1 g_44.2) (o38_37 g_44.1 g_44.2) dX12_goesRound_127 (fun v_45 e_46 => ?_)
          refine lv_istore (lv' := [(8, .int v_45), (7, .int x7_9), (0, .ref (ad 0)), (1, .int a1), (2, .int a2), (3, .int a3), (4, .int a4), (5, .int a5), (6, .int a6)]) C0.1 C0.2.1 dX12_goesRound_128 hl (by decide) rfl (fun ls hl => ?_)
          refine lv_aload_n C0.1 C0.2.1 dX12_goesRound_130 rfl (lv_at hl 2 rfl) ?_
          refine lv_iload C0.1 C0.2.1 dX12_goesRound_131 (lv_at hl 6 rfl) ?_
          refine lv_iload C0.1 C0.2.1 dX12_goesRound_133 (lv_at hl 8 rfl) ?_
          refine lv_iload C0.1 C0.2.1 dX12_goesRound_135 (lv_at hl 0 rfl) ?_
          refine y_ci h (y_rV (As := [.int a4, .int a6, .int v_45]) (rest := []) C0 hZ h (c_X12_leg l G Z ad _ h.2 a4 a6 v_45 (o38_38 l4 u4) (o38_39 l4 u4) (o38_40 g_44.1 g_44.2 e_46) (o38_41 g_44.1 g_44.2 e_46) (J.pa hT hJ (Pa.tr (Pa.fr hF_11 (by decide)) (Pa.fr u_27 (by decide)))) (Laid.pa hLd (Pa.tr (Pa.fr hF_11 (by decide)) (Pa.fr u_27 (by decide))))) k_X12_leg q_1970 q_114 q_1968 kSM_0 rfl rfl rfl hl.1 rfl rfl (Nat.le_of_ble_eq_true rfl) dX12_goesRound_137 ⟨Nat.le_of_ble_eq_true rfl, Nat.le_of_ble_eq_true rfl⟩ ⟨Nat.le_of_ble_eq_true rfl, Nat.le_of_ble_eq_true rfl⟩) (fun r_50 H locs ws_47 h u_48 p_49 => ?_)
          obtain ⟨e_51, e_52⟩ := p_49
          replace HE : FT = g10c_X12_goesRound_0 R91 (xso SM ad ws_47) r_50.toInt a1.toInt a3.toInt a4.toInt a5.toInt a6.toInt x7_9.toInt v_45.toInt := HE.trans (by rw [e_51, e_52, e_46, (xg2 e_43 : w_42.toInt = (xso SM ad ws_26) 2 25 v_40.toInt.toNat), e_41, e_39]; rfl)
          refine lv_istore (lv' := [(9, .int r_50), (8, .int v_45), (7, .int x7_9), (0, .ref (ad 0)), (1, .int a1), (2, .int a2), (3, .int a3), (4, .int a4), (5, .int a5), (6, .int a6)]) C0.1 C0.2.1 dX12_goesRound_140 hl (by decide) rfl (fun ls hl => ?_)
          refine lv_iload C0.1 C0.2.1 dX12_goesRound_142 (lv_at hl 0 rfl) ?_
          refine y_c5 (n := 1000000000) C0 q_1887 (by decide) dX12_goesRound_144 (fun v_53 e_54 => ?_)
          replace HE : FT = g11b_X12_goesRound_0 R91 (xso SM ad ws_47) r_50.toInt a1.toInt a3.toInt a4.toInt a5.toInt a6.toInt x7_9.toInt v_45.toInt := HE.trans rfl
          refine y_icmp_ne (tgt := 153) C0 dX12_goesRound_147 (by decide) (fun c_55 => ?_) (fun c_55 => ?_)
          · -- 147
            replace HE : FT = g12_X12_goesRound_0 R91 (xso SM ad ws_47) a1.toInt a3.toInt a4.toInt a5.toInt a6.toInt x7_9.toInt v_45.toInt r_50.toInt := HE.trans (if_neg (o38_43 e_54 c_55))
            refine lv_aload_n C0.1 C0.2.1 dX12_goesRound_153 rfl (lv_at hl 3 rfl) ?_
            refine ng_X12_taken C0 h kSM_0 q_1471 dX12_goesRound_154 ?_
            refine lv_iload_n C0.1 C0.2.1 dX12_goesRound_157 rfl (lv_at hl 5 rfl) ?_
            refine lv_iload C0.1 C0.2.1 dX12_goesRound_158 (lv_at hl 1 rfl) ?_
            have hO_58 := h.2
            refine y_iast C0 h kSM_18 rfl (by decide) (o38_196 l1 u1 l2 u2 al0 ah0 e_3 e_4 qh_5 c_6 b_16 b_17 hn_15 e_20 e_21 qh_22 c_23 e_39 e_41) (o38_197 l1 u1 l2 u2 al0 ah0 e_3 e_4 qh_5 c_6 b_16 b_17 hn_15 e_20 e_21 qh_22 c_23 e_39 e_41) (le_min v_45) (le_max v_45) dX12_goesRound_160 (fun H locs ws_56 h u_57 => ?_)
            have e_59 : aI ws_56 18 0 = v_45 := (congrArg (aI ws_56 18) (ix_c (c := 0) (o38_198 l1 u1 l2 u2 al0 ah0 e_3 e_4 qh_5 c_6 b_16 b_17 hn_15 e_20 e_21 qh_22 c_23 e_39 e_41))).symm.trans u_57.2.1
            replace HE : FT = g14w_X12_goesRound_0 R91 (xso SM ad ws_56) a1.toInt a3.toInt a4.toInt a5.toInt a6.toInt x7_9.toInt r_50.toInt := HE.trans (by rw [(xso_A (i := 18) hO_58 h.2 kSM_18 rfl u_57), (o38_199 l1 u1 l2 u2 al0 ah0 e_3 e_4 qh_5 c_6 b_16 b_17 hn_15 e_20 e_21 qh_22 c_23 e_39 e_41)]; rfl)
            refine lv_aload_n C0.1 C0.2.1 dX12_goesRound_161 rfl (lv_at hl 3 rfl) ?_
            refine lv_iload_n C0.1 C0.2.1 dX12_goesRound_162 rfl (lv_at hl 4 rfl) ?_
            refine lv_iload_n C0.1 C0.2.1 dX12_goesRound_163 rfl (lv_at hl 5 rfl) ?_
            refine y_c1 (n := 1) C0 (by decide) dX12_goesRound_164 (fun v_60 e_61 => ?_)
            refine y_add C0 (o38_200 l1 u1 l2 u2 al0 ah0 e_3 e_4 qh_5 c_6 b_16 b_17 hn_15 e_20 e_21 qh_22 c_23 e_39 e_41 e_61 (le_min a2) (le_max a2) (le_min v_60) (le_max v_60) (le_min a1) (le_max a1) (le_min ap0) (le_max ap0) (le_min v_1) (le_max v_1) (le_min x7_9) (le_max x7_9) (le_min v_18) (le_max v_18) (le_min v_38) (le_max v_38) (le_min v_40) (le_max v_40)) (o38_201 l1 u1 l2 u2 al0 ah0 e_3 e_4 qh_5 c_6 b_16 b_17 hn_15 e_20 e_21 qh_22 c_23 e_39 e_41 e_61 (le_min a2) (le_max a2) (le_min v_60) (le_max v_60) (le_min a1) (le_max a1) (le_min ap0) (le_max ap0) (le_min v_1) (le_max v_1) (le_min x7_9) (le_max x7_9) (le_min v_18) (le_max v_18) (le_min v_38) (le_max v_38) (le_min v_40) (le_max v_40)) dX12_goesRound_165 (fun v_62 e_63 => ?_)
            refine lv_iload_n C0.1 C0.2.1 dX12_goesRound_166 rfl (lv_at hl 6 rfl) ?_
            refine y_c1 (n := 1) C0 (by decide) dX12_goesRound_167 (fun v_64 e_65 => ?_)
            refine lv_iload C0.1 C0.2.1 dX12_goesRound_168 (lv_at hl 2 rfl) ?_
            refine xr_ishl C0 dX12_goesRound_170 (fun v_66 e_67 => ?_)
            refine xr_ior C0 dX12_goesRound_171 (fun v_68 e_69 => ?_)
            refine lv_aload_n C0.1 C0.2.1 dX12_goesRound_172 rfl (lv_at hl 3 rfl) ?_
            refine ng_X12_endsAt C0 h kSM_0 q_1466 dX12_goesRound_173 (fun v_70 e_71 e_72 e_73 => ?_)
            refine lv_iload C0.1 C0.2.1 dX12_goesRound_176 (lv_at hl 8 rfl) ?_
            refine lv_iload C0.1 C0.2.1 dX12_goesRound_178 (lv_at hl 0 rfl) ?_
            refine xr_iadd C0 dX12_goesRound_180 (fun v_74 e_75 => ?_)
            refine lv_iload C0.1 C0.2.1 dX12_goesRound_181 (lv_at hl 9 rfl) ?_
            refine lv_aload_n C0.1 C0.2.1 dX12_goesRound_183 rfl (lv_at hl 3 rfl) ?_
            refine ng_X12_legStreets C0 h kSM_0 q_1475 dX12_goesRound_184 (fun v_76 e_77 e_78 e_79 => ?_)
            refine xr_iadd C0 dX12_goesRound_187 (fun v_80 e_81 => ?_)
            refine y_cv h (y_rV (As := [.int a1, .int v_62, .int v_68, .int v_70, .int v_74, .int v_80]) (rest := []) C0 hZ h (c_X12_goesRound_1 l G Z ad _ h.2 a1 v_62 v_68 v_70 v_74 v_80 (o38_202 l1 u1 l2 u2 al0 ah0 e_3 e_4 qh_5 c_6 b_16 b_17 hn_15 e_20 e_21 qh_22 c_23 e_39 e_41 e_61 e_63) (o38_203 l1 u1 l2 u2 al0 ah0 e_3 e_4 qh_5 c_6 b_16 b_17 hn_15 e_20 e_21 qh_22 c_23 e_39 e_41 e_61 e_63) (o38_204 l1 u1 l2 u2 al0 ah0 e_3 e_4 qh_5 c_6 b_16 b_17 hn_15 e_20 e_21 qh_22 c_23 e_39 e_41 e_61 e_63) (o38_205 l1 u1 l2 u2 al0 ah0 e_3 e_4 qh_5 c_6 b_16 b_17 hn_15 e_20 e_21 qh_22 c_23 e_39 e_41 e_61 e_63) (o38_38 e_72 e_73) (o38_39 e_72 e_73) (fbd_lo (Eq.trans rfl (Eq.trans (Eq.trans (aI_of (u_57.1 24 (kd_ne kSM_24 kSM_18 (by decide)))) (Eq.trans (Fr.aI u_48 kSM_24 (by decide)) (Eq.trans (Fr.aI u_27 kSM_24 (by decide)) (Fr.aI hF_11 kSM_24 (by decide))))) ea0)) (o38_206 l1 u1 l2 u2 al0 ah0 e_3 e_4 qh_5 c_6 b_16 b_17 hn_15 e_20 e_21 qh_22 c_23 e_39 e_41 e_61 e_63)) (fbd_hi (Eq.trans rfl (Eq.trans (Eq.trans (aI_of (u_57.1 24 (kd_ne kSM_24 kSM_18 (by decide)))) (Eq.trans (Fr.aI u_48 kSM_24 (by decide)) (Eq.trans (Fr.aI u_27 kSM_24 (by decide)) (Fr.aI hF_11 kSM_24 (by decide))))) ea0)) (o38_207 l1 u1 l2 u2 al0 ah0 e_3 e_4 qh_5 c_6 b_16 b_17 hn_15 e_20 e_21 qh_22 c_23 e_39 e_41 e_61 e_63)) (NumOk.fr (M := [0, 5, 8, 9, 10, 11, 12, 13, 18, 19]) hN (Fr.tr (Fr.tr (Fr.tr hF_11 (Fr.mono u_27 (by decide))) (Fr.mono u_48 (by decide))) (Fr.up u_57.1 kSM_18 (by decide))) (by decide) (by decide)) (J.pa hT hJ (Pa.tr (Pa.tr (Pa.tr (Pa.fr hF_11 (by decide)) (Pa.fr u_27 (by decide))) (Pa.fr u_48 (by decide))) (Pa.ud u_57.1 (by decide)))) (Laid.pa hLd (Pa.tr (Pa.tr (Pa.tr (Pa.fr hF_11 (by decide)) (Pa.fr u_27 (by decide))) (Pa.fr u_48 (by decide))) (Pa.ud u_57.1 (by decide))))) k_X12_goesRound q_1966 q_113 q_1964 kSM_0 rfl rfl rfl hl.1 rfl rfl (Nat.le_of_ble_eq_true rfl) dX12_goesRound_188 ⟨Nat.le_of_ble_eq_true rfl, Nat.le_of_ble_eq_true rfl⟩ ⟨Nat.le_of_ble_eq_true rfl, Nat.le_of_ble_eq_true rfl⟩) (fun H locs ws_82 h u_83 p_84 => ?_)
            have e_85 := p_84
            replace HE : FT = g15c_X12_goesRound_0 R91 (xso SM ad ws_82) a1.toInt a3.toInt a4.toInt a5.toInt a6.toInt x7_9.toInt := HE.trans (by rw [e_85, e_81, (xg0 e_77 : v_76.toInt = (xso SM ad ws_56) 0 0 37), e_75, (xg0 e_71 : v_70.toInt = (xso SM ad ws_56) 0 0 28), e_69, e_67, e_65, e_63, e_61, (o38_208 l1 u1 l2 u2 al0 ah0 e_3 e_4 qh_5 c_6 b_16 b_17 hn_15 e_20 e_21 qh_22 c_23 e_39 e_41 e_61 e_63)]; rfl)
            refine y_inc (kp := 2) (n := 1) (fun v_86 => [(7, .int v_86), (9, .int r_50), (8, .int v_45), (0, .ref (ad 0)), (1, .int a1), (2, .int a2), (3, .int a3), (4, .int a4), (5, .int a5), (6, .int a6)]) C0 hl rfl (by decide) (by decide) (fun _ => rfl) (o38_209 l1 u1 l2 u2 al0 ah0 e_3 e_4 qh_5 c_6 b_16 b_17 hn_15 e_20 e_21 qh_22 c_23 e_39 e_41 e_61 e_63 (le_min x7_9) (le_max x7_9) (le_min a1) (le_max a1) (le_min a2) (le_max a2) (le_min ap0) (le_max ap0) (le_min v_1) (le_max v_1) (le_min v_18) (le_max v_18) (le_min v_38) (le_max v_38) (le_min v_40) (le_max v_40) (le_min v_60) (le_max v_60) (le_min v_62) (le_max v_62)) (o38_210 l1 u1 l2 u2 al0 ah0 e_3 e_4 qh_5 c_6 b_16 b_17 hn_15 e_20 e_21 qh_22 c_23 e_39 e_41 e_61 e_63 (le_min x7_9) (le_max x7_9) (le_min a1) (le_max a1) (le_min a2) (le_max a2) (le_min ap0) (le_max ap0) (le_min v_1) (le_max v_1) (le_min v_18) (le_max v_18) (le_min v_38) (le_max v_38) (le_min v_40) (le_max v_40) (le_min v_60) (le_max v_60) (le_min v_62) (le_max v_62)) dX12_goesRound_191 (fun v_86 ls e_87 hl => ?_)
            refine lv_goto (tgt := 91) C0.1 C0.2.1 dX12_goesRound_194 (by decide) ?_
            exact ih_13 v_86 _ _ _ _ (o38_211 l1 u1 l2 u2 al0 ah0 e_3 e_4 qh_5 c_6 b_16 b_17 hn_15 e_20 e_21 qh_22 c_23 e_39 e_41 e_61 e_63 e_87) (o38_212 l1 u1 l2 u2 al0 ah0 e_3 e_4 qh_5 c_6 b_16 b_17 hn_15 e_20 e_21 qh_22 c_23 e_39 e_41 e_61 e_63 e_87) (o38_213 l1 u1 l2 u2 al0 ah0 e_3 e_4 qh_5 c_6 b_16 b_17 hn_15 e_20 e_21 qh_22 c_23 e_39 e_41 e_61 e_63 e_87) (((show FT = R91 (xso SM ad ws_82) a1.toInt a3.toInt a4.toInt a5.toInt a6.toInt v_86.toInt from HE.trans (by rw [e_87]; rfl)).trans (by rw [hR91]))) h (Fr.tr (Fr.tr (Fr.tr (Fr.tr hF_11 (Fr.mono u_27 (by decide))) (Fr.mono u_48 (by decide))) (Fr.up u_57.1 kSM_18 (by decide))) u_83) (lv_sub hl [0, 3, 4, 5, 6, 7, 8, 9] rfl)
          · -- 147
            replace HE : FT = g13_X12_goesRound_0 R91 (xso SM ad ws_47) a1.toInt a3.toInt a4.toInt a5.toInt a6.toInt x7_9.toInt := HE.trans (if_pos (o38_44 e_54 c_55))
            refine lv_goto (tgt := 191) C0.1 C0.2.1 dX12_goesRound_150 (by decide) ?_
            refine y_inc (kp := 2) (n := 1) (fun v_88 => [(7, .int v_88), (9, .int r_50), (8, .int v_45), (0, .ref (ad 0)), (1, .int a1), (2, .int a2), (3, .int a3), (4, .int a4), (5, .int a5), (6, .int a6)]) C0 hl rfl (by decide) (by decide) (fun _ => rfl) (o38_214 l1 u1 l2 u2 al0 ah0 e_3 e_4 qh_5 c_6 b_16 b_17 hn_15 e_20 e_21 qh_22 c_23 e_39 e_41 (le_min x7_9) (le_max x7_9) (le_min a1) (le_max a1) (le_min a2) (le_max a2) (le_min ap0) (le_max ap0) (le_min v_1) (le_max v_1) (le_min v_18) (le_max v_18) (le_min v_38) (le_max v_38) (le_min v_40) (le_max v_40)) (o38_215 l1 u1 l2 u2 al0 ah0 e_3 e_4 qh_5 c_6 b_16 b_17 hn_15 e_20 e_21 qh_22 c_23 e_39 e_41 (le_min x7_9) (le_max x7_9) (le_min a1) (le_max a1) (le_min a2) (le_max a2) (le_min ap0) (le_max ap0) (le_min v_1) (le_max v_1) (le_min v_18) (le_max v_18) (le_min v_38) (le_max v_38) (le_min v_40) (le_max v_40)) dX12_goesRound_191 (fun v_88 ls e_89 hl => ?_)
            refine lv_goto (tgt := 91) C0.1 C0.2.1 dX12_goesRound_194 (by decide) ?_
            exact ih_13 v_88 _ _ _ _ (o38_216 l1 u1 l2 u2 al0 ah0 e_3 e_4 qh_5 c_6 b_16 b_17 hn_15 e_20 e_21 qh_22 c_23 e_39 e_41 e_89) (o38_217 l1 u1 l2 u2 al0 ah0 e_3 e_4 qh_5 c_6 b_16 b_17 hn_15 e_20 e_21 qh_22 c_23 e_39 e_41 e_89) (o38_218 l1 u1 l2 u2 al0 ah0 e_3 e_4 qh_5 c_6 b_16 b_17 hn_15 e_20 e_21 qh_22 c_23 e_39 e_41 e_89) (((show FT = R91 (xso SM ad ws_47) a1.toInt a3.toInt a4.toInt a5.toInt a6.toInt v_88.toInt from HE.trans (by rw [e_89]; rfl)).trans (by rw [hR91]))) h (Fr.tr (Fr.tr hF_11 (Fr.mono u_27 (by decide))) (Fr.mono u_48 (by decide))) (lv_sub hl [0, 3, 4, 5, 6, 7, 8, 9] rfl)
        · -- 109
          replace HE : FT = g9_X12_goesRound_0 R91 (xso SM ad ws_26) a1.toInt a3.toInt a4.toInt a5.toInt a6.toInt x7_9.toInt := HE.trans (if_neg c_35)
          refine lv_goto (tgt := 191) C0.1 C0.2.1 dX12_goesRound_112 (by decide) ?_
          refine y_inc (kp := 0) (n := 1) (fun v_90 => [(7, .int v_90), (0, .ref (ad 0)), (1, .int a1), (2, .int a2), (3, .int a3), (4, .int a4), (5, .int a5), (6, .int a6)]) C0 hl rfl (by decide) (by decide) (fun _ => rfl) (o38_219 l2 u2 al0 ah0 e_3 e_4 qh_5 c_6 b_16 b_17 hn_15 e_20 e_21 qh_22 c_23 (le_min x7_9) (le_max x7_9) (le_min a2) (le_max a2) (le_min ap0) (le_max ap0) (le_min v_1) (le_max v_1) (le_min v_18) (le_max v_18)) (o38_220 l2 u2 al0 ah0 e_3 e_4 qh_5 c_6 b_16 b_17 hn_15 e_20 e_21 qh_22 c_23 (le_min x7_9) (le_max x7_9) (le_min a2) (le_max a2) (le_min ap0) (le_max ap0) (le_min v_1) (le_max v_1) (le_min v_18) (le_max v_18)) dX12_goesRound_191 (fun v_90 ls e_91 hl => ?_)
          refine lv_goto (tgt := 91) C0.1 C0.2.1 dX12_goesRound_194 (by decide) ?_
          exact ih_13 v_90 _ _ _ _ (o38_221 l2 u2 al0 ah0 e_3 e_4 qh_5 c_6 b_16 b_17 hn_15 e_20 e_21 qh_22 c_23 e_91) (o38_222 l2 u2 al0 ah0 e_3 e_4 qh_5 c_6 b_16 b_17 hn_15 e_20 e_21 qh_22 c_23 e_91) (o38_223 l2 u2 al0 ah0 e_3 e_4 qh_5 c_6 b_16 b_17 hn_15 e_20 e_21 qh_22 c_23 e_91) (((show FT = R91 (xso SM ad ws_26) a1.toInt a3.toInt a4.toInt a5.toInt a6.toInt v_90.toInt from HE.trans (by rw [e_91]; rfl)).trans (by rw [hR91]))) h (Fr.tr hF_11 (Fr.mono u_27 (by decide))) (lv_sub hl [0, 1, 2, 3, 4, 5, 6, 7] rfl)
  exact lp_12 ((4 - v_7.toInt + 1).toNat) v_7 _ _ _ _ (o38_18 e_8) (o38_19 e_8) (o38_20 e_8) ((show FT = L1_X12_goesRound_0 (Int.toNat (4 - v_7.toInt + 1)) (xso SM ad ws0) a1.toInt a3.toInt a4.toInt a5.toInt a6.toInt v_7.toInt from HE.trans (by rw [e_8]; rfl))) h Fr.rf (lv_sub hl [0, 1, 2, 3, 4, 5, 6, 7] rfl)
noncomputable def g4_X12_round (s : XS) : XR := (s, ((-2)))
noncomputable def g8_X12_round (s : XS) : XR := (s, ((-2)))
noncomputable def g33_X12_round (s : XS) (a2 : Int) : XR := (s, (s 0 0 36))
noncomputable def g34_X12_round (s : XS) : XR := (s, (s 0 0 35))
noncomputable def g32b_X12_round (s : XS) (a3 : Int) (a2 : Int) : XR := if a3 = 0 then g34_X12_round s else g33_X12_round s a2
noncomputable def g30_X12_round (s : XS) (a2 : Int) (a3 : Int) : XR := g32b_X12_round s a3 a2
noncomputable def g31_X12_round (s : XS) : XR := (s, ((-1)))
noncomputable def g29b_X12_round (s : XS) (v_142 : Int) (a2 : Int) (a3 : Int) : XR := if v_142 = ((-1)) then g31_X12_round s else g30_X12_round s a2 a3
noncomputable def g28c_X12_round (s : XS) (a2 : Int) (a3 : Int) : XR := g29b_X12_round s ((s 0 0 35)) a2 a3
noncomputable def g27w_X12_round (s : XS) (a1 : Int) (a2 : Int) (a3 : Int) : XR := g28c_X12_round ((f_X12_goesRound_0 s a2 0 0 ((4 * (s 1 1 (Int.toNat (36 + a1)))) + (s 1 1 (Int.toNat (41 + a1)))) 0 0).1) a2 a3
noncomputable def g25_X12_round (s : XS) (a1 : Int) (a2 : Int) (a3 : Int) : XR := g27w_X12_round (xup s 0 0 35 ((-1))) a1 a2 a3
noncomputable def g37_X12_round (R91 : XS → Int → Int → Int → Int → XR) (s : XS) (a1 : Int) (a2 : Int) (a3 : Int) (x5_86 : Int) : XR := R91 s a1 a2 a3 ((x5_86 + 1))
noncomputable def g38_X12_round (s : XS) : XR := (s, ((-3)))
noncomputable def g36b_X12_round (R91 : XS → Int → Int → Int → Int → XR) (s : XS) (r_175 : Int) (a1 : Int) (a2 : Int) (a3 : Int) (x5_86 : Int) : XR := if r_175 = 0 then g38_X12_round s else g37_X12_round R91 s a1 a2 a3 x5_86
noncomputable def g35c_X12_round (R91 : XS → Int → Int → Int → Int → XR) (s : XS) (r_175 : Int) (a1 : Int) (a2 : Int) (a3 : Int) (x5_86 : Int) : XR := g36b_X12_round R91 s r_175 a1 a2 a3 x5_86
noncomputable def g26_X12_round (R91 : XS → Int → Int → Int → Int → XR) (s : XS) (a1 : Int) (a2 : Int) (a3 : Int) (x5_86 : Int) : XR := g35c_X12_round R91 ((f_X12_isCrossing s (s 2 25 (Int.toNat ((40 * a2) + x5_86)))).1) (((f_X12_isCrossing s (s 2 25 (Int.toNat ((40 * a2) + x5_86)))).2)) a1 a2 a3 x5_86
noncomputable def g24b_X12_round (R91 : XS → Int → Int → Int → Int → XR) (s : XS) (v_95 : Int) (x5_86 : Int) (a1 : Int) (a2 : Int) (a3 : Int) : XR := if x5_86 < v_95 then g26_X12_round R91 s a1 a2 a3 x5_86 else g25_X12_round s a1 a2 a3
noncomputable def g23l_X12_round (R91 : XS → Int → Int → Int → Int → XR) (s : XS) (a1 : Int) (a2 : Int) (a3 : Int) (x5_86 : Int) : XR := g24b_X12_round R91 s ((s 1 24 (Int.toNat a2))) x5_86 a1 a2 a3
noncomputable def L22_X12_round (n : Nat) : XS → Int → Int → Int → Int → XR := Nat.rec (motive := fun _ => XS → Int → Int → Int → Int → XR) (fun s _ _ _ _ => (s, 0)) (fun _ R91 => g23l_X12_round R91) n
noncomputable def g20_X12_round (s : XS) (a1 : Int) (a2 : Int) (a3 : Int) : XR := L22_X12_round (Int.toNat (4 - 0 + 1)) s a1 a2 a3 0
noncomputable def g21_X12_round (s : XS) : XR := (s, ((-4)))
noncomputable def g19b_X12_round (s : XS) (r_77 : Int) (a1 : Int) (a2 : Int) (a3 : Int) : XR := if r_77 = 0 then g21_X12_round s else g20_X12_round s a1 a2 a3
noncomputable def g18c_X12_round (s : XS) (r_77 : Int) (a1 : Int) (a2 : Int) (a3 : Int) : XR := g19b_X12_round s r_77 a1 a2 a3
noncomputable def g16_X12_round (s : XS) (a1 : Int) (a2 : Int) (a3 : Int) : XR := g18c_X12_round ((f_X12_within s ((s 1 24 (Int.toNat a2))) 1 4).1) (((f_X12_within s ((s 1 24 (Int.toNat a2))) 1 4).2)) a1 a2 a3
noncomputable def g17_X12_round (s : XS) (r_57 : Int) : XR := (s, r_57)
noncomputable def g15b_X12_round (s : XS) (r_57 : Int) (a1 : Int) (a2 : Int) (a3 : Int) : XR := if r_57 = 0 then g16_X12_round s a1 a2 a3 else g17_X12_round s r_57
noncomputable def g14c_X12_round (s : XS) (r_57 : Int) (a1 : Int) (a2 : Int) (a3 : Int) : XR := g15b_X12_round s r_57 a1 a2 a3
noncomputable def g12_X12_round (s : XS) (a1 : Int) (a2 : Int) (a3 : Int) : XR := g14c_X12_round ((f_X12_noTray s a2).1) (((f_X12_noTray s a2).2)) a1 a2 a3
noncomputable def g62_X12_round (s : XS) : XR := (s, ((-1)))
noncomputable def g63_X12_round (s : XS) (a3 : Int) : XR := (s, (s 1 19 (Int.toNat (a3 - 10))))
noncomputable def g61b_X12_round (s : XS) (v_308 : Int) (v_306 : Int) (a3 : Int) : XR := if v_306 < v_308 then g63_X12_round s a3 else g62_X12_round s
noncomputable def g59_X12_round (s : XS) (a2 : Int) (a3 : Int) : XR := g61b_X12_round s ((s 1 24 (Int.toNat a2))) ((a3 - 10)) a3
noncomputable def g60_X12_round (s : XS) : XR := (s, ((-1)))
noncomputable def g58b_X12_round (s : XS) (v_293 : Int) (a2 : Int) (a3 : Int) : XR := if v_293 = ((-1)) then g60_X12_round s else g59_X12_round s a2 a3
noncomputable def g57c_X12_round (s : XS) (a2 : Int) (a3 : Int) : XR := g58b_X12_round s ((s 0 0 35)) a2 a3
noncomputable def g56w_X12_round (s : XS) (a1 : Int) (a2 : Int) (a3 : Int) : XR := g57c_X12_round ((f_X12_goesRound_0 s a2 0 0 ((4 * (s 1 1 (Int.toNat (36 + a1)))) + (s 1 1 (Int.toNat (41 + a1)))) 0 0).1) a2 a3
noncomputable def g54_X12_round (s : XS) (a1 : Int) (a2 : Int) (a3 : Int) : XR := g56w_X12_round (xup s 0 0 35 ((-1))) a1 a2 a3
noncomputable def g66_X12_round (R91 : XS → Int → Int → Int → Int → XR) (s : XS) (a1 : Int) (a2 : Int) (a3 : Int) (x5_237 : Int) : XR := R91 s a1 a2 a3 ((x5_237 + 1))
noncomputable def g67_X12_round (s : XS) : XR := (s, ((-3)))
noncomputable def g65b_X12_round (R91 : XS → Int → Int → Int → Int → XR) (s : XS) (r_337 : Int) (a1 : Int) (a2 : Int) (a3 : Int) (x5_237 : Int) : XR := if r_337 = 0 then g67_X12_round s else g66_X12_round R91 s a1 a2 a3 x5_237
noncomputable def g64c_X12_round (R91 : XS → Int → Int → Int → Int → XR) (s : XS) (r_337 : Int) (a1 : Int) (a2 : Int) (a3 : Int) (x5_237 : Int) : XR := g65b_X12_round R91 s r_337 a1 a2 a3 x5_237
noncomputable def g55_X12_round (R91 : XS → Int → Int → Int → Int → XR) (s : XS) (a1 : Int) (a2 : Int) (a3 : Int) (x5_237 : Int) : XR := g64c_X12_round R91 ((f_X12_isCrossing s (s 2 25 (Int.toNat ((40 * a2) + x5_237)))).1) (((f_X12_isCrossing s (s 2 25 (Int.toNat ((40 * a2) + x5_237)))).2)) a1 a2 a3 x5_237
noncomputable def g53b_X12_round (R91 : XS → Int → Int → Int → Int → XR) (s : XS) (v_246 : Int) (x5_237 : Int) (a1 : Int) (a2 : Int) (a3 : Int) : XR := if x5_237 < v_246 then g55_X12_round R91 s a1 a2 a3 x5_237 else g54_X12_round s a1 a2 a3
noncomputable def g52l_X12_round (R91 : XS → Int → Int → Int → Int → XR) (s : XS) (a1 : Int) (a2 : Int) (a3 : Int) (x5_237 : Int) : XR := g53b_X12_round R91 s ((s 1 24 (Int.toNat a2))) x5_237 a1 a2 a3
noncomputable def L51_X12_round (n : Nat) : XS → Int → Int → Int → Int → XR := Nat.rec (motive := fun _ => XS → Int → Int → Int → Int → XR) (fun s _ _ _ _ => (s, 0)) (fun _ R91 => g52l_X12_round R91) n
noncomputable def g49_X12_round (s : XS) (a1 : Int) (a2 : Int) (a3 : Int) : XR := L51_X12_round (Int.toNat (4 - 0 + 1)) s a1 a2 a3 0
noncomputable def g50_X12_round (s : XS) : XR := (s, ((-4)))
noncomputable def g48b_X12_round (s : XS) (r_228 : Int) (a1 : Int) (a2 : Int) (a3 : Int) : XR := if r_228 = 0 then g50_X12_round s else g49_X12_round s a1 a2 a3
noncomputable def g47c_X12_round (s : XS) (r_228 : Int) (a1 : Int) (a2 : Int) (a3 : Int) : XR := g48b_X12_round s r_228 a1 a2 a3
noncomputable def g45_X12_round (s : XS) (a1 : Int) (a2 : Int) (a3 : Int) : XR := g47c_X12_round ((f_X12_within s ((s 1 24 (Int.toNat a2))) 1 4).1) (((f_X12_within s ((s 1 24 (Int.toNat a2))) 1 4).2)) a1 a2 a3
noncomputable def g46_X12_round (s : XS) (r_208 : Int) : XR := (s, r_208)
noncomputable def g44b_X12_round (s : XS) (r_208 : Int) (a1 : Int) (a2 : Int) (a3 : Int) : XR := if r_208 = 0 then g45_X12_round s a1 a2 a3 else g46_X12_round s r_208
noncomputable def g43c_X12_round (s : XS) (r_208 : Int) (a1 : Int) (a2 : Int) (a3 : Int) : XR := g44b_X12_round s r_208 a1 a2 a3
noncomputable def g41_X12_round (s : XS) (a1 : Int) (a2 : Int) (a3 : Int) : XR := g43c_X12_round ((f_X12_noTray s a2).1) (((f_X12_noTray s a2).2)) a1 a2 a3
noncomputable def g42_X12_round (s : XS) : XR := (s, ((-2)))
noncomputable def g40b_X12_round (s : XS) (r_198 : Int) (a1 : Int) (a2 : Int) (a3 : Int) : XR := if r_198 = 0 then g42_X12_round s else g41_X12_round s a1 a2 a3
noncomputable def g39c_X12_round (s : XS) (r_198 : Int) (a1 : Int) (a2 : Int) (a3 : Int) : XR := g40b_X12_round s r_198 a1 a2 a3
noncomputable def g13_X12_round (s : XS) (a1 : Int) (a2 : Int) (a3 : Int) : XR := g39c_X12_round ((f_X12_within s a3 10 13).1) (((f_X12_within s a3 10 13).2)) a1 a2 a3
noncomputable def g11b_X12_round (s : XS) (r_47 : Int) (a1 : Int) (a2 : Int) (a3 : Int) : XR := if r_47 = 0 then g13_X12_round s a1 a2 a3 else g12_X12_round s a1 a2 a3
noncomputable def g10c_X12_round (s : XS) (r_47 : Int) (a1 : Int) (a2 : Int) (a3 : Int) : XR := g11b_X12_round s r_47 a1 a2 a3
noncomputable def g9_X12_round (s : XS) (a1 : Int) (a2 : Int) (a3 : Int) : XR := g10c_X12_round ((f_X12_within s a3 0 1).1) (((f_X12_within s a3 0 1).2)) a1 a2 a3
noncomputable def g7b_X12_round (s : XS) (r_29 : Int) (a1 : Int) (a2 : Int) (a3 : Int) : XR := if r_29 = 0 then g8_X12_round s else g9_X12_round s a1 a2 a3
noncomputable def g6c_X12_round (s : XS) (r_29 : Int) (a1 : Int) (a2 : Int) (a3 : Int) : XR := g7b_X12_round s r_29 a1 a2 a3
noncomputable def g5_X12_round (s : XS) (a1 : Int) (a2 : Int) (a3 : Int) : XR := g6c_X12_round ((f_X12_within s a2 0 3).1) (((f_X12_within s a2 0 3).2)) a1 a2 a3
noncomputable def g3b_X12_round (s : XS) (r_10 : Int) (a1 : Int) (a2 : Int) (a3 : Int) : XR := if r_10 = 0 then g4_X12_round s else g5_X12_round s a1 a2 a3
noncomputable def g2c_X12_round (s : XS) (r_10 : Int) (a1 : Int) (a2 : Int) (a3 : Int) : XR := g3b_X12_round s r_10 a1 a2 a3
noncomputable def g1w_X12_round (s : XS) (a1 : Int) (a2 : Int) (a3 : Int) : XR := g2c_X12_round ((f_X12_isPerson s a1).1) (((f_X12_isPerson s a1).2)) a1 a2 a3
noncomputable def f_X12_round (s : XS) (a1 : Int) (a2 : Int) (a3 : Int) : XR := g1w_X12_round (xup s 0 0 0 0) a1 a2 a3
set_option maxHeartbeats 4000000 in
set_option maxRecDepth 100000 in
theorem c_X12_round (l : Launch) (G : GG) (Z : RZ) (ad : Nat → Nat) (ws0 : va_W) (hT : Ty G SM ad ws0) (a1 : Int32) (a2 : Int32) (a3 : Int32) (hJ : J ws0) : Mq l yX12_round cX12_round 6 (some .int) 13 G Z [.ref (ad 0), .int a1, .int a2, .int a3] ws0 (PI G SM ad [0, 5, 8, 9, 10, 11, 12, 13, 18, 19] ws0 (fun r u => (xso SM ad u = (f_X12_round (xso SM ad ws0) a1.toInt a2.toInt a3.toInt).1) ∧ (r.toInt = (f_X12_round (xso SM ad ws0) a1.toInt a2.toInt a3.toInt).2))) := by
  refine Mq.start (by decide) (Nat.le_of_ble_eq_true rfl) ?_
  intro p e s m below meth c A ls C0 hZ h hl
  have hl : lv_has ls 6 [(0, .ref (ad 0)), (1, .int a1), (2, .int a2), (3, .int a3)] := hl
  have h : Wt G SM ad A s s.heap [] ws0 := ⟨h, hT⟩
  obtain ⟨args, hargs⟩ : ∃ z, z = ([.ref (ad 0), .int a1, .int a2, .int a3] : List Value).toArray := ⟨_, rfl⟩
  rw [← hargs] at C0 ⊢
  have C0 : Cx p s m args meth c RX12 cX12_round 6 (some .int) := C0
  obtain ⟨Q, hQ⟩ : ∃ z, z = MQ below ((PI G SM ad [0, 5, 8, 9, 10, 11, 12, 13, 18, 19] ws0 (fun r u => (xso SM ad u = (f_X12_round (xso SM ad ws0) a1.toInt a2.toInt a3.toInt).1) ∧ (r.toInt = (f_X12_round (xso SM ad ws0) a1.toInt a2.toInt a3.toInt).2))) A) args s 0 0 A := ⟨_, rfl⟩
  rw [← hQ]
  obtain ⟨FT, hFT⟩ : ∃ z, z = f_X12_round (xso SM ad ws0) a1.toInt a2.toInt a3.toInt := ⟨_, rfl⟩
  have HE : FT = f_X12_round (xso SM ad ws0) a1.toInt a2.toInt a3.toInt := hFT
  refine lv_aload_n C0.1 C0.2.1 dX12_round_0 rfl (lv_at hl 0 rfl) ?_
  refine y_c1 (n := 0) C0 (by decide) dX12_round_1 (fun v_1 e_2 => ?_)
  refine np_X12_thrown C0 h kSM_0 q_1438 (le_min v_1) (le_max v_1) dX12_round_2 (fun H locs ws_3 h u_4 Xu_4 => ?_)
  replace HE : FT = g1w_X12_round (xso SM ad ws_3) a1.toInt a2.toInt a3.toInt := HE.trans (by rw [Xu_4, e_2]; rfl)
  refine lv_aload_n C0.1 C0.2.1 dX12_round_5 rfl (lv_at hl 0 rfl) ?_
  refine lv_iload_n C0.1 C0.2.1 dX12_round_6 rfl (lv_at hl 1 rfl) ?_
  refine y_i2l C0 dX12_round_7 (fun w_5 e_6 => ?_)
  refine y_ci h (y_rV (As := [.long w_5]) (rest := []) C0 hZ h (c_X12_isPerson l G Z ad _ h.2 w_5 (J.pa hT hJ (Pa.ud u_4.1 (by decide)))) k_X12_isPerson q_1693 q_77 q_1691 kSM_0 rfl rfl rfl hl.1 rfl rfl (Nat.le_of_ble_eq_true rfl) dX12_round_8 ⟨Nat.le_of_ble_eq_true rfl, Nat.le_of_ble_eq_true rfl⟩ ⟨Nat.le_of_ble_eq_true rfl, Nat.le_of_ble_eq_true rfl⟩) (fun r_10 H locs ws_7 h u_8 p_9 => ?_)
  obtain ⟨e_11, e_12, e_13, e_14, e_15, e_16⟩ := p_9
  replace HE : FT = g2c_X12_round (xso SM ad ws_7) r_10.toInt a1.toInt a2.toInt a3.toInt := HE.trans (by rw [e_11, e_12, e_6]; rfl)
  replace HE : FT = g3b_X12_round (xso SM ad ws_7) r_10.toInt a1.toInt a2.toInt a3.toInt := HE.trans rfl
  refine y_if_eq (tgt := 50) C0 dX12_round_11 (by decide) (fun c_17 => ?_) (fun c_17 => ?_)
  · -- 11
    replace HE : FT = g4_X12_round (xso SM ad ws_7) := HE.trans (if_pos c_17)
    refine y_c2 (n := (-2)) C0 (by decide) dX12_round_50 (fun v_18 e_19 => ?_)
    replace HE : FT = ((xso SM ad ws_7), v_18.toInt) := HE.trans (by rw [e_19]; rfl)
    rw [hQ]
    exact y_iret C0 h (Fr.tr (Fr.up u_4.1 kSM_0 (by decide)) (Fr.mono u_8 (by decide))) ⟨(congrArg Prod.fst (HE.symm.trans hFT)), (congrArg Prod.snd (HE.symm.trans hFT))⟩ dX12_round_52
  · -- 11
    replace HE : FT = g5_X12_round (xso SM ad ws_7) a1.toInt a2.toInt a3.toInt := HE.trans (if_neg c_17)
    refine lv_iload_n C0.1 C0.2.1 dX12_round_14 rfl (lv_at hl 2 rfl) ?_
    refine y_i2l C0 dX12_round_15 (fun w_20 e_21 => ?_)
    refine y_lc (v := 0) C0 (by decide) dX12_round_16 (fun w_22 e_23 => ?_)
    refine y_lc2 (n := 3) C0 q_1710 (by decide) dX12_round_17 (fun w_24 e_25 => ?_)
    refine y_ci h (y_rS (As := [.long w_20, .long w_22, .long w_24]) (rest := []) C0 hZ h (c_X12_within l G Z ad _ h.2 w_20 w_22 w_24) k_X12_within q_1580 q_1579 hl.1 rfl rfl (Nat.le_of_ble_eq_true rfl) dX12_round_20 ⟨Nat.le_of_ble_eq_true rfl, Nat.le_of_ble_eq_true rfl⟩ ⟨Nat.le_of_ble_eq_true rfl, Nat.le_of_ble_eq_true rfl⟩) (fun r_29 H locs ws_26 h u_27 p_28 => ?_)
    obtain ⟨e_30, e_31, e_32, e_33, e_34⟩ := p_28
    replace HE : FT = g6c_X12_round (xso SM ad ws_26) r_29.toInt a1.toInt a2.toInt a3.toInt := HE.trans (by rw [e_30, e_31, e_25, e_23, e_21]; rfl)
    replace HE : FT = g7b_X12_round (xso SM ad ws_26) r_29.toInt a1.toInt a2.toInt a3.toInt := HE.trans rfl
    refine y_if_eq (tgt := 50) C0 dX12_round_23 (by decide) (fun c_35 => ?_) (fun c_35 => ?_)
    · -- 23
      replace HE : FT = g8_X12_round (xso SM ad ws_26) := HE.trans (if_pos c_35)
      refine y_c2 (n := (-2)) C0 (by decide) dX12_round_50 (fun v_36 e_37 => ?_)
      replace HE : FT = ((xso SM ad ws_26), v_36.toInt) := HE.trans (by rw [e_37]; rfl)
      rw [hQ]
      exact y_iret C0 h (Fr.tr (Fr.tr (Fr.up u_4.1 kSM_0 (by decide)) (Fr.mono u_8 (by decide))) (Fr.mono u_27 (by decide))) ⟨(congrArg Prod.fst (HE.symm.trans hFT)), (congrArg Prod.snd (HE.symm.trans hFT))⟩ dX12_round_52
    · -- 23
      replace HE : FT = g9_X12_round (xso SM ad ws_26) a1.toInt a2.toInt a3.toInt := HE.trans (if_neg c_35)
      refine lv_iload_n C0.1 C0.2.1 dX12_round_26 rfl (lv_at hl 3 rfl) ?_
      refine y_i2l C0 dX12_round_27 (fun w_38 e_39 => ?_)
      refine y_lc (v := 0) C0 (by decide) dX12_round_28 (fun w_40 e_41 => ?_)
      refine y_lc (v := 1) C0 (by decide) dX12_round_29 (fun w_42 e_43 => ?_)
      refine y_ci h (y_rS (As := [.long w_38, .long w_40, .long w_42]) (rest := []) C0 hZ h (c_X12_within l G Z ad _ h.2 w_38 w_40 w_42) k_X12_within q_1580 q_1579 hl.1 rfl rfl (Nat.le_of_ble_eq_true rfl) dX12_round_30 ⟨Nat.le_of_ble_eq_true rfl, Nat.le_of_ble_eq_true rfl⟩ ⟨Nat.le_of_ble_eq_true rfl, Nat.le_of_ble_eq_true rfl⟩) (fun r_47 H locs ws_44 h u_45 p_46 => ?_)
      obtain ⟨e_48, e_49, e_50, e_51, e_52⟩ := p_46
      replace HE : FT = g10c_X12_round (xso SM ad ws_44) r_47.toInt a1.toInt a2.toInt a3.toInt := HE.trans (by rw [e_48, e_49, e_43, e_41, e_39]; rfl)
      replace HE : FT = g11b_X12_round (xso SM ad ws_44) r_47.toInt a1.toInt a2.toInt a3.toInt := HE.trans rfl
      refine y_if_ne (tgt := 53) C0 dX12_round_33 (by decide) (fun c_53 => ?_) (fun c_53 => ?_)
      · -- 33
        replace HE : FT = g12_X12_round (xso SM ad ws_44) a1.toInt a2.toInt a3.toInt := HE.trans (if_neg c_53)
        refine lv_aload_n C0.1 C0.2.1 dX12_round_53 rfl (lv_at hl 0 rfl) ?_
        refine lv_iload_n C0.1 C0.2.1 dX12_round_54 rfl (lv_at hl 2 rfl) ?_
        refine y_ci h (y_rV (As := [.int a2]) (rest := []) C0 hZ h (c_X12_noTray l G Z ad _ h.2 a2) k_X12_noTray q_1796 q_91 q_1794 kSM_0 rfl rfl rfl hl.1 rfl rfl (Nat.le_of_ble_eq_true rfl) dX12_round_55 ⟨Nat.le_of_ble_eq_true rfl, Nat.le_of_ble_eq_true rfl⟩ ⟨Nat.le_of_ble_eq_true rfl, Nat.le_of_ble_eq_true rfl⟩) (fun r_57 H locs ws_54 h u_55 p_56 => ?_)
        obtain ⟨e_58, e_59, e_60, e_61, e_62⟩ := p_56
        replace HE : FT = g14c_X12_round (xso SM ad ws_54) r_57.toInt a1.toInt a2.toInt a3.toInt := HE.trans (by rw [e_58, e_59]; rfl)
        refine lv_istore (lv' := [(4, .int r_57), (0, .ref (ad 0)), (1, .int a1), (2, .int a2), (3, .int a3)]) C0.1 C0.2.1 dX12_round_58 hl (by decide) rfl (fun ls hl => ?_)
        refine lv_iload C0.1 C0.2.1 dX12_round_60 (lv_at hl 0 rfl) ?_
        replace HE : FT = g15b_X12_round (xso SM ad ws_54) r_57.toInt a1.toInt a2.toInt a3.toInt := HE.trans rfl
        refine y_if_eq (tgt := 68) C0 dX12_round_62 (by decide) (fun c_63 => ?_) (fun c_63 => ?_)
        · -- 62
          replace HE : FT = g16_X12_round (xso SM ad ws_54) a1.toInt a2.toInt a3.toInt := HE.trans (if_pos c_63)
          refine lv_aload_n C0.1 C0.2.1 dX12_round_68 rfl (lv_at hl 1 rfl) ?_
          refine ng_X12_rowMany C0 h kSM_0 q_1480 dX12_round_69 ?_
          refine lv_iload_n C0.1 C0.2.1 dX12_round_72 rfl (lv_at hl 3 rfl) ?_
          refine y_iald C0 h kSM_24 rfl (by decide) (o38_224 e_21 e_23 e_25 e_32 e_33 e_34 c_35 e_60 e_61 e_62 c_63) (o38_225 e_21 e_23 e_25 e_32 e_33 e_34 c_35 e_60 e_61 e_62 c_63) dX12_round_73 (fun v_64 e_65 e_66 e_67 => ?_)
          refine y_i2l C0 dX12_round_74 (fun w_68 e_69 => ?_)
          refine y_lc (v := 1) C0 (by decide) dX12_round_75 (fun w_70 e_71 => ?_)
          refine y_lc2 (n := 4) C0 q_1963 (by decide) dX12_round_76 (fun w_72 e_73 => ?_)
          refine y_ci h (y_rS (As := [.long w_68, .long w_70, .long w_72]) (rest := []) C0 hZ h (c_X12_within l G Z ad _ h.2 w_68 w_70 w_72) k_X12_within q_1580 q_1579 hl.1 rfl rfl (Nat.le_of_ble_eq_true rfl) dX12_round_79 ⟨Nat.le_of_ble_eq_true rfl, Nat.le_of_ble_eq_true rfl⟩ ⟨Nat.le_of_ble_eq_true rfl, Nat.le_of_ble_eq_true rfl⟩) (fun r_77 H locs ws_74 h u_75 p_76 => ?_)
          obtain ⟨e_78, e_79, e_80, e_81, e_82⟩ := p_76
          replace HE : FT = g18c_X12_round (xso SM ad ws_74) r_77.toInt a1.toInt a2.toInt a3.toInt := HE.trans (by rw [e_78, e_79, e_73, e_71, e_69, (xg1 e_65 : v_64.toInt = (xso SM ad ws_54) 1 24 a2.toInt.toNat)]; rfl)
          replace HE : FT = g19b_X12_round (xso SM ad ws_74) r_77.toInt a1.toInt a2.toInt a3.toInt := HE.trans rfl
          refine y_if_ne (tgt := 88) C0 dX12_round_82 (by decide) (fun c_83 => ?_) (fun c_83 => ?_)
          · -- 82
            replace HE : FT = g20_X12_round (xso SM ad ws_74) a1.toInt a2.toInt a3.toInt := HE.trans (if_neg c_83)
            refine y_c1 (n := 0) C0 (by decide) dX12_round_88 (fun v_84 e_85 => ?_)
            refine lv_istore (lv' := [(5, .int v_84), (4, .int r_57), (0, .ref (ad 0)), (1, .int a1), (2, .int a2), (3, .int a3)]) C0.1 C0.2.1 dX12_round_89 hl (by decide) rfl (fun ls hl => ?_)
            have lp_89 : ∀ (n_91 : Nat) (x5_86 : Int32) (H : Heap) (locs : List Loc) (ls : Array Slot) (ws_87 : va_W), 4 - x5_86.toInt < (n_91 : Int) → 0 ≤ x5_86.toInt → x5_86.toInt ≤ 4 → (∀ j : Nat, (j : Int) < x5_86.toInt → 0 ≤ (aL ws_87 25 (40 * a2.toInt.toNat + j)).toInt ∧ (aL ws_87 25 (40 * a2.toInt.toNat + j)).toInt ≤ 24) → (FT = L22_X12_round n_91 (xso SM ad ws_87) a1.toInt a2.toInt a3.toInt x5_86.toInt) → Wt G SM ad A s H locs ws_87 → Fr SM [] ws_74 ws_87 → lv_has ls 6 [(5, .int x5_86), (4, .int r_57), (0, .ref (ad 0)), (1, .int a1), (2, .int a2), (3, .int a3)] → W p l e (rmd 13 0 0) s m args below meth c H locs 0 0 Q (F0 m 91 ls []) := by
              intro n_91
              induction n_91 with
              | zero => intro x5_86 H locs ls ws_87 hn_92 b_93 b_94 hNu HE h hF_88 hl; exact ((o38_7 b_93 b_94 hn_92)).elim
              | succ n_91 ih_90 =>
                intro x5_86 H locs ls ws_87 hn_92 b_93 b_94 hNu HE h hF_88 hl
                obtain ⟨R91, hR91⟩ : ∃ z, z = L22_X12_round n_91 := ⟨_, rfl⟩
                replace HE : FT = g23l_X12_round R91 (xso SM ad ws_87) a1.toInt a2.toInt a3.toInt x5_86.toInt := HE.trans (by rw [hR91]; rfl)
                refine lv_iload C0.1 C0.2.1 dX12_round_91 (lv_at hl 0 rfl) ?_
                refine lv_aload_n C0.1 C0.2.1 dX12_round_93 rfl (lv_at hl 2 rfl) ?_
                refine ng_X12_rowMany C0 h kSM_0 q_1480 dX12_round_94 ?_
                refine lv_iload_n C0.1 C0.2.1 dX12_round_97 rfl (lv_at hl 4 rfl) ?_
                refine y_iald C0 h kSM_24 rfl (by decide) (o38_224 e_21 e_23 e_25 e_32 e_33 e_34 c_35 e_60 e_61 e_62 c_63) (o38_225 e_21 e_23 e_25 e_32 e_33 e_34 c_35 e_60 e_61 e_62 c_63) dX12_round_98 (fun v_95 e_96 e_97 e_98 => ?_)
                have qh_99 : v_95.toInt = v_64.toInt := congrArg Int32.toInt (e_96.symm.trans (Eq.trans rfl (Eq.trans (Eq.trans (Fr.aI hF_88 kSM_24 (by decide)) (Fr.aI u_75 kSM_24 (by decide))) e_65)))
                replace HE : FT = g24b_X12_round R91 (xso SM ad ws_87) v_95.toInt x5_86.toInt a1.toInt a2.toInt a3.toInt := HE.trans (by rw [(xg1 e_96 : v_95.toInt = (xso SM ad ws_87) 1 24 a2.toInt.toNat)]; rfl)
                refine y_icmp_ge (tgt := 130) C0 dX12_round_99 (by decide) (fun c_100 => ?_) (fun c_100 => ?_)
                · -- 99
                  replace HE : FT = g25_X12_round (xso SM ad ws_87) a1.toInt a2.toInt a3.toInt := HE.trans (if_neg (Int.not_lt.mpr c_100))
                  have hN_101 : NumOk ws_87 a2 := num_e hNu (Eq.trans rfl (Eq.trans (Eq.trans (Fr.aI hF_88 kSM_24 (by decide)) (Fr.aI u_75 kSM_24 (by decide))) e_65)) (o38_226 e_66 e_67 e_69 e_71 e_73 e_80 e_81 e_82 c_83 b_93 b_94 hn_92 e_97 e_98 qh_99 c_100)
                  refine lv_aload_n C0.1 C0.2.1 dX12_round_130 rfl (lv_at hl 2 rfl) ?_
                  refine y_c1 (n := (-1)) C0 (by decide) dX12_round_131 (fun v_102 e_103 => ?_)
                  refine np_X12_bestLefts C0 h kSM_0 q_1473 (le_min v_102) (le_max v_102) dX12_round_132 (fun H locs ws_104 h u_105 Xu_105 => ?_)
                  replace HE : FT = g27w_X12_round (xso SM ad ws_104) a1.toInt a2.toInt a3.toInt := HE.trans (by rw [Xu_105, e_103]; rfl)
                  refine lv_aload_n C0.1 C0.2.1 dX12_round_135 rfl (lv_at hl 2 rfl) ?_
                  refine lv_iload_n C0.1 C0.2.1 dX12_round_136 rfl (lv_at hl 4 rfl) ?_
                  refine y_c1 (n := 0) C0 (by decide) dX12_round_137 (fun v_106 e_107 => ?_)
                  refine y_c1 (n := 0) C0 (by decide) dX12_round_138 (fun v_108 e_109 => ?_)
                  refine y_c1 (n := 4) C0 (by decide) dX12_round_139 (fun v_110 e_111 => ?_)
                  refine lv_aload_n C0.1 C0.2.1 dX12_round_140 rfl (lv_at hl 2 rfl) ?_
                  refine ng_X12_all C0 h kSM_0 q_1439 dX12_round_141 ?_
                  refine y_c2 (n := 36) C0 (by decide) dX12_round_144 (fun v_112 e_113 => ?_)
                  refine lv_iload_n C0.1 C0.2.1 dX12_round_146 rfl (lv_at hl 3 rfl) ?_
                  refine y_add C0 (o38_227 e_6 e_13 e_14 e_15 c_17 e_113 (le_min v_112) (le_max v_112) (le_min a1) (le_max a1) (le_min r_10) (le_max r_10)) (o38_228 e_6 e_13 e_14 e_15 c_17 e_113 (le_min v_112) (le_max v_112) (le_min a1) (le_max a1) (le_min r_10) (le_max r_10)) dX12_round_147 (fun v_114 e_115 => ?_)
                  refine y_iald C0 h kSM_1 rfl (by decide) (o38_229 e_6 e_13 e_14 e_15 c_17 e_113 e_115) (o38_230 e_6 e_13 e_14 e_15 c_17 e_113 e_115) dX12_round_148 (fun v_116 e_117 e_118 e_119 => ?_)
                  have f_120 := o38_231 v_114.toInt.toNat (o38_232 e_6 e_13 e_14 e_15 c_17 e_113 e_115) (o38_233 e_6 e_13 e_14 e_15 c_17 e_113 e_115)
                  refine y_cmul (n := 4) C0 (o38_234 e_111) (o38_235 (Int.le_trans f_120.1 e_118) (Int.le_trans e_119 f_120.2) (le_min v_116) (le_max v_116)) (o38_236 (Int.le_trans f_120.1 e_118) (Int.le_trans e_119 f_120.2) (le_min v_116) (le_max v_116)) dX12_round_149 (fun v_121 e_122 => ?_)
                  refine lv_aload_n C0.1 C0.2.1 dX12_round_150 rfl (lv_at hl 2 rfl) ?_
                  refine ng_X12_all C0 h kSM_0 q_1439 dX12_round_151 ?_
                  refine y_c2 (n := 41) C0 (by decide) dX12_round_154 (fun v_123 e_124 => ?_)
                  refine lv_iload_n C0.1 C0.2.1 dX12_round_156 rfl (lv_at hl 3 rfl) ?_
                  refine y_add C0 (o38_237 e_6 e_13 e_14 e_15 c_17 e_113 e_115 e_124 (le_min v_123) (le_max v_123) (le_min a1) (le_max a1) (le_min r_10) (le_max r_10) (le_min v_112) (le_max v_112) (le_min v_114) (le_max v_114)) (o38_238 e_6 e_13 e_14 e_15 c_17 e_113 e_115 e_124 (le_min v_123) (le_max v_123) (le_min a1) (le_max a1) (le_min r_10) (le_max r_10) (le_min v_112) (le_max v_112) (le_min v_114) (le_max v_114)) dX12_round_157 (fun v_125 e_126 => ?_)
                  refine y_iald C0 h kSM_1 rfl (by decide) (o38_239 e_6 e_13 e_14 e_15 c_17 e_113 e_115 e_124 e_126) (o38_240 e_6 e_13 e_14 e_15 c_17 e_113 e_115 e_124 e_126) dX12_round_158 (fun v_127 e_128 e_129 e_130 => ?_)
                  have f_131 := o38_241 v_125.toInt.toNat (o38_242 e_6 e_13 e_14 e_15 c_17 e_113 e_115 e_124 e_126) (o38_243 e_6 e_13 e_14 e_15 c_17 e_113 e_115 e_124 e_126)
                  refine y_add C0 (o38_244 (Int.le_trans f_120.1 e_118) (Int.le_trans e_119 f_120.2) e_122 (Int.le_trans f_131.1 e_129) (Int.le_trans e_130 f_131.2) (le_min v_121) (le_max v_121) (le_min v_127) (le_max v_127) (le_min v_116) (le_max v_116)) (o38_245 (Int.le_trans f_120.1 e_118) (Int.le_trans e_119 f_120.2) e_122 (Int.le_trans f_131.1 e_129) (Int.le_trans e_130 f_131.2) (le_min v_121) (le_max v_121) (le_min v_127) (le_max v_127) (le_min v_116) (le_max v_116)) dX12_round_159 (fun v_132 e_133 => ?_)
                  refine y_c1 (n := 0) C0 (by decide) dX12_round_160 (fun v_134 e_135 => ?_)
                  refine y_c1 (n := 0) C0 (by decide) dX12_round_161 (fun v_136 e_137 => ?_)
                  refine y_cv h (y_rV (As := [.int a2, .int v_106, .int v_108, .int v_132, .int v_134, .int v_136]) (rest := []) C0 hZ h (c_X12_goesRound_0 l G Z ad _ h.2 a2 v_106 v_108 v_132 v_134 v_136 (o38_224 e_21 e_23 e_25 e_32 e_33 e_34 c_35 e_60 e_61 e_62 c_63) (o38_246 e_21 e_23 e_25 e_32 e_33 e_34 c_35 e_60 e_61 e_62 c_63) (o38_19 e_107) (o38_247 e_107) (o38_248 (Int.le_trans f_120.1 e_118) (Int.le_trans e_119 f_120.2) e_122 (Int.le_trans f_131.1 e_129) (Int.le_trans e_130 f_131.2) e_133) (o38_249 (Int.le_trans f_120.1 e_118) (Int.le_trans e_119 f_120.2) e_122 (Int.le_trans f_131.1 e_129) (Int.le_trans e_130 f_131.2) e_133) (fbd_lo (Eq.trans rfl (Eq.trans (Eq.trans (aI_of (u_105.1 24 (kd_ne kSM_24 kSM_0 (by decide)))) (Eq.trans (Fr.aI hF_88 kSM_24 (by decide)) (Fr.aI u_75 kSM_24 (by decide)))) e_65)) (o38_250 e_66 e_67 e_69 e_71 e_73 e_80 e_81 e_82 c_83 b_93 b_94 hn_92 e_97 e_98 qh_99 c_100)) (fbd_hi (Eq.trans rfl (Eq.trans (Eq.trans (aI_of (u_105.1 24 (kd_ne kSM_24 kSM_0 (by decide)))) (Eq.trans (Fr.aI hF_88 kSM_24 (by decide)) (Fr.aI u_75 kSM_24 (by decide)))) e_65)) (o38_251 e_66 e_67 e_69 e_71 e_73 e_80 e_81 e_82 c_83 b_93 b_94 hn_92 e_97 e_98 qh_99 c_100)) (NumOk.fr (M := [0]) hN_101 (Fr.up u_105.1 kSM_0 (by decide)) (by decide) (by decide)) (J.pa hT hJ (Pa.tr (Pa.tr (Pa.tr (Pa.tr (Pa.tr (Pa.tr (Pa.tr (Pa.ud u_4.1 (by decide)) (Pa.fr u_8 (by decide))) (Pa.fr u_27 (by decide))) (Pa.fr u_45 (by decide))) (Pa.fr u_55 (by decide))) (Pa.fr u_75 (by decide))) (Pa.fr hF_88 (by decide))) (Pa.ud u_105.1 (by decide)))) (Laid.pa (Or.resolve_left e_16 (o38_252 e_6 e_13 e_14 e_15 c_17 e_113 e_115 e_124 e_126)) (Pa.tr (Pa.tr (Pa.tr (Pa.tr (Pa.tr (Pa.tr (Pa.fr u_8 (by decide)) (Pa.fr u_27 (by decide))) (Pa.fr u_45 (by decide))) (Pa.fr u_55 (by decide))) (Pa.fr u_75 (by decide))) (Pa.fr hF_88 (by decide))) (Pa.ud u_105.1 (by decide))))) k_X12_goesRound q_1966 q_113 q_1964 kSM_0 rfl rfl rfl hl.1 rfl rfl (Nat.le_of_ble_eq_true rfl) dX12_round_162 ⟨Nat.le_of_ble_eq_true rfl, Nat.le_of_ble_eq_true rfl⟩ ⟨Nat.le_of_ble_eq_true rfl, Nat.le_of_ble_eq_true rfl⟩) (fun H locs ws_138 h u_139 p_140 => ?_)
                  have e_141 := p_140
                  replace HE : FT = g28c_X12_round (xso SM ad ws_138) a2.toInt a3.toInt := HE.trans (by rw [e_141, e_137, e_135, e_133, (xg1 e_128 : v_127.toInt = (xso SM ad ws_104) 1 1 v_125.toInt.toNat), e_126, e_124, e_122, (xg1 e_117 : v_116.toInt = (xso SM ad ws_104) 1 1 v_114.toInt.toNat), e_115, e_113, e_109, e_107]; rfl)
                  refine lv_aload_n C0.1 C0.2.1 dX12_round_165 rfl (lv_at hl 2 rfl) ?_
                  refine ng_X12_bestLefts C0 h kSM_0 q_1473 dX12_round_166 (fun v_142 e_143 e_144 e_145 => ?_)
                  refine y_c1 (n := (-1)) C0 (by decide) dX12_round_169 (fun v_146 e_147 => ?_)
                  replace HE : FT = g29b_X12_round (xso SM ad ws_138) v_142.toInt a2.toInt a3.toInt := HE.trans (by rw [(xg0 e_143 : v_142.toInt = (xso SM ad ws_138) 0 0 35)]; rfl)
                  refine y_icmp_ne (tgt := 175) C0 dX12_round_170 (by decide) (fun c_148 => ?_) (fun c_148 => ?_)
                  · -- 170
                    replace HE : FT = g30_X12_round (xso SM ad ws_138) a2.toInt a3.toInt := HE.trans (if_neg (o38_6 e_147 c_148))
                    refine lv_iload_n C0.1 C0.2.1 dX12_round_175 rfl (lv_at hl 5 rfl) ?_
                    replace HE : FT = g32b_X12_round (xso SM ad ws_138) a3.toInt a2.toInt := HE.trans rfl
                    refine y_if_ne (tgt := 186) C0 dX12_round_176 (by decide) (fun c_149 => ?_) (fun c_149 => ?_)
                    · -- 176
                      replace HE : FT = g33_X12_round (xso SM ad ws_138) a2.toInt := HE.trans (if_neg c_149)
                      refine lv_iload_n C0.1 C0.2.1 dX12_round_186 rfl (lv_at hl 5 rfl) ?_
                      refine y_c1 (n := 1) C0 (by decide) dX12_round_187 (fun v_150 e_151 => ?_)
                      refine y_icmp_ne (tgt := 198) C0 dX12_round_188 (by decide) (fun c_152 => ((o38_253 e_39 e_41 e_43 e_50 e_51 e_52 c_53 c_149 e_151 c_152)).elim) (fun c_152 => ?_)
                      refine lv_aload_n C0.1 C0.2.1 dX12_round_191 rfl (lv_at hl 2 rfl) ?_
                      refine ng_X12_bestStreets C0 h kSM_0 q_1474 dX12_round_192 (fun v_153 e_154 e_155 e_156 => ?_)
                      refine lv_goto (tgt := 224) C0.1 C0.2.1 dX12_round_195 (by decide) ?_
                      replace HE : FT = ((xso SM ad ws_138), v_153.toInt) := HE.trans (by rw [(xg0 e_154 : v_153.toInt = (xso SM ad ws_138) 0 0 36)]; rfl)
                      rw [hQ]
                      exact y_iret C0 h (Fr.tr (Fr.tr (Fr.tr (Fr.tr (Fr.tr (Fr.tr (Fr.tr (Fr.tr (Fr.up u_4.1 kSM_0 (by decide)) (Fr.mono u_8 (by decide))) (Fr.mono u_27 (by decide))) (Fr.mono u_45 (by decide))) (Fr.mono u_55 (by decide))) (Fr.mono u_75 (by decide))) (Fr.mono hF_88 (by decide))) (Fr.up u_105.1 kSM_0 (by decide))) u_139) ⟨(congrArg Prod.fst (HE.symm.trans hFT)), (congrArg Prod.snd (HE.symm.trans hFT))⟩ dX12_round_224
                    · -- 176
                      replace HE : FT = g34_X12_round (xso SM ad ws_138) := HE.trans (if_pos c_149)
                      refine lv_aload_n C0.1 C0.2.1 dX12_round_179 rfl (lv_at hl 2 rfl) ?_
                      refine ng_X12_bestLefts C0 h kSM_0 q_1473 dX12_round_180 (fun v_157 e_158 e_159 e_160 => ?_)
                      have qh_161 : v_157.toInt = v_142.toInt := congrArg Int32.toInt (e_158.symm.trans (Eq.trans rfl e_143))
                      refine lv_goto (tgt := 224) C0.1 C0.2.1 dX12_round_183 (by decide) ?_
                      replace HE : FT = ((xso SM ad ws_138), v_157.toInt) := HE.trans (by rw [(xg0 e_158 : v_157.toInt = (xso SM ad ws_138) 0 0 35)]; rfl)
                      rw [hQ]
                      exact y_iret C0 h (Fr.tr (Fr.tr (Fr.tr (Fr.tr (Fr.tr (Fr.tr (Fr.tr (Fr.tr (Fr.up u_4.1 kSM_0 (by decide)) (Fr.mono u_8 (by decide))) (Fr.mono u_27 (by decide))) (Fr.mono u_45 (by decide))) (Fr.mono u_55 (by decide))) (Fr.mono u_75 (by decide))) (Fr.mono hF_88 (by decide))) (Fr.up u_105.1 kSM_0 (by decide))) u_139) ⟨(congrArg Prod.fst (HE.symm.trans hFT)), (congrArg Prod.snd (HE.symm.trans hFT))⟩ dX12_round_224
                  · -- 170
                    replace HE : FT = g31_X12_round (xso SM ad ws_138) := HE.trans (if_pos (o38_5 e_147 c_148))
                    refine y_c1 (n := (-1)) C0 (by decide) dX12_round_173 (fun v_162 e_163 => ?_)
                    replace HE : FT = ((xso SM ad ws_138), v_162.toInt) := HE.trans (by rw [e_163]; rfl)
                    rw [hQ]
                    exact y_iret C0 h (Fr.tr (Fr.tr (Fr.tr (Fr.tr (Fr.tr (Fr.tr (Fr.tr (Fr.tr (Fr.up u_4.1 kSM_0 (by decide)) (Fr.mono u_8 (by decide))) (Fr.mono u_27 (by decide))) (Fr.mono u_45 (by decide))) (Fr.mono u_55 (by decide))) (Fr.mono u_75 (by decide))) (Fr.mono hF_88 (by decide))) (Fr.up u_105.1 kSM_0 (by decide))) u_139) ⟨(congrArg Prod.fst (HE.symm.trans hFT)), (congrArg Prod.snd (HE.symm.trans hFT))⟩ dX12_round_174
                · -- 99
                  replace HE : FT = g26_X12_round R91 (xso SM ad ws_87) a1.toInt a2.toInt a3.toInt x5_86.toInt := HE.trans (if_pos c_100)
                  refine lv_aload_n C0.1 C0.2.1 dX12_round_102 rfl (lv_at hl 2 rfl) ?_
                  refine lv_aload_n C0.1 C0.2.1 dX12_round_103 rfl (lv_at hl 2 rfl) ?_
                  refine ng_X12_numbers C0 h kSM_0 q_1481 dX12_round_104 ?_
                  refine y_c2 (n := 40) C0 (by decide) dX12_round_107 (fun v_164 e_165 => ?_)
                  refine lv_iload_n C0.1 C0.2.1 dX12_round_109 rfl (lv_at hl 4 rfl) ?_
                  refine y_cmul (n := 40) C0 (o38_27 e_165) (o38_254 e_21 e_23 e_25 e_32 e_33 e_34 c_35 e_60 e_61 e_62 c_63 (le_min a2) (le_max a2) (le_min r_29) (le_max r_29) (le_min r_57) (le_max r_57)) (o38_255 e_21 e_23 e_25 e_32 e_33 e_34 c_35 e_60 e_61 e_62 c_63 (le_min a2) (le_max a2) (le_min r_29) (le_max r_29) (le_min r_57) (le_max r_57)) dX12_round_110 (fun v_166 e_167 => ?_)
                  refine lv_iload C0.1 C0.2.1 dX12_round_111 (lv_at hl 0 rfl) ?_
                  refine y_add C0 (o38_256 e_21 e_23 e_25 e_32 e_33 e_34 c_35 e_60 e_61 e_62 c_63 e_66 e_67 e_69 e_71 e_73 e_80 e_81 e_82 c_83 b_93 b_94 hn_92 e_97 e_98 qh_99 c_100 e_167 (le_min v_166) (le_max v_166) (le_min x5_86) (le_max x5_86) (le_min a2) (le_max a2) (le_min r_29) (le_max r_29) (le_min r_57) (le_max r_57) (le_min v_64) (le_max v_64) (le_min r_77) (le_max r_77) (le_min v_95) (le_max v_95)) (o38_257 e_21 e_23 e_25 e_32 e_33 e_34 c_35 e_60 e_61 e_62 c_63 e_66 e_67 e_69 e_71 e_73 e_80 e_81 e_82 c_83 b_93 b_94 hn_92 e_97 e_98 qh_99 c_100 e_167 (le_min v_166) (le_max v_166) (le_min x5_86) (le_max x5_86) (le_min a2) (le_max a2) (le_min r_29) (le_max r_29) (le_min r_57) (le_max r_57) (le_min v_64) (le_max v_64) (le_min r_77) (le_max r_77) (le_min v_95) (le_max v_95)) dX12_round_113 (fun v_168 e_169 => ?_)
                  refine y_lald C0 h kSM_25 rfl (by decide) (o38_258 e_21 e_23 e_25 e_32 e_33 e_34 c_35 e_60 e_61 e_62 c_63 e_66 e_67 e_69 e_71 e_73 e_80 e_81 e_82 c_83 b_93 b_94 hn_92 e_97 e_98 qh_99 c_100 e_167 e_169) (o38_259 e_21 e_23 e_25 e_32 e_33 e_34 c_35 e_60 e_61 e_62 c_63 e_66 e_67 e_69 e_71 e_73 e_80 e_81 e_82 c_83 b_93 b_94 hn_92 e_97 e_98 qh_99 c_100 e_167 e_169) dX12_round_114 (fun w_170 e_171 => ?_)
                  refine y_ci h (y_rV (As := [.long w_170]) (rest := []) C0 hZ h (c_X12_isCrossing l G Z ad _ h.2 w_170) k_X12_isCrossing q_1701 q_78 q_1699 kSM_0 rfl rfl rfl hl.1 rfl rfl (Nat.le_of_ble_eq_true rfl) dX12_round_115 ⟨Nat.le_of_ble_eq_true rfl, Nat.le_of_ble_eq_true rfl⟩ ⟨Nat.le_of_ble_eq_true rfl, Nat.le_of_ble_eq_true rfl⟩) (fun r_175 H locs ws_172 h u_173 p_174 => ?_)
                  obtain ⟨e_176, e_177, e_178, e_179, e_180, e_181⟩ := p_174
                  replace HE : FT = g35c_X12_round R91 (xso SM ad ws_172) r_175.toInt a1.toInt a2.toInt a3.toInt x5_86.toInt := HE.trans (by rw [e_176, e_177, (xg2 e_171 : w_170.toInt = (xso SM ad ws_87) 2 25 v_168.toInt.toNat), e_169, e_167]; rfl)
                  replace HE : FT = g36b_X12_round R91 (xso SM ad ws_172) r_175.toInt a1.toInt a2.toInt a3.toInt x5_86.toInt := HE.trans rfl
                  refine y_if_ne (tgt := 124) C0 dX12_round_118 (by decide) (fun c_182 => ?_) (fun c_182 => ?_)
                  · -- 118
                    replace HE : FT = g37_X12_round R91 (xso SM ad ws_172) a1.toInt a2.toInt a3.toInt x5_86.toInt := HE.trans (if_neg c_182)
                    refine y_inc (kp := 0) (n := 1) (fun v_183 => [(5, .int v_183), (4, .int r_57), (0, .ref (ad 0)), (1, .int a1), (2, .int a2), (3, .int a3)]) C0 hl rfl (by decide) (by decide) (fun _ => rfl) (o38_260 e_21 e_23 e_25 e_32 e_33 e_34 c_35 e_60 e_61 e_62 c_63 e_66 e_67 e_69 e_71 e_73 e_80 e_81 e_82 c_83 b_93 b_94 hn_92 e_97 e_98 qh_99 c_100 e_167 e_169 (le_min x5_86) (le_max x5_86) (le_min a2) (le_max a2) (le_min r_29) (le_max r_29) (le_min r_57) (le_max r_57) (le_min v_64) (le_max v_64) (le_min r_77) (le_max r_77) (le_min v_95) (le_max v_95) (le_min v_166) (le_max v_166) (le_min v_168) (le_max v_168)) (o38_261 e_21 e_23 e_25 e_32 e_33 e_34 c_35 e_60 e_61 e_62 c_63 e_66 e_67 e_69 e_71 e_73 e_80 e_81 e_82 c_83 b_93 b_94 hn_92 e_97 e_98 qh_99 c_100 e_167 e_169 (le_min x5_86) (le_max x5_86) (le_min a2) (le_max a2) (le_min r_29) (le_max r_29) (le_min r_57) (le_max r_57) (le_min v_64) (le_max v_64) (le_min r_77) (le_max r_77) (le_min v_95) (le_max v_95) (le_min v_166) (le_max v_166) (le_min v_168) (le_max v_168)) dX12_round_124 (fun v_183 ls e_184 hl => ?_)
                    refine lv_goto (tgt := 91) C0.1 C0.2.1 dX12_round_127 (by decide) ?_
                    exact ih_90 v_183 _ _ _ _ (o38_262 e_21 e_23 e_25 e_32 e_33 e_34 c_35 e_60 e_61 e_62 c_63 e_66 e_67 e_69 e_71 e_73 e_80 e_81 e_82 c_83 b_93 b_94 hn_92 e_97 e_98 qh_99 c_100 e_167 e_169 e_184) (o38_263 e_21 e_23 e_25 e_32 e_33 e_34 c_35 e_60 e_61 e_62 c_63 e_66 e_67 e_69 e_71 e_73 e_80 e_81 e_82 c_83 b_93 b_94 hn_92 e_97 e_98 qh_99 c_100 e_167 e_169 e_184) (o38_264 e_21 e_23 e_25 e_32 e_33 e_34 c_35 e_60 e_61 e_62 c_63 e_66 e_67 e_69 e_71 e_73 e_80 e_81 e_82 c_83 b_93 b_94 hn_92 e_97 e_98 qh_99 c_100 e_167 e_169 e_184) ((num_s (M := []) hNu u_173 (by decide) (o38_265 e_21 e_23 e_25 e_32 e_33 e_34 c_35 e_60 e_61 e_62 c_63 e_66 e_67 e_69 e_71 e_73 e_80 e_81 e_82 c_83 b_93 b_94 hn_92 e_97 e_98 qh_99 c_100 e_167 e_169 e_184) (Eq.trans (Fr.aL u_173 kSM_25 (by decide)) e_171) e_184 (o38_266 e_21 e_23 e_25 e_32 e_33 e_34 c_35 e_60 e_61 e_62 c_63 e_66 e_67 e_69 e_71 e_73 e_80 e_81 e_82 c_83 b_93 b_94 hn_92 e_97 e_98 qh_99 c_100 e_167 e_169 e_178 e_179 e_180 c_182 e_184))) (((show FT = R91 (xso SM ad ws_172) a1.toInt a2.toInt a3.toInt v_183.toInt from HE.trans (by rw [e_184]; rfl)).trans (by rw [hR91]))) h (Fr.tr hF_88 u_173) (lv_sub hl [0, 1, 2, 3, 4, 5] rfl)
                  · -- 118
                    replace HE : FT = g38_X12_round (xso SM ad ws_172) := HE.trans (if_pos c_182)
                    refine y_c2 (n := (-3)) C0 (by decide) dX12_round_121 (fun v_185 e_186 => ?_)
                    replace HE : FT = ((xso SM ad ws_172), v_185.toInt) := HE.trans (by rw [e_186]; rfl)
                    rw [hQ]
                    exact y_iret C0 h (Fr.tr (Fr.tr (Fr.tr (Fr.tr (Fr.tr (Fr.tr (Fr.tr (Fr.up u_4.1 kSM_0 (by decide)) (Fr.mono u_8 (by decide))) (Fr.mono u_27 (by decide))) (Fr.mono u_45 (by decide))) (Fr.mono u_55 (by decide))) (Fr.mono u_75 (by decide))) (Fr.mono hF_88 (by decide))) (Fr.mono u_173 (by decide))) ⟨(congrArg Prod.fst (HE.symm.trans hFT)), (congrArg Prod.snd (HE.symm.trans hFT))⟩ dX12_round_123
            exact lp_89 ((4 - v_84.toInt + 1).toNat) v_84 _ _ _ _ (o38_18 e_85) (o38_19 e_85) (o38_20 e_85) ((num_0 e_85)) ((show FT = L22_X12_round (Int.toNat (4 - v_84.toInt + 1)) (xso SM ad ws_74) a1.toInt a2.toInt a3.toInt v_84.toInt from HE.trans (by rw [e_85]; rfl))) h Fr.rf (lv_sub hl [0, 1, 2, 3, 4, 5] rfl)
          · -- 82
            replace HE : FT = g21_X12_round (xso SM ad ws_74) := HE.trans (if_pos c_83)
            refine y_c2 (n := (-4)) C0 (by decide) dX12_round_85 (fun v_187 e_188 => ?_)
            replace HE : FT = ((xso SM ad ws_74), v_187.toInt) := HE.trans (by rw [e_188]; rfl)
            rw [hQ]
            exact y_iret C0 h (Fr.tr (Fr.tr (Fr.tr (Fr.tr (Fr.tr (Fr.up u_4.1 kSM_0 (by decide)) (Fr.mono u_8 (by decide))) (Fr.mono u_27 (by decide))) (Fr.mono u_45 (by decide))) (Fr.mono u_55 (by decide))) (Fr.mono u_75 (by decide))) ⟨(congrArg Prod.fst (HE.symm.trans hFT)), (congrArg Prod.snd (HE.symm.trans hFT))⟩ dX12_round_87
        · -- 62
          replace HE : FT = g17_X12_round (xso SM ad ws_54) r_57.toInt := HE.trans (if_neg c_63)
          refine lv_iload C0.1 C0.2.1 dX12_round_65 (lv_at hl 0 rfl) ?_
          replace HE : FT = ((xso SM ad ws_54), r_57.toInt) := HE.trans rfl
          rw [hQ]
          exact y_iret C0 h (Fr.tr (Fr.tr (Fr.tr (Fr.tr (Fr.up u_4.1 kSM_0 (by decide)) (Fr.mono u_8 (by decide))) (Fr.mono u_27 (by decide))) (Fr.mono u_45 (by decide))) (Fr.mono u_55 (by decide))) ⟨(congrArg Prod.fst (HE.symm.trans hFT)), (congrArg Prod.snd (HE.symm.trans hFT))⟩ dX12_round_67
      · -- 33
        replace HE : FT = g13_X12_round (xso SM ad ws_44) a1.toInt a2.toInt a3.toInt := HE.trans (if_pos c_53)
        refine lv_iload_n C0.1 C0.2.1 dX12_round_36 rfl (lv_at hl 3 rfl) ?_
        refine y_i2l C0 dX12_round_37 (fun w_189 e_190 => ?_)
        refine y_lc2 (n := 10) C0 q_1847 (by decide) dX12_round_38 (fun w_191 e_192 => ?_)
        refine y_lc2 (n := 13) C0 q_1962 (by decide) dX12_round_41 (fun w_193 e_194 => ?_)
        refine y_ci h (y_rS (As := [.long w_189, .long w_191, .long w_193]) (rest := []) C0 hZ h (c_X12_within l G Z ad _ h.2 w_189 w_191 w_193) k_X12_within q_1580 q_1579 hl.1 rfl rfl (Nat.le_of_ble_eq_true rfl) dX12_round_44 ⟨Nat.le_of_ble_eq_true rfl, Nat.le_of_ble_eq_true rfl⟩ ⟨Nat.le_of_ble_eq_true rfl, Nat.le_of_ble_eq_true rfl⟩) (fun r_198 H locs ws_195 h u_196 p_197 => ?_)
        obtain ⟨e_199, e_200, e_201, e_202, e_203⟩ := p_197
        replace HE : FT = g39c_X12_round (xso SM ad ws_195) r_198.toInt a1.toInt a2.toInt a3.toInt := HE.trans (by rw [e_199, e_200, e_194, e_192, e_190]; rfl)
        replace HE : FT = g40b_X12_round (xso SM ad ws_195) r_198.toInt a1.toInt a2.toInt a3.toInt := HE.trans rfl
        refine y_if_ne (tgt := 53) C0 dX12_round_47 (by decide) (fun c_204 => ?_) (fun c_204 => ?_)
        · -- 47
          replace HE : FT = g41_X12_round (xso SM ad ws_195) a1.toInt a2.toInt a3.toInt := HE.trans (if_neg c_204)
          refine lv_aload_n C0.1 C0.2.1 dX12_round_53 rfl (lv_at hl 0 rfl) ?_
          refine lv_iload_n C0.1 C0.2.1 dX12_round_54 rfl (lv_at hl 2 rfl) ?_
          refine y_ci h (y_rV (As := [.int a2]) (rest := []) C0 hZ h (c_X12_noTray l G Z ad _ h.2 a2) k_X12_noTray q_1796 q_91 q_1794 kSM_0 rfl rfl rfl hl.1 rfl rfl (Nat.le_of_ble_eq_true rfl) dX12_round_55 ⟨Nat.le_of_ble_eq_true rfl, Nat.le_of_ble_eq_true rfl⟩ ⟨Nat.le_of_ble_eq_true rfl, Nat.le_of_ble_eq_true rfl⟩) (fun r_208 H locs ws_205 h u_206 p_207 => ?_)
          obtain ⟨e_209, e_210, e_211, e_212, e_213⟩ := p_207
          replace HE : FT = g43c_X12_round (xso SM ad ws_205) r_208.toInt a1.toInt a2.toInt a3.toInt := HE.trans (by rw [e_209, e_210]; rfl)
          refine lv_istore (lv' := [(4, .int r_208), (0, .ref (ad 0)), (1, .int a1), (2, .int a2), (3, .int a3)]) C0.1 C0.2.1 dX12_round_58 hl (by decide) rfl (fun ls hl => ?_)
          refine lv_iload C0.1 C0.2.1 dX12_round_60 (lv_at hl 0 rfl) ?_
          replace HE : FT = g44b_X12_round (xso SM ad ws_205) r_208.toInt a1.toInt a2.toInt a3.toInt := HE.trans rfl
          refine y_if_eq (tgt := 68) C0 dX12_round_62 (by decide) (fun c_214 => ?_) (fun c_214 => ?_)
          · -- 62
            replace HE : FT = g45_X12_round (xso SM ad ws_205) a1.toInt a2.toInt a3.toInt := HE.trans (if_pos c_214)
            refine lv_aload_n C0.1 C0.2.1 dX12_round_68 rfl (lv_at hl 1 rfl) ?_
            refine ng_X12_rowMany C0 h kSM_0 q_1480 dX12_round_69 ?_
            refine lv_iload_n C0.1 C0.2.1 dX12_round_72 rfl (lv_at hl 3 rfl) ?_
            refine y_iald C0 h kSM_24 rfl (by decide) (o38_224 e_21 e_23 e_25 e_32 e_33 e_34 c_35 e_211 e_212 e_213 c_214) (o38_225 e_21 e_23 e_25 e_32 e_33 e_34 c_35 e_211 e_212 e_213 c_214) dX12_round_73 (fun v_215 e_216 e_217 e_218 => ?_)
            refine y_i2l C0 dX12_round_74 (fun w_219 e_220 => ?_)
            refine y_lc (v := 1) C0 (by decide) dX12_round_75 (fun w_221 e_222 => ?_)
            refine y_lc2 (n := 4) C0 q_1963 (by decide) dX12_round_76 (fun w_223 e_224 => ?_)
            refine y_ci h (y_rS (As := [.long w_219, .long w_221, .long w_223]) (rest := []) C0 hZ h (c_X12_within l G Z ad _ h.2 w_219 w_221 w_223) k_X12_within q_1580 q_1579 hl.1 rfl rfl (Nat.le_of_ble_eq_true rfl) dX12_round_79 ⟨Nat.le_of_ble_eq_true rfl, Nat.le_of_ble_eq_true rfl⟩ ⟨Nat.le_of_ble_eq_true rfl, Nat.le_of_ble_eq_true rfl⟩) (fun r_228 H locs ws_225 h u_226 p_227 => ?_)
            obtain ⟨e_229, e_230, e_231, e_232, e_233⟩ := p_227
            replace HE : FT = g47c_X12_round (xso SM ad ws_225) r_228.toInt a1.toInt a2.toInt a3.toInt := HE.trans (by rw [e_229, e_230, e_224, e_222, e_220, (xg1 e_216 : v_215.toInt = (xso SM ad ws_205) 1 24 a2.toInt.toNat)]; rfl)
            replace HE : FT = g48b_X12_round (xso SM ad ws_225) r_228.toInt a1.toInt a2.toInt a3.toInt := HE.trans rfl
            refine y_if_ne (tgt := 88) C0 dX12_round_82 (by decide) (fun c_234 => ?_) (fun c_234 => ?_)
            · -- 82
              replace HE : FT = g49_X12_round (xso SM ad ws_225) a1.toInt a2.toInt a3.toInt := HE.trans (if_neg c_234)
              refine y_c1 (n := 0) C0 (by decide) dX12_round_88 (fun v_235 e_236 => ?_)
              refine lv_istore (lv' := [(5, .int v_235), (4, .int r_208), (0, .ref (ad 0)), (1, .int a1), (2, .int a2), (3, .int a3)]) C0.1 C0.2.1 dX12_round_89 hl (by decide) rfl (fun ls hl => ?_)
              have lp_240 : ∀ (n_242 : Nat) (x5_237 : Int32) (H : Heap) (locs : List Loc) (ls : Array Slot) (ws_238 : va_W), 4 - x5_237.toInt < (n_242 : Int) → 0 ≤ x5_237.toInt → x5_237.toInt ≤ 4 → (∀ j : Nat, (j : Int) < x5_237.toInt → 0 ≤ (aL ws_238 25 (40 * a2.toInt.toNat + j)).toInt ∧ (aL ws_238 25 (40 * a2.toInt.toNat + j)).toInt ≤ 24) → (FT = L51_X12_round n_242 (xso SM ad ws_238) a1.toInt a2.toInt a3.toInt x5_237.toInt) → Wt G SM ad A s H locs ws_238 → Fr SM [] ws_225 ws_238 → lv_has ls 6 [(5, .int x5_237), (4, .int r_208), (0, .ref (ad 0)), (1, .int a1), (2, .int a2), (3, .int a3)] → W p l e (rmd 13 0 0) s m args below meth c H locs 0 0 Q (F0 m 91 ls []) := by
                intro n_242
                induction n_242 with
                | zero => intro x5_237 H locs ls ws_238 hn_243 b_244 b_245 hNu HE h hF_239 hl; exact ((o38_7 b_244 b_245 hn_243)).elim
                | succ n_242 ih_241 =>
                  intro x5_237 H locs ls ws_238 hn_243 b_244 b_245 hNu HE h hF_239 hl
                  obtain ⟨R91, hR91⟩ : ∃ z, z = L51_X12_round n_242 := ⟨_, rfl⟩
                  replace HE : FT = g52l_X12_round R91 (xso SM ad ws_238) a1.toInt a2.toInt a3.toInt x5_237.toInt := HE.trans (by rw [hR91]; rfl)
                  refine lv_iload C0.1 C0.2.1 dX12_round_91 (lv_at hl 0 rfl) ?_
                  refine lv_aload_n C0.1 C0.2.1 dX12_round_93 rfl (lv_at hl 2 rfl) ?_
                  refine ng_X12_rowMany C0 h kSM_0 q_1480 dX12_round_94 ?_
                  refine lv_iload_n C0.1 C0.2.1 dX12_round_97 rfl (lv_at hl 4 rfl) ?_
                  refine y_iald C0 h kSM_24 rfl (by decide) (o38_224 e_21 e_23 e_25 e_32 e_33 e_34 c_35 e_211 e_212 e_213 c_214) (o38_225 e_21 e_23 e_25 e_32 e_33 e_34 c_35 e_211 e_212 e_213 c_214) dX12_round_98 (fun v_246 e_247 e_248 e_249 => ?_)
                  have qh_250 : v_246.toInt = v_215.toInt := congrArg Int32.toInt (e_247.symm.trans (Eq.trans rfl (Eq.trans (Eq.trans (Fr.aI hF_239 kSM_24 (by decide)) (Fr.aI u_226 kSM_24 (by decide))) e_216)))
                  replace HE : FT = g53b_X12_round R91 (xso SM ad ws_238) v_246.toInt x5_237.toInt a1.toInt a2.toInt a3.toInt := HE.trans (by rw [(xg1 e_247 : v_246.toInt = (xso SM ad ws_238) 1 24 a2.toInt.toNat)]; rfl)
                  refine y_icmp_ge (tgt := 130) C0 dX12_round_99 (by decide) (fun c_251 => ?_) (fun c_251 => ?_)
                  · -- 99
                    replace HE : FT = g54_X12_round (xso SM ad ws_238) a1.toInt a2.toInt a3.toInt := HE.trans (if_neg (Int.not_lt.mpr c_251))
                    have hN_252 : NumOk ws_238 a2 := num_e hNu (Eq.trans rfl (Eq.trans (Eq.trans (Fr.aI hF_239 kSM_24 (by decide)) (Fr.aI u_226 kSM_24 (by decide))) e_216)) (o38_226 e_217 e_218 e_220 e_222 e_224 e_231 e_232 e_233 c_234 b_244 b_245 hn_243 e_248 e_249 qh_250 c_251)
                    refine lv_aload_n C0.1 C0.2.1 dX12_round_130 rfl (lv_at hl 2 rfl) ?_
                    refine y_c1 (n := (-1)) C0 (by decide) dX12_round_131 (fun v_253 e_254 => ?_)
                    refine np_X12_bestLefts C0 h kSM_0 q_1473 (le_min v_253) (le_max v_253) dX12_round_132 (fun H locs ws_255 h u_256 Xu_256 => ?_)
                    replace HE : FT = g56w_X12_round (xso SM ad ws_255) a1.toInt a2.toInt a3.toInt := HE.trans (by rw [Xu_256, e_254]; rfl)
                    refine lv_aload_n C0.1 C0.2.1 dX12_round_135 rfl (lv_at hl 2 rfl) ?_
                    refine lv_iload_n C0.1 C0.2.1 dX12_round_136 rfl (lv_at hl 4 rfl) ?_
                    refine y_c1 (n := 0) C0 (by decide) dX12_round_137 (fun v_257 e_258 => ?_)
                    refine y_c1 (n := 0) C0 (by decide) dX12_round_138 (fun v_259 e_260 => ?_)
                    refine y_c1 (n := 4) C0 (by decide) dX12_round_139 (fun v_261 e_262 => ?_)
                    refine lv_aload_n C0.1 C0.2.1 dX12_round_140 rfl (lv_at hl 2 rfl) ?_
                    refine ng_X12_all C0 h kSM_0 q_1439 dX12_round_141 ?_
                    refine y_c2 (n := 36) C0 (by decide) dX12_round_144 (fun v_263 e_264 => ?_)
                    refine lv_iload_n C0.1 C0.2.1 dX12_round_146 rfl (lv_at hl 3 rfl) ?_
                    refine y_add C0 (o38_227 e_6 e_13 e_14 e_15 c_17 e_264 (le_min v_263) (le_max v_263) (le_min a1) (le_max a1) (le_min r_10) (le_max r_10)) (o38_228 e_6 e_13 e_14 e_15 c_17 e_264 (le_min v_263) (le_max v_263) (le_min a1) (le_max a1) (le_min r_10) (le_max r_10)) dX12_round_147 (fun v_265 e_266 => ?_)
                    refine y_iald C0 h kSM_1 rfl (by decide) (o38_229 e_6 e_13 e_14 e_15 c_17 e_264 e_266) (o38_230 e_6 e_13 e_14 e_15 c_17 e_264 e_266) dX12_round_148 (fun v_267 e_268 e_269 e_270 => ?_)
                    have f_271 := o38_231 v_265.toInt.toNat (o38_232 e_6 e_13 e_14 e_15 c_17 e_264 e_266) (o38_233 e_6 e_13 e_14 e_15 c_17 e_264 e_266)
                    refine y_cmul (n := 4) C0 (o38_234 e_262) (o38_235 (Int.le_trans f_271.1 e_269) (Int.le_trans e_270 f_271.2) (le_min v_267) (le_max v_267)) (o38_236 (Int.le_trans f_271.1 e_269) (Int.le_trans e_270 f_271.2) (le_min v_267) (le_max v_267)) dX12_round_149 (fun v_272 e_273 => ?_)
                    refine lv_aload_n C0.1 C0.2.1 dX12_round_150 rfl (lv_at hl 2 rfl) ?_
                    refine ng_X12_all C0 h kSM_0 q_1439 dX12_round_151 ?_
                    refine y_c2 (n := 41) C0 (by decide) dX12_round_154 (fun v_274 e_275 => ?_)
                    refine lv_iload_n C0.1 C0.2.1 dX12_round_156 rfl (lv_at hl 3 rfl) ?_
                    refine y_add C0 (o38_237 e_6 e_13 e_14 e_15 c_17 e_264 e_266 e_275 (le_min v_274) (le_max v_274) (le_min a1) (le_max a1) (le_min r_10) (le_max r_10) (le_min v_263) (le_max v_263) (le_min v_265) (le_max v_265)) (o38_238 e_6 e_13 e_14 e_15 c_17 e_264 e_266 e_275 (le_min v_274) (le_max v_274) (le_min a1) (le_max a1) (le_min r_10) (le_max r_10) (le_min v_263) (le_max v_263) (le_min v_265) (le_max v_265)) dX12_round_157 (fun v_276 e_277 => ?_)
                    refine y_iald C0 h kSM_1 rfl (by decide) (o38_239 e_6 e_13 e_14 e_15 c_17 e_264 e_266 e_275 e_277) (o38_240 e_6 e_13 e_14 e_15 c_17 e_264 e_266 e_275 e_277) dX12_round_158 (fun v_278 e_279 e_280 e_281 => ?_)
                    have f_282 := o38_241 v_276.toInt.toNat (o38_242 e_6 e_13 e_14 e_15 c_17 e_264 e_266 e_275 e_277) (o38_243 e_6 e_13 e_14 e_15 c_17 e_264 e_266 e_275 e_277)
                    refine y_add C0 (o38_244 (Int.le_trans f_271.1 e_269) (Int.le_trans e_270 f_271.2) e_273 (Int.le_trans f_282.1 e_280) (Int.le_trans e_281 f_282.2) (le_min v_272) (le_max v_272) (le_min v_278) (le_max v_278) (le_min v_267) (le_max v_267)) (o38_245 (Int.le_trans f_271.1 e_269) (Int.le_trans e_270 f_271.2) e_273 (Int.le_trans f_282.1 e_280) (Int.le_trans e_281 f_282.2) (le_min v_272) (le_max v_272) (le_min v_278) (le_max v_278) (le_min v_267) (le_max v_267)) dX12_round_159 (fun v_283 e_284 => ?_)
                    refine y_c1 (n := 0) C0 (by decide) dX12_round_160 (fun v_285 e_286 => ?_)
                    refine y_c1 (n := 0) C0 (by decide) dX12_round_161 (fun v_287 e_288 => ?_)
                    refine y_cv h (y_rV (As := [.int a2, .int v_257, .int v_259, .int v_283, .int v_285, .int v_287]) (rest := []) C0 hZ h (c_X12_goesRound_0 l G Z ad _ h.2 a2 v_257 v_259 v_283 v_285 v_287 (o38_224 e_21 e_23 e_25 e_32 e_33 e_34 c_35 e_211 e_212 e_213 c_214) (o38_246 e_21 e_23 e_25 e_32 e_33 e_34 c_35 e_211 e_212 e_213 c_214) (o38_19 e_258) (o38_247 e_258) (o38_248 (Int.le_trans f_271.1 e_269) (Int.le_trans e_270 f_271.2) e_273 (Int.le_trans f_282.1 e_280) (Int.le_trans e_281 f_282.2) e_284) (o38_249 (Int.le_trans f_271.1 e_269) (Int.le_trans e_270 f_271.2) e_273 (Int.le_trans f_282.1 e_280) (Int.le_trans e_281 f_282.2) e_284) (fbd_lo (Eq.trans rfl (Eq.trans (Eq.trans (aI_of (u_256.1 24 (kd_ne kSM_24 kSM_0 (by decide)))) (Eq.trans (Fr.aI hF_239 kSM_24 (by decide)) (Fr.aI u_226 kSM_24 (by decide)))) e_216)) (o38_250 e_217 e_218 e_220 e_222 e_224 e_231 e_232 e_233 c_234 b_244 b_245 hn_243 e_248 e_249 qh_250 c_251)) (fbd_hi (Eq.trans rfl (Eq.trans (Eq.trans (aI_of (u_256.1 24 (kd_ne kSM_24 kSM_0 (by decide)))) (Eq.trans (Fr.aI hF_239 kSM_24 (by decide)) (Fr.aI u_226 kSM_24 (by decide)))) e_216)) (o38_251 e_217 e_218 e_220 e_222 e_224 e_231 e_232 e_233 c_234 b_244 b_245 hn_243 e_248 e_249 qh_250 c_251)) (NumOk.fr (M := [0]) hN_252 (Fr.up u_256.1 kSM_0 (by decide)) (by decide) (by decide)) (J.pa hT hJ (Pa.tr (Pa.tr (Pa.tr (Pa.tr (Pa.tr (Pa.tr (Pa.tr (Pa.tr (Pa.ud u_4.1 (by decide)) (Pa.fr u_8 (by decide))) (Pa.fr u_27 (by decide))) (Pa.fr u_45 (by decide))) (Pa.fr u_196 (by decide))) (Pa.fr u_206 (by decide))) (Pa.fr u_226 (by decide))) (Pa.fr hF_239 (by decide))) (Pa.ud u_256.1 (by decide)))) (Laid.pa (Or.resolve_left e_16 (o38_252 e_6 e_13 e_14 e_15 c_17 e_264 e_266 e_275 e_277)) (Pa.tr (Pa.tr (Pa.tr (Pa.tr (Pa.tr (Pa.tr (Pa.tr (Pa.fr u_8 (by decide)) (Pa.fr u_27 (by decide))) (Pa.fr u_45 (by decide))) (Pa.fr u_196 (by decide))) (Pa.fr u_206 (by decide))) (Pa.fr u_226 (by decide))) (Pa.fr hF_239 (by decide))) (Pa.ud u_256.1 (by decide))))) k_X12_goesRound q_1966 q_113 q_1964 kSM_0 rfl rfl rfl hl.1 rfl rfl (Nat.le_of_ble_eq_true rfl) dX12_round_162 ⟨Nat.le_of_ble_eq_true rfl, Nat.le_of_ble_eq_true rfl⟩ ⟨Nat.le_of_ble_eq_true rfl, Nat.le_of_ble_eq_true rfl⟩) (fun H locs ws_289 h u_290 p_291 => ?_)
                    have e_292 := p_291
                    replace HE : FT = g57c_X12_round (xso SM ad ws_289) a2.toInt a3.toInt := HE.trans (by rw [e_292, e_288, e_286, e_284, (xg1 e_279 : v_278.toInt = (xso SM ad ws_255) 1 1 v_276.toInt.toNat), e_277, e_275, e_273, (xg1 e_268 : v_267.toInt = (xso SM ad ws_255) 1 1 v_265.toInt.toNat), e_266, e_264, e_260, e_258]; rfl)
                    refine lv_aload_n C0.1 C0.2.1 dX12_round_165 rfl (lv_at hl 2 rfl) ?_
                    refine ng_X12_bestLefts C0 h kSM_0 q_1473 dX12_round_166 (fun v_293 e_294 e_295 e_296 => ?_)
                    refine y_c1 (n := (-1)) C0 (by decide) dX12_round_169 (fun v_297 e_298 => ?_)
                    replace HE : FT = g58b_X12_round (xso SM ad ws_289) v_293.toInt a2.toInt a3.toInt := HE.trans (by rw [(xg0 e_294 : v_293.toInt = (xso SM ad ws_289) 0 0 35)]; rfl)
                    refine y_icmp_ne (tgt := 175) C0 dX12_round_170 (by decide) (fun c_299 => ?_) (fun c_299 => ?_)
                    · -- 170
                      replace HE : FT = g59_X12_round (xso SM ad ws_289) a2.toInt a3.toInt := HE.trans (if_neg (o38_6 e_298 c_299))
                      refine lv_iload_n C0.1 C0.2.1 dX12_round_175 rfl (lv_at hl 5 rfl) ?_
                      refine y_if_ne (tgt := 186) C0 dX12_round_176 (by decide) (fun c_300 => ?_) (fun c_300 => ((o38_267 e_39 e_41 e_43 e_50 e_51 e_52 c_53 e_190 e_192 e_194 e_201 e_202 e_203 c_204 c_300)).elim)
                      refine lv_iload_n C0.1 C0.2.1 dX12_round_186 rfl (lv_at hl 5 rfl) ?_
                      refine y_c1 (n := 1) C0 (by decide) dX12_round_187 (fun v_301 e_302 => ?_)
                      refine y_icmp_ne (tgt := 198) C0 dX12_round_188 (by decide) (fun c_303 => ?_) (fun c_303 => ((o38_268 e_39 e_41 e_43 e_50 e_51 e_52 c_53 e_190 e_192 e_194 e_201 e_202 e_203 c_204 c_300 e_302 c_303)).elim)
                      refine lv_iload_n C0.1 C0.2.1 dX12_round_198 rfl (lv_at hl 5 rfl) ?_
                      refine y_c2 (n := 10) C0 (by decide) dX12_round_199 (fun v_304 e_305 => ?_)
                      refine y_sub C0 (o38_269 e_39 e_41 e_43 e_50 e_51 e_52 c_53 e_190 e_192 e_194 e_201 e_202 e_203 c_204 c_300 e_302 c_303 e_305 (le_min a3) (le_max a3) (le_min v_304) (le_max v_304) (le_min r_47) (le_max r_47) (le_min r_198) (le_max r_198) (le_min v_301) (le_max v_301)) (o38_270 e_39 e_41 e_43 e_50 e_51 e_52 c_53 e_190 e_192 e_194 e_201 e_202 e_203 c_204 c_300 e_302 c_303 e_305 (le_min a3) (le_max a3) (le_min v_304) (le_max v_304) (le_min r_47) (le_max r_47) (le_min r_198) (le_max r_198) (le_min v_301) (le_max v_301)) dX12_round_201 (fun v_306 e_307 => ?_)
                      refine lv_aload_n C0.1 C0.2.1 dX12_round_202 rfl (lv_at hl 2 rfl) ?_
                      refine ng_X12_rowMany C0 h kSM_0 q_1480 dX12_round_203 ?_
                      refine lv_iload_n C0.1 C0.2.1 dX12_round_206 rfl (lv_at hl 4 rfl) ?_
                      refine y_iald C0 h kSM_24 rfl (by decide) (o38_224 e_21 e_23 e_25 e_32 e_33 e_34 c_35 e_211 e_212 e_213 c_214) (o38_225 e_21 e_23 e_25 e_32 e_33 e_34 c_35 e_211 e_212 e_213 c_214) dX12_round_207 (fun v_308 e_309 e_310 e_311 => ?_)
                      have qh_312 : v_308.toInt = v_215.toInt := congrArg Int32.toInt (e_309.symm.trans (Eq.trans rfl (Eq.trans (Eq.trans (Fr.aI u_290 kSM_24 (by decide)) (Eq.trans (aI_of (u_256.1 24 (kd_ne kSM_24 kSM_0 (by decide)))) (Eq.trans (Fr.aI hF_239 kSM_24 (by decide)) (Fr.aI u_226 kSM_24 (by decide))))) e_216)))
                      replace HE : FT = g61b_X12_round (xso SM ad ws_289) v_308.toInt v_306.toInt a3.toInt := HE.trans (by rw [e_307, e_305, (xg1 e_309 : v_308.toInt = (xso SM ad ws_289) 1 24 a2.toInt.toNat)]; rfl)
                      refine y_icmp_ge (tgt := 223) C0 dX12_round_208 (by decide) (fun c_313 => ?_) (fun c_313 => ?_)
                      · -- 208
                        replace HE : FT = g62_X12_round (xso SM ad ws_289) := HE.trans (if_neg (Int.not_lt.mpr c_313))
                        refine y_c1 (n := (-1)) C0 (by decide) dX12_round_223 (fun v_314 e_315 => ?_)
                        replace HE : FT = ((xso SM ad ws_289), v_314.toInt) := HE.trans (by rw [e_315]; rfl)
                        rw [hQ]
                        exact y_iret C0 h (Fr.tr (Fr.tr (Fr.tr (Fr.tr (Fr.tr (Fr.tr (Fr.tr (Fr.tr (Fr.tr (Fr.up u_4.1 kSM_0 (by decide)) (Fr.mono u_8 (by decide))) (Fr.mono u_27 (by decide))) (Fr.mono u_45 (by decide))) (Fr.mono u_196 (by decide))) (Fr.mono u_206 (by decide))) (Fr.mono u_226 (by decide))) (Fr.mono hF_239 (by decide))) (Fr.up u_256.1 kSM_0 (by decide))) u_290) ⟨(congrArg Prod.fst (HE.symm.trans hFT)), (congrArg Prod.snd (HE.symm.trans hFT))⟩ dX12_round_224
                      · -- 208
                        replace HE : FT = g63_X12_round (xso SM ad ws_289) a3.toInt := HE.trans (if_pos c_313)
                        refine lv_aload_n C0.1 C0.2.1 dX12_round_211 rfl (lv_at hl 2 rfl) ?_
                        refine ng_X12_bestRow C0 h kSM_0 q_1472 dX12_round_212 ?_
                        refine lv_iload_n C0.1 C0.2.1 dX12_round_215 rfl (lv_at hl 5 rfl) ?_
                        refine y_c2 (n := 10) C0 (by decide) dX12_round_216 (fun v_316 e_317 => ?_)
                        refine y_sub C0 (o38_271 e_39 e_41 e_43 e_50 e_51 e_52 c_53 e_190 e_192 e_194 e_201 e_202 e_203 c_204 e_217 e_218 e_220 e_222 e_224 e_231 e_232 e_233 c_234 b_244 b_245 hn_243 e_248 e_249 qh_250 c_251 c_300 e_302 c_303 e_305 e_307 e_310 e_311 qh_312 c_313 e_317 (le_min a3) (le_max a3) (le_min v_316) (le_max v_316) (le_min r_47) (le_max r_47) (le_min r_198) (le_max r_198) (le_min v_215) (le_max v_215) (le_min r_228) (le_max r_228) (le_min x5_237) (le_max x5_237) (le_min v_246) (le_max v_246) (le_min v_301) (le_max v_301) (le_min v_304) (le_max v_304) (le_min v_306) (le_max v_306) (le_min v_308) (le_max v_308)) (o38_272 e_39 e_41 e_43 e_50 e_51 e_52 c_53 e_190 e_192 e_194 e_201 e_202 e_203 c_204 e_217 e_218 e_220 e_222 e_224 e_231 e_232 e_233 c_234 b_244 b_245 hn_243 e_248 e_249 qh_250 c_251 c_300 e_302 c_303 e_305 e_307 e_310 e_311 qh_312 c_313 e_317 (le_min a3) (le_max a3) (le_min v_316) (le_max v_316) (le_min r_47) (le_max r_47) (le_min r_198) (le_max r_198) (le_min v_215) (le_max v_215) (le_min r_228) (le_max r_228) (le_min x5_237) (le_max x5_237) (le_min v_246) (le_max v_246) (le_min v_301) (le_max v_301) (le_min v_304) (le_max v_304) (le_min v_306) (le_max v_306) (le_min v_308) (le_max v_308)) dX12_round_218 (fun v_318 e_319 => ?_)
                        refine y_iald C0 h kSM_19 rfl (by decide) (o38_273 e_39 e_41 e_43 e_50 e_51 e_52 c_53 e_190 e_192 e_194 e_201 e_202 e_203 c_204 e_217 e_218 e_220 e_222 e_224 e_231 e_232 e_233 c_234 b_244 b_245 hn_243 e_248 e_249 qh_250 c_251 c_300 e_302 c_303 e_305 e_307 e_310 e_311 qh_312 c_313 e_317 e_319) (o38_274 e_39 e_41 e_43 e_50 e_51 e_52 c_53 e_190 e_192 e_194 e_201 e_202 e_203 c_204 e_217 e_218 e_220 e_222 e_224 e_231 e_232 e_233 c_234 b_244 b_245 hn_243 e_248 e_249 qh_250 c_251 c_300 e_302 c_303 e_305 e_307 e_310 e_311 qh_312 c_313 e_317 e_319) dX12_round_219 (fun v_320 e_321 e_322 e_323 => ?_)
                        refine lv_goto (tgt := 224) C0.1 C0.2.1 dX12_round_220 (by decide) ?_
                        replace HE : FT = ((xso SM ad ws_289), v_320.toInt) := HE.trans (by rw [(xg1 e_321 : v_320.toInt = (xso SM ad ws_289) 1 19 v_318.toInt.toNat), e_319, e_317]; rfl)
                        rw [hQ]
                        exact y_iret C0 h (Fr.tr (Fr.tr (Fr.tr (Fr.tr (Fr.tr (Fr.tr (Fr.tr (Fr.tr (Fr.tr (Fr.up u_4.1 kSM_0 (by decide)) (Fr.mono u_8 (by decide))) (Fr.mono u_27 (by decide))) (Fr.mono u_45 (by decide))) (Fr.mono u_196 (by decide))) (Fr.mono u_206 (by decide))) (Fr.mono u_226 (by decide))) (Fr.mono hF_239 (by decide))) (Fr.up u_256.1 kSM_0 (by decide))) u_290) ⟨(congrArg Prod.fst (HE.symm.trans hFT)), (congrArg Prod.snd (HE.symm.trans hFT))⟩ dX12_round_224
                    · -- 170
                      replace HE : FT = g60_X12_round (xso SM ad ws_289) := HE.trans (if_pos (o38_5 e_298 c_299))
                      refine y_c1 (n := (-1)) C0 (by decide) dX12_round_173 (fun v_324 e_325 => ?_)
                      replace HE : FT = ((xso SM ad ws_289), v_324.toInt) := HE.trans (by rw [e_325]; rfl)
                      rw [hQ]
                      exact y_iret C0 h (Fr.tr (Fr.tr (Fr.tr (Fr.tr (Fr.tr (Fr.tr (Fr.tr (Fr.tr (Fr.tr (Fr.up u_4.1 kSM_0 (by decide)) (Fr.mono u_8 (by decide))) (Fr.mono u_27 (by decide))) (Fr.mono u_45 (by decide))) (Fr.mono u_196 (by decide))) (Fr.mono u_206 (by decide))) (Fr.mono u_226 (by decide))) (Fr.mono hF_239 (by decide))) (Fr.up u_256.1 kSM_0 (by decide))) u_290) ⟨(congrArg Prod.fst (HE.symm.trans hFT)), (congrArg Prod.snd (HE.symm.trans hFT))⟩ dX12_round_174
                  · -- 99
                    replace HE : FT = g55_X12_round R91 (xso SM ad ws_238) a1.toInt a2.toInt a3.toInt x5_237.toInt := HE.trans (if_pos c_251)
                    refine lv_aload_n C0.1 C0.2.1 dX12_round_102 rfl (lv_at hl 2 rfl) ?_
                    refine lv_aload_n C0.1 C0.2.1 dX12_round_103 rfl (lv_at hl 2 rfl) ?_
                    refine ng_X12_numbers C0 h kSM_0 q_1481 dX12_round_104 ?_
                    refine y_c2 (n := 40) C0 (by decide) dX12_round_107 (fun v_326 e_327 => ?_)
                    refine lv_iload_n C0.1 C0.2.1 dX12_round_109 rfl (lv_at hl 4 rfl) ?_
                    refine y_cmul (n := 40) C0 (o38_27 e_327) (o38_254 e_21 e_23 e_25 e_32 e_33 e_34 c_35 e_211 e_212 e_213 c_214 (le_min a2) (le_max a2) (le_min r_29) (le_max r_29) (le_min r_208) (le_max r_208)) (o38_255 e_21 e_23 e_25 e_32 e_33 e_34 c_35 e_211 e_212 e_213 c_214 (le_min a2) (le_max a2) (le_min r_29) (le_max r_29) (le_min r_208) (le_max r_208)) dX12_round_110 (fun v_328 e_329 => ?_)
                    refine lv_iload C0.1 C0.2.1 dX12_round_111 (lv_at hl 0 rfl) ?_
                    refine y_add C0 (o38_256 e_21 e_23 e_25 e_32 e_33 e_34 c_35 e_211 e_212 e_213 c_214 e_217 e_218 e_220 e_222 e_224 e_231 e_232 e_233 c_234 b_244 b_245 hn_243 e_248 e_249 qh_250 c_251 e_329 (le_min v_328) (le_max v_328) (le_min x5_237) (le_max x5_237) (le_min a2) (le_max a2) (le_min r_29) (le_max r_29) (le_min r_208) (le_max r_208) (le_min v_215) (le_max v_215) (le_min r_228) (le_max r_228) (le_min v_246) (le_max v_246)) (o38_257 e_21 e_23 e_25 e_32 e_33 e_34 c_35 e_211 e_212 e_213 c_214 e_217 e_218 e_220 e_222 e_224 e_231 e_232 e_233 c_234 b_244 b_245 hn_243 e_248 e_249 qh_250 c_251 e_329 (le_min v_328) (le_max v_328) (le_min x5_237) (le_max x5_237) (le_min a2) (le_max a2) (le_min r_29) (le_max r_29) (le_min r_208) (le_max r_208) (le_min v_215) (le_max v_215) (le_min r_228) (le_max r_228) (le_min v_246) (le_max v_246)) dX12_round_113 (fun v_330 e_331 => ?_)
                    refine y_lald C0 h kSM_25 rfl (by decide) (o38_258 e_21 e_23 e_25 e_32 e_33 e_34 c_35 e_211 e_212 e_213 c_214 e_217 e_218 e_220 e_222 e_224 e_231 e_232 e_233 c_234 b_244 b_245 hn_243 e_248 e_249 qh_250 c_251 e_329 e_331) (o38_259 e_21 e_23 e_25 e_32 e_33 e_34 c_35 e_211 e_212 e_213 c_214 e_217 e_218 e_220 e_222 e_224 e_231 e_232 e_233 c_234 b_244 b_245 hn_243 e_248 e_249 qh_250 c_251 e_329 e_331) dX12_round_114 (fun w_332 e_333 => ?_)
                    refine y_ci h (y_rV (As := [.long w_332]) (rest := []) C0 hZ h (c_X12_isCrossing l G Z ad _ h.2 w_332) k_X12_isCrossing q_1701 q_78 q_1699 kSM_0 rfl rfl rfl hl.1 rfl rfl (Nat.le_of_ble_eq_true rfl) dX12_round_115 ⟨Nat.le_of_ble_eq_true rfl, Nat.le_of_ble_eq_true rfl⟩ ⟨Nat.le_of_ble_eq_true rfl, Nat.le_of_ble_eq_true rfl⟩) (fun r_337 H locs ws_334 h u_335 p_336 => ?_)
                    obtain ⟨e_338, e_339, e_340, e_341, e_342, e_343⟩ := p_336
                    replace HE : FT = g64c_X12_round R91 (xso SM ad ws_334) r_337.toInt a1.toInt a2.toInt a3.toInt x5_237.toInt := HE.trans (by rw [e_338, e_339, (xg2 e_333 : w_332.toInt = (xso SM ad ws_238) 2 25 v_330.toInt.toNat), e_331, e_329]; rfl)
                    replace HE : FT = g65b_X12_round R91 (xso SM ad ws_334) r_337.toInt a1.toInt a2.toInt a3.toInt x5_237.toInt := HE.trans rfl
                    refine y_if_ne (tgt := 124) C0 dX12_round_118 (by decide) (fun c_344 => ?_) (fun c_344 => ?_)
                    · -- 118
                      replace HE : FT = g66_X12_round R91 (xso SM ad ws_334) a1.toInt a2.toInt a3.toInt x5_237.toInt := HE.trans (if_neg c_344)
                      refine y_inc (kp := 0) (n := 1) (fun v_345 => [(5, .int v_345), (4, .int r_208), (0, .ref (ad 0)), (1, .int a1), (2, .int a2), (3, .int a3)]) C0 hl rfl (by decide) (by decide) (fun _ => rfl) (o38_260 e_21 e_23 e_25 e_32 e_33 e_34 c_35 e_211 e_212 e_213 c_214 e_217 e_218 e_220 e_222 e_224 e_231 e_232 e_233 c_234 b_244 b_245 hn_243 e_248 e_249 qh_250 c_251 e_329 e_331 (le_min x5_237) (le_max x5_237) (le_min a2) (le_max a2) (le_min r_29) (le_max r_29) (le_min r_208) (le_max r_208) (le_min v_215) (le_max v_215) (le_min r_228) (le_max r_228) (le_min v_246) (le_max v_246) (le_min v_328) (le_max v_328) (le_min v_330) (le_max v_330)) (o38_261 e_21 e_23 e_25 e_32 e_33 e_34 c_35 e_211 e_212 e_213 c_214 e_217 e_218 e_220 e_222 e_224 e_231 e_232 e_233 c_234 b_244 b_245 hn_243 e_248 e_249 qh_250 c_251 e_329 e_331 (le_min x5_237) (le_max x5_237) (le_min a2) (le_max a2) (le_min r_29) (le_max r_29) (le_min r_208) (le_max r_208) (le_min v_215) (le_max v_215) (le_min r_228) (le_max r_228) (le_min v_246) (le_max v_246) (le_min v_328) (le_max v_328) (le_min v_330) (le_max v_330)) dX12_round_124 (fun v_345 ls e_346 hl => ?_)
                      refine lv_goto (tgt := 91) C0.1 C0.2.1 dX12_round_127 (by decide) ?_
                      exact ih_241 v_345 _ _ _ _ (o38_262 e_21 e_23 e_25 e_32 e_33 e_34 c_35 e_211 e_212 e_213 c_214 e_217 e_218 e_220 e_222 e_224 e_231 e_232 e_233 c_234 b_244 b_245 hn_243 e_248 e_249 qh_250 c_251 e_329 e_331 e_346) (o38_263 e_21 e_23 e_25 e_32 e_33 e_34 c_35 e_211 e_212 e_213 c_214 e_217 e_218 e_220 e_222 e_224 e_231 e_232 e_233 c_234 b_244 b_245 hn_243 e_248 e_249 qh_250 c_251 e_329 e_331 e_346) (o38_264 e_21 e_23 e_25 e_32 e_33 e_34 c_35 e_211 e_212 e_213 c_214 e_217 e_218 e_220 e_222 e_224 e_231 e_232 e_233 c_234 b_244 b_245 hn_243 e_248 e_249 qh_250 c_251 e_329 e_331 e_346) ((num_s (M := []) hNu u_335 (by decide) (o38_265 e_21 e_23 e_25 e_32 e_33 e_34 c_35 e_211 e_212 e_213 c_214 e_217 e_218 e_220 e_222 e_224 e_231 e_232 e_233 c_234 b_244 b_245 hn_243 e_248 e_249 qh_250 c_251 e_329 e_331 e_346) (Eq.trans (Fr.aL u_335 kSM_25 (by decide)) e_333) e_346 (o38_266 e_21 e_23 e_25 e_32 e_33 e_34 c_35 e_211 e_212 e_213 c_214 e_217 e_218 e_220 e_222 e_224 e_231 e_232 e_233 c_234 b_244 b_245 hn_243 e_248 e_249 qh_250 c_251 e_329 e_331 e_340 e_341 e_342 c_344 e_346))) (((show FT = R91 (xso SM ad ws_334) a1.toInt a2.toInt a3.toInt v_345.toInt from HE.trans (by rw [e_346]; rfl)).trans (by rw [hR91]))) h (Fr.tr hF_239 u_335) (lv_sub hl [0, 1, 2, 3, 4, 5] rfl)
                    · -- 118
                      replace HE : FT = g67_X12_round (xso SM ad ws_334) := HE.trans (if_pos c_344)
                      refine y_c2 (n := (-3)) C0 (by decide) dX12_round_121 (fun v_347 e_348 => ?_)
                      replace HE : FT = ((xso SM ad ws_334), v_347.toInt) := HE.trans (by rw [e_348]; rfl)
                      rw [hQ]
                      exact y_iret C0 h (Fr.tr (Fr.tr (Fr.tr (Fr.tr (Fr.tr (Fr.tr (Fr.tr (Fr.tr (Fr.up u_4.1 kSM_0 (by decide)) (Fr.mono u_8 (by decide))) (Fr.mono u_27 (by decide))) (Fr.mono u_45 (by decide))) (Fr.mono u_196 (by decide))) (Fr.mono u_206 (by decide))) (Fr.mono u_226 (by decide))) (Fr.mono hF_239 (by decide))) (Fr.mono u_335 (by decide))) ⟨(congrArg Prod.fst (HE.symm.trans hFT)), (congrArg Prod.snd (HE.symm.trans hFT))⟩ dX12_round_123
              exact lp_240 ((4 - v_235.toInt + 1).toNat) v_235 _ _ _ _ (o38_18 e_236) (o38_19 e_236) (o38_20 e_236) ((num_0 e_236)) ((show FT = L51_X12_round (Int.toNat (4 - v_235.toInt + 1)) (xso SM ad ws_225) a1.toInt a2.toInt a3.toInt v_235.toInt from HE.trans (by rw [e_236]; rfl))) h Fr.rf (lv_sub hl [0, 1, 2, 3, 4, 5] rfl)
            · -- 82
              replace HE : FT = g50_X12_round (xso SM ad ws_225) := HE.trans (if_pos c_234)
              refine y_c2 (n := (-4)) C0 (by decide) dX12_round_85 (fun v_349 e_350 => ?_)
              replace HE : FT = ((xso SM ad ws_225), v_349.toInt) := HE.trans (by rw [e_350]; rfl)
              rw [hQ]
              exact y_iret C0 h (Fr.tr (Fr.tr (Fr.tr (Fr.tr (Fr.tr (Fr.tr (Fr.up u_4.1 kSM_0 (by decide)) (Fr.mono u_8 (by decide))) (Fr.mono u_27 (by decide))) (Fr.mono u_45 (by decide))) (Fr.mono u_196 (by decide))) (Fr.mono u_206 (by decide))) (Fr.mono u_226 (by decide))) ⟨(congrArg Prod.fst (HE.symm.trans hFT)), (congrArg Prod.snd (HE.symm.trans hFT))⟩ dX12_round_87
          · -- 62
            replace HE : FT = g46_X12_round (xso SM ad ws_205) r_208.toInt := HE.trans (if_neg c_214)
            refine lv_iload C0.1 C0.2.1 dX12_round_65 (lv_at hl 0 rfl) ?_
            replace HE : FT = ((xso SM ad ws_205), r_208.toInt) := HE.trans rfl
            rw [hQ]
            exact y_iret C0 h (Fr.tr (Fr.tr (Fr.tr (Fr.tr (Fr.tr (Fr.up u_4.1 kSM_0 (by decide)) (Fr.mono u_8 (by decide))) (Fr.mono u_27 (by decide))) (Fr.mono u_45 (by decide))) (Fr.mono u_196 (by decide))) (Fr.mono u_206 (by decide))) ⟨(congrArg Prod.fst (HE.symm.trans hFT)), (congrArg Prod.snd (HE.symm.trans hFT))⟩ dX12_round_67
        · -- 47
          replace HE : FT = g42_X12_round (xso SM ad ws_195) := HE.trans (if_pos c_204)
          refine y_c2 (n := (-2)) C0 (by decide) dX12_round_50 (fun v_351 e_352 => ?_)
          replace HE : FT = ((xso SM ad ws_195), v_351.toInt) := HE.trans (by rw [e_352]; rfl)
          rw [hQ]
          exact y_iret C0 h (Fr.tr (Fr.tr (Fr.tr (Fr.tr (Fr.up u_4.1 kSM_0 (by decide)) (Fr.mono u_8 (by decide))) (Fr.mono u_27 (by decide))) (Fr.mono u_45 (by decide))) (Fr.mono u_196 (by decide))) ⟨(congrArg Prod.fst (HE.symm.trans hFT)), (congrArg Prod.snd (HE.symm.trans hFT))⟩ dX12_round_52
