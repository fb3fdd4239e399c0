variable {tt : QQ}
theorem dX12_byRights_0 : decode cX12_byRights 0 = .ok (.aload_n 0, 1) := by decide +kernel
theorem dX12_byRights_1 : decode cX12_byRights 1 = .ok (.iconst 0, 1) := by decide +kernel
theorem dX12_byRights_2 : decode cX12_byRights 2 = .ok (.putfield 1, 3) := by decide +kernel
theorem dX12_byRights_5 : decode cX12_byRights 5 = .ok (.aload_n 0, 1) := by decide +kernel
theorem dX12_byRights_6 : decode cX12_byRights 6 = .ok (.iload_n 1, 1) := by decide +kernel
theorem dX12_byRights_7 : decode cX12_byRights 7 = .ok (.i2l, 1) := by decide +kernel
theorem dX12_byRights_8 : decode cX12_byRights 8 = .ok (.invokevirtual 257, 3) := by decide +kernel
theorem dX12_byRights_11 : decode cX12_byRights 11 = .ok (.ifCond .eq 10, 3) := by decide +kernel
theorem dX12_byRights_14 : decode cX12_byRights 14 = .ok (.iload_n 2, 1) := by decide +kernel
theorem dX12_byRights_15 : decode cX12_byRights 15 = .ok (.invokestatic 260, 3) := by decide +kernel
theorem dX12_byRights_18 : decode cX12_byRights 18 = .ok (.ifCond .ne 6, 3) := by decide +kernel
theorem dX12_byRights_21 : decode cX12_byRights 21 = .ok (.bipush (-2), 2) := by decide +kernel
theorem dX12_byRights_23 : decode cX12_byRights 23 = .ok (.ireturn, 1) := by decide +kernel
theorem dX12_byRights_24 : decode cX12_byRights 24 = .ok (.aload_n 0, 1) := by decide +kernel
theorem dX12_byRights_25 : decode cX12_byRights 25 = .ok (.iload_n 1, 1) := by decide +kernel
theorem dX12_byRights_26 : decode cX12_byRights 26 = .ok (.iload_n 2, 1) := by decide +kernel
theorem dX12_byRights_27 : decode cX12_byRights 27 = .ok (.iconst 2, 1) := by decide +kernel
theorem dX12_byRights_28 : decode cX12_byRights 28 = .ok (.invokestatic 278, 3) := by decide +kernel
theorem dX12_byRights_31 : decode cX12_byRights 31 = .ok (.invokevirtual 263, 3) := by decide +kernel
theorem dX12_byRights_34 : decode cX12_byRights 34 = .ok (.istore_n 3, 1) := by decide +kernel
theorem dX12_byRights_35 : decode cX12_byRights 35 = .ok (.iload_n 3, 1) := by decide +kernel
theorem dX12_byRights_36 : decode cX12_byRights 36 = .ok (.iconst (-1), 1) := by decide +kernel
theorem dX12_byRights_37 : decode cX12_byRights 37 = .ok (.if_icmp .ne 5, 3) := by decide +kernel
theorem dX12_byRights_40 : decode cX12_byRights 40 = .ok (.iconst (-1), 1) := by decide +kernel
theorem dX12_byRights_41 : decode cX12_byRights 41 = .ok (.ireturn, 1) := by decide +kernel
theorem dX12_byRights_42 : decode cX12_byRights 42 = .ok (.iconst 0, 1) := by decide +kernel
theorem dX12_byRights_43 : decode cX12_byRights 43 = .ok (.istore 4, 2) := by decide +kernel
theorem dX12_byRights_45 : decode cX12_byRights 45 = .ok (.iload 4, 2) := by decide +kernel
theorem dX12_byRights_47 : decode cX12_byRights 47 = .ok (.bipush 100, 2) := by decide +kernel
theorem dX12_byRights_49 : decode cX12_byRights 49 = .ok (.if_icmp .ge 31, 3) := by decide +kernel
theorem dX12_byRights_52 : decode cX12_byRights 52 = .ok (.aload_n 0, 1) := by decide +kernel
theorem dX12_byRights_53 : decode cX12_byRights 53 = .ok (.getfield 64, 3) := by decide +kernel
theorem dX12_byRights_56 : decode cX12_byRights 56 = .ok (.iload 4, 2) := by decide +kernel
theorem dX12_byRights_58 : decode cX12_byRights 58 = .ok (.iload 4, 2) := by decide +kernel
theorem dX12_byRights_60 : decode cX12_byRights 60 = .ok (.iconst 4, 1) := by decide +kernel
theorem dX12_byRights_61 : decode cX12_byRights 61 = .ok (.iload_n 1, 1) := by decide +kernel
theorem dX12_byRights_62 : decode cX12_byRights 62 = .ok (.imul, 1) := by decide +kernel
theorem dX12_byRights_63 : decode cX12_byRights 63 = .ok (.iload_n 2, 1) := by decide +kernel
theorem dX12_byRights_64 : decode cX12_byRights 64 = .ok (.iadd, 1) := by decide +kernel
theorem dX12_byRights_65 : decode cX12_byRights 65 = .ok (.if_icmp .ne 7, 3) := by decide +kernel
theorem dX12_byRights_68 : decode cX12_byRights 68 = .ok (.iconst 1, 1) := by decide +kernel
theorem dX12_byRights_69 : decode cX12_byRights 69 = .ok (.goto 4, 3) := by decide +kernel
theorem dX12_byRights_72 : decode cX12_byRights 72 = .ok (.iconst 0, 1) := by decide +kernel
theorem dX12_byRights_73 : decode cX12_byRights 73 = .ok (.bastore, 1) := by decide +kernel
theorem dX12_byRights_74 : decode cX12_byRights 74 = .ok (.iinc 4 1, 3) := by decide +kernel
theorem dX12_byRights_77 : decode cX12_byRights 77 = .ok (.goto (-32), 3) := by decide +kernel
theorem dX12_byRights_80 : decode cX12_byRights 80 = .ok (.iconst 1, 1) := by decide +kernel
theorem dX12_byRights_81 : decode cX12_byRights 81 = .ok (.istore 4, 2) := by decide +kernel
theorem dX12_byRights_83 : decode cX12_byRights 83 = .ok (.iload 4, 2) := by decide +kernel
theorem dX12_byRights_85 : decode cX12_byRights 85 = .ok (.bipush 60, 2) := by decide +kernel
theorem dX12_byRights_87 : decode cX12_byRights 87 = .ok (.if_icmp .gt 182, 3) := by decide +kernel
theorem dX12_byRights_90 : decode cX12_byRights 90 = .ok (.iconst 0, 1) := by decide +kernel
theorem dX12_byRights_91 : decode cX12_byRights 91 = .ok (.istore 5, 2) := by decide +kernel
theorem dX12_byRights_93 : decode cX12_byRights 93 = .ok (.iload 5, 2) := by decide +kernel
theorem dX12_byRights_95 : decode cX12_byRights 95 = .ok (.bipush 100, 2) := by decide +kernel
theorem dX12_byRights_97 : decode cX12_byRights 97 = .ok (.if_icmp .ge 17, 3) := by decide +kernel
theorem dX12_byRights_100 : decode cX12_byRights 100 = .ok (.aload_n 0, 1) := by decide +kernel
theorem dX12_byRights_101 : decode cX12_byRights 101 = .ok (.getfield 67, 3) := by decide +kernel
theorem dX12_byRights_104 : decode cX12_byRights 104 = .ok (.iload 5, 2) := by decide +kernel
theorem dX12_byRights_106 : decode cX12_byRights 106 = .ok (.iconst 0, 1) := by decide +kernel
theorem dX12_byRights_107 : decode cX12_byRights 107 = .ok (.bastore, 1) := by decide +kernel
theorem dX12_byRights_108 : decode cX12_byRights 108 = .ok (.iinc 5 1, 3) := by decide +kernel
theorem dX12_byRights_111 : decode cX12_byRights 111 = .ok (.goto (-18), 3) := by decide +kernel
theorem dX12_byRights_114 : decode cX12_byRights 114 = .ok (.iconst 0, 1) := by decide +kernel
theorem dX12_byRights_115 : decode cX12_byRights 115 = .ok (.istore 5, 2) := by decide +kernel
theorem dX12_byRights_117 : decode cX12_byRights 117 = .ok (.iload 5, 2) := by decide +kernel
theorem dX12_byRights_119 : decode cX12_byRights 119 = .ok (.iconst 4, 1) := by decide +kernel
theorem dX12_byRights_120 : decode cX12_byRights 120 = .ok (.aload_n 0, 1) := by decide +kernel
theorem dX12_byRights_121 : decode cX12_byRights 121 = .ok (.invokevirtual 233, 3) := by decide +kernel
theorem dX12_byRights_124 : decode cX12_byRights 124 = .ok (.imul, 1) := by decide +kernel
theorem dX12_byRights_125 : decode cX12_byRights 125 = .ok (.if_icmp .ge 76, 3) := by decide +kernel
theorem dX12_byRights_128 : decode cX12_byRights 128 = .ok (.iconst 0, 1) := by decide +kernel
theorem dX12_byRights_129 : decode cX12_byRights 129 = .ok (.istore 6, 2) := by decide +kernel
theorem dX12_byRights_131 : decode cX12_byRights 131 = .ok (.iload 6, 2) := by decide +kernel
theorem dX12_byRights_133 : decode cX12_byRights 133 = .ok (.iconst 2, 1) := by decide +kernel
theorem dX12_byRights_134 : decode cX12_byRights 134 = .ok (.if_icmp .ge 61, 3) := by decide +kernel
theorem dX12_byRights_137 : decode cX12_byRights 137 = .ok (.aload_n 0, 1) := by decide +kernel
theorem dX12_byRights_138 : decode cX12_byRights 138 = .ok (.getfield 64, 3) := by decide +kernel
theorem dX12_byRights_141 : decode cX12_byRights 141 = .ok (.iload 5, 2) := by decide +kernel
theorem dX12_byRights_143 : decode cX12_byRights 143 = .ok (.baload, 1) := by decide +kernel
theorem dX12_byRights_144 : decode cX12_byRights 144 = .ok (.ifCond .eq 51, 3) := by decide +kernel
theorem dX12_byRights_147 : decode cX12_byRights 147 = .ok (.iload 5, 2) := by decide +kernel
theorem dX12_byRights_149 : decode cX12_byRights 149 = .ok (.iconst 4, 1) := by decide +kernel
theorem dX12_byRights_150 : decode cX12_byRights 150 = .ok (.irem, 1) := by decide +kernel
theorem dX12_byRights_151 : decode cX12_byRights 151 = .ok (.iload 6, 2) := by decide +kernel
theorem dX12_byRights_153 : decode cX12_byRights 153 = .ok (.invokestatic 278, 3) := by decide +kernel
theorem dX12_byRights_156 : decode cX12_byRights 156 = .ok (.istore 7, 2) := by decide +kernel
theorem dX12_byRights_158 : decode cX12_byRights 158 = .ok (.aload_n 0, 1) := by decide +kernel
theorem dX12_byRights_159 : decode cX12_byRights 159 = .ok (.iload 5, 2) := by decide +kernel
theorem dX12_byRights_161 : decode cX12_byRights 161 = .ok (.iconst 4, 1) := by decide +kernel
theorem dX12_byRights_162 : decode cX12_byRights 162 = .ok (.idiv, 1) := by decide +kernel
theorem dX12_byRights_163 : decode cX12_byRights 163 = .ok (.iload 7, 2) := by decide +kernel
theorem dX12_byRights_165 : decode cX12_byRights 165 = .ok (.invokevirtual 263, 3) := by decide +kernel
theorem dX12_byRights_168 : decode cX12_byRights 168 = .ok (.istore 8, 2) := by decide +kernel
theorem dX12_byRights_170 : decode cX12_byRights 170 = .ok (.iload 8, 2) := by decide +kernel
theorem dX12_byRights_172 : decode cX12_byRights 172 = .ok (.iconst (-1), 1) := by decide +kernel
theorem dX12_byRights_173 : decode cX12_byRights 173 = .ok (.if_icmp .eq 16, 3) := by decide +kernel
theorem dX12_byRights_176 : decode cX12_byRights 176 = .ok (.aload_n 0, 1) := by decide +kernel
theorem dX12_byRights_177 : decode cX12_byRights 177 = .ok (.getfield 67, 3) := by decide +kernel
theorem dX12_byRights_180 : decode cX12_byRights 180 = .ok (.iconst 4, 1) := by decide +kernel
theorem dX12_byRights_181 : decode cX12_byRights 181 = .ok (.iload 8, 2) := by decide +kernel
theorem dX12_byRights_183 : decode cX12_byRights 183 = .ok (.imul, 1) := by decide +kernel
theorem dX12_byRights_184 : decode cX12_byRights 184 = .ok (.iload 7, 2) := by decide +kernel
theorem dX12_byRights_186 : decode cX12_byRights 186 = .ok (.iadd, 1) := by decide +kernel
theorem dX12_byRights_187 : decode cX12_byRights 187 = .ok (.iconst 1, 1) := by decide +kernel
theorem dX12_byRights_188 : decode cX12_byRights 188 = .ok (.bastore, 1) := by decide +kernel
theorem dX12_byRights_189 : decode cX12_byRights 189 = .ok (.iinc 6 1, 3) := by decide +kernel
theorem dX12_byRights_192 : decode cX12_byRights 192 = .ok (.goto (-61), 3) := by decide +kernel
theorem dX12_byRights_195 : decode cX12_byRights 195 = .ok (.iinc 5 1, 3) := by decide +kernel
theorem dX12_byRights_198 : decode cX12_byRights 198 = .ok (.goto (-81), 3) := by decide +kernel
theorem dX12_byRights_201 : decode cX12_byRights 201 = .ok (.iconst 0, 1) := by decide +kernel
theorem dX12_byRights_202 : decode cX12_byRights 202 = .ok (.istore 5, 2) := by decide +kernel
theorem dX12_byRights_204 : decode cX12_byRights 204 = .ok (.iload 5, 2) := by decide +kernel
theorem dX12_byRights_206 : decode cX12_byRights 206 = .ok (.bipush 100, 2) := by decide +kernel
theorem dX12_byRights_208 : decode cX12_byRights 208 = .ok (.if_icmp .ge 23, 3) := by decide +kernel
theorem dX12_byRights_211 : decode cX12_byRights 211 = .ok (.aload_n 0, 1) := by decide +kernel
theorem dX12_byRights_212 : decode cX12_byRights 212 = .ok (.getfield 64, 3) := by decide +kernel
theorem dX12_byRights_215 : decode cX12_byRights 215 = .ok (.iload 5, 2) := by decide +kernel
theorem dX12_byRights_217 : decode cX12_byRights 217 = .ok (.aload_n 0, 1) := by decide +kernel
theorem dX12_byRights_218 : decode cX12_byRights 218 = .ok (.getfield 67, 3) := by decide +kernel
theorem dX12_byRights_221 : decode cX12_byRights 221 = .ok (.iload 5, 2) := by decide +kernel
theorem dX12_byRights_223 : decode cX12_byRights 223 = .ok (.baload, 1) := by decide +kernel
theorem dX12_byRights_224 : decode cX12_byRights 224 = .ok (.bastore, 1) := by decide +kernel
theorem dX12_byRights_225 : decode cX12_byRights 225 = .ok (.iinc 5 1, 3) := by decide +kernel
theorem dX12_byRights_228 : decode cX12_byRights 228 = .ok (.goto (-24), 3) := by decide +kernel
theorem dX12_byRights_231 : decode cX12_byRights 231 = .ok (.iconst 0, 1) := by decide +kernel
theorem dX12_byRights_232 : decode cX12_byRights 232 = .ok (.istore 5, 2) := by decide +kernel
theorem dX12_byRights_234 : decode cX12_byRights 234 = .ok (.iload 5, 2) := by decide +kernel
theorem dX12_byRights_236 : decode cX12_byRights 236 = .ok (.iconst 4, 1) := by decide +kernel
theorem dX12_byRights_237 : decode cX12_byRights 237 = .ok (.if_icmp .ge 26, 3) := by decide +kernel
theorem dX12_byRights_240 : decode cX12_byRights 240 = .ok (.aload_n 0, 1) := by decide +kernel
theorem dX12_byRights_241 : decode cX12_byRights 241 = .ok (.getfield 64, 3) := by decide +kernel
theorem dX12_byRights_244 : decode cX12_byRights 244 = .ok (.iconst 4, 1) := by decide +kernel
theorem dX12_byRights_245 : decode cX12_byRights 245 = .ok (.iload_n 3, 1) := by decide +kernel
theorem dX12_byRights_246 : decode cX12_byRights 246 = .ok (.imul, 1) := by decide +kernel
theorem dX12_byRights_247 : decode cX12_byRights 247 = .ok (.iload 5, 2) := by decide +kernel
theorem dX12_byRights_249 : decode cX12_byRights 249 = .ok (.iadd, 1) := by decide +kernel
theorem dX12_byRights_250 : decode cX12_byRights 250 = .ok (.baload, 1) := by decide +kernel
theorem dX12_byRights_251 : decode cX12_byRights 251 = .ok (.ifCond .eq 6, 3) := by decide +kernel
theorem dX12_byRights_254 : decode cX12_byRights 254 = .ok (.iload 4, 2) := by decide +kernel
theorem dX12_byRights_256 : decode cX12_byRights 256 = .ok (.ireturn, 1) := by decide +kernel
theorem dX12_byRights_257 : decode cX12_byRights 257 = .ok (.iinc 5 1, 3) := by decide +kernel
theorem dX12_byRights_260 : decode cX12_byRights 260 = .ok (.goto (-26), 3) := by decide +kernel
theorem dX12_byRights_263 : decode cX12_byRights 263 = .ok (.iinc 4 1, 3) := by decide +kernel
theorem dX12_byRights_266 : decode cX12_byRights 266 = .ok (.goto (-183), 3) := by decide +kernel
theorem dX12_byRights_269 : decode cX12_byRights 269 = .ok (.iconst (-1), 1) := by decide +kernel
theorem dX12_byRights_270 : decode cX12_byRights 270 = .ok (.ireturn, 1) := by decide +kernel
theorem dX12_cheapest_0 : decode cX12_cheapest 0 = .ok (.aload_n 0, 1) := by decide +kernel
theorem dX12_cheapest_1 : decode cX12_cheapest 1 = .ok (.iconst 0, 1) := by decide +kernel
theorem dX12_cheapest_2 : decode cX12_cheapest 2 = .ok (.putfield 1, 3) := by decide +kernel
theorem dX12_cheapest_5 : decode cX12_cheapest 5 = .ok (.aload_n 0, 1) := by decide +kernel
theorem dX12_cheapest_6 : decode cX12_cheapest 6 = .ok (.iload_n 1, 1) := by decide +kernel
theorem dX12_cheapest_7 : decode cX12_cheapest 7 = .ok (.iload_n 2, 1) := by decide +kernel
theorem dX12_cheapest_8 : decode cX12_cheapest 8 = .ok (.invokevirtual 376, 3) := by decide +kernel
theorem dX12_cheapest_11 : decode cX12_cheapest 11 = .ok (.ifCond .ne 6, 3) := by decide +kernel
theorem dX12_cheapest_14 : decode cX12_cheapest 14 = .ok (.bipush (-2), 2) := by decide +kernel
theorem dX12_cheapest_16 : decode cX12_cheapest 16 = .ok (.ireturn, 1) := by decide +kernel
theorem dX12_cheapest_17 : decode cX12_cheapest 17 = .ok (.iload_n 3, 1) := by decide +kernel
theorem dX12_cheapest_18 : decode cX12_cheapest 18 = .ok (.i2l, 1) := by decide +kernel
theorem dX12_cheapest_19 : decode cX12_cheapest 19 = .ok (.lconst 0, 1) := by decide +kernel
theorem dX12_cheapest_20 : decode cX12_cheapest 20 = .ok (.ldc2_w 342, 3) := by decide +kernel
theorem dX12_cheapest_23 : decode cX12_cheapest 23 = .ok (.invokestatic 161, 3) := by decide +kernel
theorem dX12_cheapest_26 : decode cX12_cheapest 26 = .ok (.ifCond .ne 6, 3) := by decide +kernel
theorem dX12_cheapest_29 : decode cX12_cheapest 29 = .ok (.bipush (-3), 2) := by decide +kernel
theorem dX12_cheapest_31 : decode cX12_cheapest 31 = .ok (.ireturn, 1) := by decide +kernel
theorem dX12_cheapest_32 : decode cX12_cheapest 32 = .ok (.aload_n 0, 1) := by decide +kernel
theorem dX12_cheapest_33 : decode cX12_cheapest 33 = .ok (.iload_n 1, 1) := by decide +kernel
theorem dX12_cheapest_34 : decode cX12_cheapest 34 = .ok (.iload_n 3, 1) := by decide +kernel
theorem dX12_cheapest_35 : decode cX12_cheapest 35 = .ok (.iconst 1, 1) := by decide +kernel
theorem dX12_cheapest_36 : decode cX12_cheapest 36 = .ok (.invokevirtual 369, 3) := by decide +kernel
theorem dX12_cheapest_39 : decode cX12_cheapest 39 = .ok (.aload_n 0, 1) := by decide +kernel
theorem dX12_cheapest_40 : decode cX12_cheapest 40 = .ok (.iload_n 2, 1) := by decide +kernel
theorem dX12_cheapest_41 : decode cX12_cheapest 41 = .ok (.iload_n 3, 1) := by decide +kernel
theorem dX12_cheapest_42 : decode cX12_cheapest 42 = .ok (.invokevirtual 398, 3) := by decide +kernel
theorem dX12_cheapest_45 : decode cX12_cheapest 45 = .ok (.invokestatic 401, 3) := by decide +kernel
theorem dX12_cheapest_48 : decode cX12_cheapest 48 = .ok (.ireturn, 1) := by decide +kernel
theorem dX12_costOf_0 : decode cX12_costOf 0 = .ok (.iload_n 3, 1) := by decide +kernel
theorem dX12_costOf_1 : decode cX12_costOf 1 = .ok (.iload 4, 2) := by decide +kernel
theorem dX12_costOf_3 : decode cX12_costOf 3 = .ok (.invokestatic 278, 3) := by decide +kernel
theorem dX12_costOf_6 : decode cX12_costOf 6 = .ok (.istore 6, 2) := by decide +kernel
theorem dX12_costOf_8 : decode cX12_costOf 8 = .ok (.aload_n 0, 1) := by decide +kernel
theorem dX12_costOf_9 : decode cX12_costOf 9 = .ok (.iload_n 2, 1) := by decide +kernel
theorem dX12_costOf_10 : decode cX12_costOf 10 = .ok (.iload 6, 2) := by decide +kernel
theorem dX12_costOf_12 : decode cX12_costOf 12 = .ok (.invokevirtual 263, 3) := by decide +kernel
theorem dX12_costOf_15 : decode cX12_costOf 15 = .ok (.iconst (-1), 1) := by decide +kernel
theorem dX12_costOf_16 : decode cX12_costOf 16 = .ok (.if_icmp .eq 28, 3) := by decide +kernel
theorem dX12_costOf_19 : decode cX12_costOf 19 = .ok (.iload 4, 2) := by decide +kernel
theorem dX12_costOf_21 : decode cX12_costOf 21 = .ok (.iconst 1, 1) := by decide +kernel
theorem dX12_costOf_22 : decode cX12_costOf 22 = .ok (.if_icmp .le 26, 3) := by decide +kernel
theorem dX12_costOf_25 : decode cX12_costOf 25 = .ok (.aload_n 0, 1) := by decide +kernel
theorem dX12_costOf_26 : decode cX12_costOf 26 = .ok (.getfield 48, 3) := by decide +kernel
theorem dX12_costOf_29 : decode cX12_costOf 29 = .ok (.bipush 100, 2) := by decide +kernel
theorem dX12_costOf_31 : decode cX12_costOf 31 = .ok (.iload_n 1, 1) := by decide +kernel
theorem dX12_costOf_32 : decode cX12_costOf 32 = .ok (.imul, 1) := by decide +kernel
theorem dX12_costOf_33 : decode cX12_costOf 33 = .ok (.iconst 4, 1) := by decide +kernel
theorem dX12_costOf_34 : decode cX12_costOf 34 = .ok (.iload_n 2, 1) := by decide +kernel
theorem dX12_costOf_35 : decode cX12_costOf 35 = .ok (.imul, 1) := by decide +kernel
theorem dX12_costOf_36 : decode cX12_costOf 36 = .ok (.iadd, 1) := by decide +kernel
theorem dX12_costOf_37 : decode cX12_costOf 37 = .ok (.iload 6, 2) := by decide +kernel
theorem dX12_costOf_39 : decode cX12_costOf 39 = .ok (.iadd, 1) := by decide +kernel
theorem dX12_costOf_40 : decode cX12_costOf 40 = .ok (.baload, 1) := by decide +kernel
theorem dX12_costOf_41 : decode cX12_costOf 41 = .ok (.ifCond .ne 7, 3) := by decide +kernel
theorem dX12_costOf_44 : decode cX12_costOf 44 = .ok (.ldc_w 351, 3) := by decide +kernel
theorem dX12_costOf_47 : decode cX12_costOf 47 = .ok (.ireturn, 1) := by decide +kernel
theorem dX12_costOf_48 : decode cX12_costOf 48 = .ok (.iload 4, 2) := by decide +kernel
theorem dX12_costOf_50 : decode cX12_costOf 50 = .ok (.iconst 2, 1) := by decide +kernel
theorem dX12_costOf_51 : decode cX12_costOf 51 = .ok (.if_icmp .lt 17, 3) := by decide +kernel
theorem dX12_costOf_54 : decode cX12_costOf 54 = .ok (.aload_n 0, 1) := by decide +kernel
theorem dX12_costOf_55 : decode cX12_costOf 55 = .ok (.getfield 51, 3) := by decide +kernel
theorem dX12_costOf_58 : decode cX12_costOf 58 = .ok (.bipush 25, 2) := by decide +kernel
theorem dX12_costOf_60 : decode cX12_costOf 60 = .ok (.iload_n 1, 1) := by decide +kernel
theorem dX12_costOf_61 : decode cX12_costOf 61 = .ok (.imul, 1) := by decide +kernel
theorem dX12_costOf_62 : decode cX12_costOf 62 = .ok (.iload_n 2, 1) := by decide +kernel
theorem dX12_costOf_63 : decode cX12_costOf 63 = .ok (.iadd, 1) := by decide +kernel
theorem dX12_costOf_64 : decode cX12_costOf 64 = .ok (.baload, 1) := by decide +kernel
theorem dX12_costOf_65 : decode cX12_costOf 65 = .ok (.ifCond .eq 5, 3) := by decide +kernel
theorem dX12_costOf_68 : decode cX12_costOf 68 = .ok (.iconst 0, 1) := by decide +kernel
theorem dX12_costOf_69 : decode cX12_costOf 69 = .ok (.ireturn, 1) := by decide +kernel
theorem dX12_costOf_70 : decode cX12_costOf 70 = .ok (.iload 4, 2) := by decide +kernel
theorem dX12_costOf_72 : decode cX12_costOf 72 = .ok (.invokestatic 287, 3) := by decide +kernel
theorem dX12_costOf_75 : decode cX12_costOf 75 = .ok (.iload 5, 2) := by decide +kernel
theorem dX12_costOf_77 : decode cX12_costOf 77 = .ok (.ifCond .eq 22, 3) := by decide +kernel
theorem dX12_costOf_80 : decode cX12_costOf 80 = .ok (.aload_n 0, 1) := by decide +kernel
theorem dX12_costOf_81 : decode cX12_costOf 81 = .ok (.getfield 45, 3) := by decide +kernel
theorem dX12_costOf_84 : decode cX12_costOf 84 = .ok (.bipush 100, 2) := by decide +kernel
theorem dX12_costOf_86 : decode cX12_costOf 86 = .ok (.iload_n 1, 1) := by decide +kernel
theorem dX12_costOf_87 : decode cX12_costOf 87 = .ok (.imul, 1) := by decide +kernel
theorem dX12_costOf_88 : decode cX12_costOf 88 = .ok (.iconst 4, 1) := by decide +kernel
theorem dX12_costOf_89 : decode cX12_costOf 89 = .ok (.iload_n 2, 1) := by decide +kernel
theorem dX12_costOf_90 : decode cX12_costOf 90 = .ok (.imul, 1) := by decide +kernel
theorem dX12_costOf_91 : decode cX12_costOf 91 = .ok (.iadd, 1) := by decide +kernel
theorem dX12_costOf_92 : decode cX12_costOf 92 = .ok (.iload 6, 2) := by decide +kernel
theorem dX12_costOf_94 : decode cX12_costOf 94 = .ok (.iadd, 1) := by decide +kernel
theorem dX12_costOf_95 : decode cX12_costOf 95 = .ok (.iaload, 1) := by decide +kernel
theorem dX12_costOf_96 : decode cX12_costOf 96 = .ok (.goto 4, 3) := by decide +kernel
theorem dX12_costOf_99 : decode cX12_costOf 99 = .ok (.iconst 1, 1) := by decide +kernel
theorem dX12_costOf_100 : decode cX12_costOf 100 = .ok (.imul, 1) := by decide +kernel
theorem dX12_costOf_101 : decode cX12_costOf 101 = .ok (.ireturn, 1) := by decide +kernel
theorem dX12_countsOn_0 : decode cX12_countsOn 0 = .ok (.iconst 0, 1) := by decide +kernel
theorem dX12_countsOn_1 : decode cX12_countsOn 1 = .ok (.istore 4, 2) := by decide +kernel
theorem dX12_countsOn_3 : decode cX12_countsOn 3 = .ok (.iload 4, 2) := by decide +kernel
theorem dX12_countsOn_5 : decode cX12_countsOn 5 = .ok (.iconst 4, 1) := by decide +kernel
theorem dX12_countsOn_6 : decode cX12_countsOn 6 = .ok (.if_icmp .ge 111, 3) := by decide +kernel
theorem dX12_countsOn_9 : decode cX12_countsOn 9 = .ok (.aload_n 0, 1) := by decide +kernel
theorem dX12_countsOn_10 : decode cX12_countsOn 10 = .ok (.iload_n 1, 1) := by decide +kernel
theorem dX12_countsOn_11 : decode cX12_countsOn 11 = .ok (.iload_n 2, 1) := by decide +kernel
theorem dX12_countsOn_12 : decode cX12_countsOn 12 = .ok (.iconst 4, 1) := by decide +kernel
theorem dX12_countsOn_13 : decode cX12_countsOn 13 = .ok (.idiv, 1) := by decide +kernel
theorem dX12_countsOn_14 : decode cX12_countsOn 14 = .ok (.iload_n 2, 1) := by decide +kernel
theorem dX12_countsOn_15 : decode cX12_countsOn 15 = .ok (.iconst 4, 1) := by decide +kernel
theorem dX12_countsOn_16 : decode cX12_countsOn 16 = .ok (.irem, 1) := by decide +kernel
theorem dX12_countsOn_17 : decode cX12_countsOn 17 = .ok (.iload 4, 2) := by decide +kernel
theorem dX12_countsOn_19 : decode cX12_countsOn 19 = .ok (.iconst 0, 1) := by decide +kernel
theorem dX12_countsOn_20 : decode cX12_countsOn 20 = .ok (.invokevirtual 352, 3) := by decide +kernel
theorem dX12_countsOn_23 : decode cX12_countsOn 23 = .ok (.istore 5, 2) := by decide +kernel
theorem dX12_countsOn_25 : decode cX12_countsOn 25 = .ok (.iload 5, 2) := by decide +kernel
theorem dX12_countsOn_27 : decode cX12_countsOn 27 = .ok (.ldc_w 351, 3) := by decide +kernel
theorem dX12_countsOn_30 : decode cX12_countsOn 30 = .ok (.if_icmp .ne 6, 3) := by decide +kernel
theorem dX12_countsOn_33 : decode cX12_countsOn 33 = .ok (.goto 78, 3) := by decide +kernel
theorem dX12_countsOn_36 : decode cX12_countsOn 36 = .ok (.iload_n 2, 1) := by decide +kernel
theorem dX12_countsOn_37 : decode cX12_countsOn 37 = .ok (.iconst 4, 1) := by decide +kernel
theorem dX12_countsOn_38 : decode cX12_countsOn 38 = .ok (.irem, 1) := by decide +kernel
theorem dX12_countsOn_39 : decode cX12_countsOn 39 = .ok (.iload 4, 2) := by decide +kernel
theorem dX12_countsOn_41 : decode cX12_countsOn 41 = .ok (.invokestatic 278, 3) := by decide +kernel
theorem dX12_countsOn_44 : decode cX12_countsOn 44 = .ok (.istore 6, 2) := by decide +kernel
theorem dX12_countsOn_46 : decode cX12_countsOn 46 = .ok (.iconst 4, 1) := by decide +kernel
theorem dX12_countsOn_47 : decode cX12_countsOn 47 = .ok (.aload_n 0, 1) := by decide +kernel
theorem dX12_countsOn_48 : decode cX12_countsOn 48 = .ok (.iload_n 2, 1) := by decide +kernel
theorem dX12_countsOn_49 : decode cX12_countsOn 49 = .ok (.iconst 4, 1) := by decide +kernel
theorem dX12_countsOn_50 : decode cX12_countsOn 50 = .ok (.idiv, 1) := by decide +kernel
theorem dX12_countsOn_51 : decode cX12_countsOn 51 = .ok (.iload 6, 2) := by decide +kernel
theorem dX12_countsOn_53 : decode cX12_countsOn 53 = .ok (.invokevirtual 263, 3) := by decide +kernel
theorem dX12_countsOn_56 : decode cX12_countsOn 56 = .ok (.imul, 1) := by decide +kernel
theorem dX12_countsOn_57 : decode cX12_countsOn 57 = .ok (.iload 6, 2) := by decide +kernel
theorem dX12_countsOn_59 : decode cX12_countsOn 59 = .ok (.iadd, 1) := by decide +kernel
theorem dX12_countsOn_60 : decode cX12_countsOn 60 = .ok (.istore 7, 2) := by decide +kernel
theorem dX12_countsOn_62 : decode cX12_countsOn 62 = .ok (.iconst 0, 1) := by decide +kernel
theorem dX12_countsOn_63 : decode cX12_countsOn 63 = .ok (.istore 8, 2) := by decide +kernel
theorem dX12_countsOn_65 : decode cX12_countsOn 65 = .ok (.iload 8, 2) := by decide +kernel
theorem dX12_countsOn_67 : decode cX12_countsOn 67 = .ok (.iload 5, 2) := by decide +kernel
theorem dX12_countsOn_69 : decode cX12_countsOn 69 = .ok (.iadd, 1) := by decide +kernel
theorem dX12_countsOn_70 : decode cX12_countsOn 70 = .ok (.iload_n 3, 1) := by decide +kernel
theorem dX12_countsOn_71 : decode cX12_countsOn 71 = .ok (.if_icmp .gt 40, 3) := by decide +kernel
theorem dX12_countsOn_74 : decode cX12_countsOn 74 = .ok (.aload_n 0, 1) := by decide +kernel
theorem dX12_countsOn_75 : decode cX12_countsOn 75 = .ok (.getfield 61, 3) := by decide +kernel
theorem dX12_countsOn_78 : decode cX12_countsOn 78 = .ok (.bipush 41, 2) := by decide +kernel
theorem dX12_countsOn_80 : decode cX12_countsOn 80 = .ok (.iload 7, 2) := by decide +kernel
theorem dX12_countsOn_82 : decode cX12_countsOn 82 = .ok (.imul, 1) := by decide +kernel
theorem dX12_countsOn_83 : decode cX12_countsOn 83 = .ok (.iload 8, 2) := by decide +kernel
theorem dX12_countsOn_85 : decode cX12_countsOn 85 = .ok (.iadd, 1) := by decide +kernel
theorem dX12_countsOn_86 : decode cX12_countsOn 86 = .ok (.iload 5, 2) := by decide +kernel
theorem dX12_countsOn_88 : decode cX12_countsOn 88 = .ok (.iadd, 1) := by decide +kernel
theorem dX12_countsOn_89 : decode cX12_countsOn 89 = .ok (.dup2, 1) := by decide +kernel
theorem dX12_countsOn_90 : decode cX12_countsOn 90 = .ok (.laload, 1) := by decide +kernel
theorem dX12_countsOn_91 : decode cX12_countsOn 91 = .ok (.aload_n 0, 1) := by decide +kernel
theorem dX12_countsOn_92 : decode cX12_countsOn 92 = .ok (.getfield 57, 3) := by decide +kernel
theorem dX12_countsOn_95 : decode cX12_countsOn 95 = .ok (.bipush 41, 2) := by decide +kernel
theorem dX12_countsOn_97 : decode cX12_countsOn 97 = .ok (.iload_n 2, 1) := by decide +kernel
theorem dX12_countsOn_98 : decode cX12_countsOn 98 = .ok (.imul, 1) := by decide +kernel
theorem dX12_countsOn_99 : decode cX12_countsOn 99 = .ok (.iload 8, 2) := by decide +kernel
theorem dX12_countsOn_101 : decode cX12_countsOn 101 = .ok (.iadd, 1) := by decide +kernel
theorem dX12_countsOn_102 : decode cX12_countsOn 102 = .ok (.laload, 1) := by decide +kernel
theorem dX12_countsOn_103 : decode cX12_countsOn 103 = .ok (.ladd, 1) := by decide +kernel
theorem dX12_countsOn_104 : decode cX12_countsOn 104 = .ok (.lastore, 1) := by decide +kernel
theorem dX12_countsOn_105 : decode cX12_countsOn 105 = .ok (.iinc 8 1, 3) := by decide +kernel
theorem dX12_countsOn_108 : decode cX12_countsOn 108 = .ok (.goto (-43), 3) := by decide +kernel
theorem dX12_countsOn_111 : decode cX12_countsOn 111 = .ok (.iinc 4 1, 3) := by decide +kernel
theorem dX12_countsOn_114 : decode cX12_countsOn 114 = .ok (.goto (-111), 3) := by decide +kernel
theorem dX12_countsOn_117 : decode cX12_countsOn 117 = .ok (.return_, 1) := by decide +kernel
theorem dX12_enough_0 : decode cX12_enough 0 = .ok (.aload_n 0, 1) := by decide +kernel
theorem dX12_enough_1 : decode cX12_enough 1 = .ok (.iconst 0, 1) := by decide +kernel
theorem dX12_enough_2 : decode cX12_enough 2 = .ok (.putfield 1, 3) := by decide +kernel
theorem dX12_enough_5 : decode cX12_enough 5 = .ok (.aload_n 0, 1) := by decide +kernel
theorem dX12_enough_6 : decode cX12_enough 6 = .ok (.iload_n 1, 1) := by decide +kernel
theorem dX12_enough_7 : decode cX12_enough 7 = .ok (.i2l, 1) := by decide +kernel
theorem dX12_enough_8 : decode cX12_enough 8 = .ok (.invokevirtual 253, 3) := by decide +kernel
theorem dX12_enough_11 : decode cX12_enough 11 = .ok (.ifCond .ne 6, 3) := by decide +kernel
theorem dX12_enough_14 : decode cX12_enough 14 = .ok (.bipush (-2), 2) := by decide +kernel
theorem dX12_enough_16 : decode cX12_enough 16 = .ok (.ireturn, 1) := by decide +kernel
theorem dX12_enough_17 : decode cX12_enough 17 = .ok (.aload_n 0, 1) := by decide +kernel
theorem dX12_enough_18 : decode cX12_enough 18 = .ok (.iload_n 1, 1) := by decide +kernel
theorem dX12_enough_19 : decode cX12_enough 19 = .ok (.bipush 60, 2) := by decide +kernel
theorem dX12_enough_21 : decode cX12_enough 21 = .ok (.iconst 0, 1) := by decide +kernel
theorem dX12_enough_22 : decode cX12_enough 22 = .ok (.invokevirtual 369, 3) := by decide +kernel
theorem dX12_enough_25 : decode cX12_enough 25 = .ok (.iconst 0, 1) := by decide +kernel
theorem dX12_enough_26 : decode cX12_enough 26 = .ok (.istore_n 2, 1) := by decide +kernel
theorem dX12_enough_27 : decode cX12_enough 27 = .ok (.iconst 0, 1) := by decide +kernel
theorem dX12_enough_28 : decode cX12_enough 28 = .ok (.istore_n 3, 1) := by decide +kernel
theorem dX12_enough_29 : decode cX12_enough 29 = .ok (.iload_n 3, 1) := by decide +kernel
theorem dX12_enough_30 : decode cX12_enough 30 = .ok (.aload_n 0, 1) := by decide +kernel
theorem dX12_enough_31 : decode cX12_enough 31 = .ok (.invokevirtual 233, 3) := by decide +kernel
theorem dX12_enough_34 : decode cX12_enough 34 = .ok (.if_icmp .ge 39, 3) := by decide +kernel
theorem dX12_enough_37 : decode cX12_enough 37 = .ok (.aload_n 0, 1) := by decide +kernel
theorem dX12_enough_38 : decode cX12_enough 38 = .ok (.iload_n 3, 1) := by decide +kernel
theorem dX12_enough_39 : decode cX12_enough 39 = .ok (.bipush 60, 2) := by decide +kernel
theorem dX12_enough_41 : decode cX12_enough 41 = .ok (.invokevirtual 398, 3) := by decide +kernel
theorem dX12_enough_44 : decode cX12_enough 44 = .ok (.istore 4, 2) := by decide +kernel
theorem dX12_enough_46 : decode cX12_enough 46 = .ok (.iload 4, 2) := by decide +kernel
theorem dX12_enough_48 : decode cX12_enough 48 = .ok (.ldc_w 351, 3) := by decide +kernel
theorem dX12_enough_51 : decode cX12_enough 51 = .ok (.if_icmp .eq 14, 3) := by decide +kernel
theorem dX12_enough_54 : decode cX12_enough 54 = .ok (.iload 4, 2) := by decide +kernel
theorem dX12_enough_56 : decode cX12_enough 56 = .ok (.iload_n 2, 1) := by decide +kernel
theorem dX12_enough_57 : decode cX12_enough 57 = .ok (.if_icmp .le 8, 3) := by decide +kernel
theorem dX12_enough_60 : decode cX12_enough 60 = .ok (.iload 4, 2) := by decide +kernel
theorem dX12_enough_62 : decode cX12_enough 62 = .ok (.goto 4, 3) := by decide +kernel
theorem dX12_enough_65 : decode cX12_enough 65 = .ok (.iload_n 2, 1) := by decide +kernel
theorem dX12_enough_66 : decode cX12_enough 66 = .ok (.istore_n 2, 1) := by decide +kernel
theorem dX12_enough_67 : decode cX12_enough 67 = .ok (.iinc 3 1, 3) := by decide +kernel
theorem dX12_enough_70 : decode cX12_enough 70 = .ok (.goto (-41), 3) := by decide +kernel
theorem dX12_enough_73 : decode cX12_enough 73 = .ok (.iload_n 2, 1) := by decide +kernel
theorem dX12_enough_74 : decode cX12_enough 74 = .ok (.ireturn, 1) := by decide +kernel
theorem dX12_fewest_0 : decode cX12_fewest 0 = .ok (.aload_n 0, 1) := by decide +kernel
theorem dX12_fewest_1 : decode cX12_fewest 1 = .ok (.iconst 0, 1) := by decide +kernel
theorem dX12_fewest_2 : decode cX12_fewest 2 = .ok (.putfield 1, 3) := by decide +kernel
theorem dX12_fewest_5 : decode cX12_fewest 5 = .ok (.aload_n 0, 1) := by decide +kernel
theorem dX12_fewest_6 : decode cX12_fewest 6 = .ok (.iload_n 1, 1) := by decide +kernel
theorem dX12_fewest_7 : decode cX12_fewest 7 = .ok (.iload_n 2, 1) := by decide +kernel
theorem dX12_fewest_8 : decode cX12_fewest 8 = .ok (.invokevirtual 376, 3) := by decide +kernel
theorem dX12_fewest_11 : decode cX12_fewest 11 = .ok (.ifCond .ne 6, 3) := by decide +kernel
theorem dX12_fewest_14 : decode cX12_fewest 14 = .ok (.bipush (-2), 2) := by decide +kernel
theorem dX12_fewest_16 : decode cX12_fewest 16 = .ok (.ireturn, 1) := by decide +kernel
theorem dX12_fewest_17 : decode cX12_fewest 17 = .ok (.iload_n 3, 1) := by decide +kernel
theorem dX12_fewest_18 : decode cX12_fewest 18 = .ok (.i2l, 1) := by decide +kernel
theorem dX12_fewest_19 : decode cX12_fewest 19 = .ok (.lconst 0, 1) := by decide +kernel
theorem dX12_fewest_20 : decode cX12_fewest 20 = .ok (.ldc2_w 342, 3) := by decide +kernel
theorem dX12_fewest_23 : decode cX12_fewest 23 = .ok (.invokestatic 161, 3) := by decide +kernel
theorem dX12_fewest_26 : decode cX12_fewest 26 = .ok (.ifCond .ne 6, 3) := by decide +kernel
theorem dX12_fewest_29 : decode cX12_fewest 29 = .ok (.bipush (-3), 2) := by decide +kernel
theorem dX12_fewest_31 : decode cX12_fewest 31 = .ok (.ireturn, 1) := by decide +kernel
theorem dX12_fewest_32 : decode cX12_fewest 32 = .ok (.aload_n 0, 1) := by decide +kernel
theorem dX12_fewest_33 : decode cX12_fewest 33 = .ok (.iload_n 1, 1) := by decide +kernel
theorem dX12_fewest_34 : decode cX12_fewest 34 = .ok (.iload_n 3, 1) := by decide +kernel
theorem dX12_fewest_35 : decode cX12_fewest 35 = .ok (.iconst 0, 1) := by decide +kernel
theorem dX12_fewest_36 : decode cX12_fewest 36 = .ok (.invokevirtual 369, 3) := by decide +kernel
theorem dX12_fewest_39 : decode cX12_fewest 39 = .ok (.aload_n 0, 1) := by decide +kernel
theorem dX12_fewest_40 : decode cX12_fewest 40 = .ok (.iload_n 2, 1) := by decide +kernel
theorem dX12_fewest_41 : decode cX12_fewest 41 = .ok (.iload_n 3, 1) := by decide +kernel
theorem dX12_fewest_42 : decode cX12_fewest 42 = .ok (.invokevirtual 398, 3) := by decide +kernel
theorem dX12_fewest_45 : decode cX12_fewest 45 = .ok (.invokestatic 401, 3) := by decide +kernel
theorem dX12_fewest_48 : decode cX12_fewest 48 = .ok (.ireturn, 1) := by decide +kernel
theorem dX12_laysFor_0 : decode cX12_laysFor 0 = .ok (.aload_n 0, 1) := by decide +kernel
theorem dX12_laysFor_1 : decode cX12_laysFor 1 = .ok (.iconst 0, 1) := by decide +kernel
theorem dX12_laysFor_2 : decode cX12_laysFor 2 = .ok (.putfield 348, 3) := by decide +kernel
theorem dX12_laysFor_5 : decode cX12_laysFor 5 = .ok (.aload_n 0, 1) := by decide +kernel
theorem dX12_laysFor_6 : decode cX12_laysFor 6 = .ok (.iload_n 2, 1) := by decide +kernel
theorem dX12_laysFor_7 : decode cX12_laysFor 7 = .ok (.invokevirtual 362, 3) := by decide +kernel
theorem dX12_laysFor_10 : decode cX12_laysFor 10 = .ok (.aload_n 0, 1) := by decide +kernel
theorem dX12_laysFor_11 : decode cX12_laysFor 11 = .ok (.aload_n 0, 1) := by decide +kernel
theorem dX12_laysFor_12 : decode cX12_laysFor 12 = .ok (.getfield 13, 3) := by decide +kernel
theorem dX12_laysFor_15 : decode cX12_laysFor 15 = .ok (.bipush 36, 2) := by decide +kernel
theorem dX12_laysFor_17 : decode cX12_laysFor 17 = .ok (.iload_n 1, 1) := by decide +kernel
theorem dX12_laysFor_18 : decode cX12_laysFor 18 = .ok (.iadd, 1) := by decide +kernel
theorem dX12_laysFor_19 : decode cX12_laysFor 19 = .ok (.iaload, 1) := by decide +kernel
theorem dX12_laysFor_20 : decode cX12_laysFor 20 = .ok (.aload_n 0, 1) := by decide +kernel
theorem dX12_laysFor_21 : decode cX12_laysFor 21 = .ok (.getfield 13, 3) := by decide +kernel
theorem dX12_laysFor_24 : decode cX12_laysFor 24 = .ok (.bipush 41, 2) := by decide +kernel
theorem dX12_laysFor_26 : decode cX12_laysFor 26 = .ok (.iload_n 1, 1) := by decide +kernel
theorem dX12_laysFor_27 : decode cX12_laysFor 27 = .ok (.iadd, 1) := by decide +kernel
theorem dX12_laysFor_28 : decode cX12_laysFor 28 = .ok (.iaload, 1) := by decide +kernel
theorem dX12_laysFor_29 : decode cX12_laysFor 29 = .ok (.iload_n 2, 1) := by decide +kernel
theorem dX12_laysFor_30 : decode cX12_laysFor 30 = .ok (.iload_n 3, 1) := by decide +kernel
theorem dX12_laysFor_31 : decode cX12_laysFor 31 = .ok (.invokevirtual 365, 3) := by decide +kernel
theorem dX12_laysFor_34 : decode cX12_laysFor 34 = .ok (.return_, 1) := by decide +kernel
theorem dX12_laysLaws_0 : decode cX12_laysLaws 0 = .ok (.iconst 0, 1) := by decide +kernel
theorem dX12_laysLaws_1 : decode cX12_laysLaws 1 = .ok (.istore_n 2, 1) := by decide +kernel
theorem dX12_laysLaws_2 : decode cX12_laysLaws 2 = .ok (.iload_n 2, 1) := by decide +kernel
theorem dX12_laysLaws_3 : decode cX12_laysLaws 3 = .ok (.iload_n 1, 1) := by decide +kernel
theorem dX12_laysLaws_4 : decode cX12_laysLaws 4 = .ok (.if_icmp .gt 120, 3) := by decide +kernel
theorem dX12_laysLaws_7 : decode cX12_laysLaws 7 = .ok (.iconst 0, 1) := by decide +kernel
theorem dX12_laysLaws_8 : decode cX12_laysLaws 8 = .ok (.istore_n 3, 1) := by decide +kernel
theorem dX12_laysLaws_9 : decode cX12_laysLaws 9 = .ok (.iload_n 3, 1) := by decide +kernel
theorem dX12_laysLaws_10 : decode cX12_laysLaws 10 = .ok (.aload_n 0, 1) := by decide +kernel
theorem dX12_laysLaws_11 : decode cX12_laysLaws 11 = .ok (.invokevirtual 233, 3) := by decide +kernel
theorem dX12_laysLaws_14 : decode cX12_laysLaws 14 = .ok (.if_icmp .ge 104, 3) := by decide +kernel
theorem dX12_laysLaws_17 : decode cX12_laysLaws 17 = .ok (.aload_n 0, 1) := by decide +kernel
theorem dX12_laysLaws_18 : decode cX12_laysLaws 18 = .ok (.getfield 51, 3) := by decide +kernel
theorem dX12_laysLaws_21 : decode cX12_laysLaws 21 = .ok (.bipush 25, 2) := by decide +kernel
theorem dX12_laysLaws_23 : decode cX12_laysLaws 23 = .ok (.iload_n 2, 1) := by decide +kernel
theorem dX12_laysLaws_24 : decode cX12_laysLaws 24 = .ok (.imul, 1) := by decide +kernel
theorem dX12_laysLaws_25 : decode cX12_laysLaws 25 = .ok (.iload_n 3, 1) := by decide +kernel
theorem dX12_laysLaws_26 : decode cX12_laysLaws 26 = .ok (.iadd, 1) := by decide +kernel
theorem dX12_laysLaws_27 : decode cX12_laysLaws 27 = .ok (.aload_n 0, 1) := by decide +kernel
theorem dX12_laysLaws_28 : decode cX12_laysLaws 28 = .ok (.iload_n 3, 1) := by decide +kernel
theorem dX12_laysLaws_29 : decode cX12_laysLaws 29 = .ok (.aload_n 0, 1) := by decide +kernel
theorem dX12_laysLaws_30 : decode cX12_laysLaws 30 = .ok (.getfield 348, 3) := by decide +kernel
theorem dX12_laysLaws_33 : decode cX12_laysLaws 33 = .ok (.iload_n 2, 1) := by decide +kernel
theorem dX12_laysLaws_34 : decode cX12_laysLaws 34 = .ok (.iadd, 1) := by decide +kernel
theorem dX12_laysLaws_35 : decode cX12_laysLaws 35 = .ok (.invokevirtual 269, 3) := by decide +kernel
theorem dX12_laysLaws_38 : decode cX12_laysLaws 38 = .ok (.bastore, 1) := by decide +kernel
theorem dX12_laysLaws_39 : decode cX12_laysLaws 39 = .ok (.iconst 0, 1) := by decide +kernel
theorem dX12_laysLaws_40 : decode cX12_laysLaws 40 = .ok (.istore 4, 2) := by decide +kernel
theorem dX12_laysLaws_42 : decode cX12_laysLaws 42 = .ok (.iload 4, 2) := by decide +kernel
theorem dX12_laysLaws_44 : decode cX12_laysLaws 44 = .ok (.iconst 4, 1) := by decide +kernel
theorem dX12_laysLaws_45 : decode cX12_laysLaws 45 = .ok (.if_icmp .ge 67, 3) := by decide +kernel
theorem dX12_laysLaws_48 : decode cX12_laysLaws 48 = .ok (.aload_n 0, 1) := by decide +kernel
theorem dX12_laysLaws_49 : decode cX12_laysLaws 49 = .ok (.getfield 48, 3) := by decide +kernel
theorem dX12_laysLaws_52 : decode cX12_laysLaws 52 = .ok (.bipush 100, 2) := by decide +kernel
theorem dX12_laysLaws_54 : decode cX12_laysLaws 54 = .ok (.iload_n 2, 1) := by decide +kernel
theorem dX12_laysLaws_55 : decode cX12_laysLaws 55 = .ok (.imul, 1) := by decide +kernel
theorem dX12_laysLaws_56 : decode cX12_laysLaws 56 = .ok (.iconst 4, 1) := by decide +kernel
theorem dX12_laysLaws_57 : decode cX12_laysLaws 57 = .ok (.iload_n 3, 1) := by decide +kernel
theorem dX12_laysLaws_58 : decode cX12_laysLaws 58 = .ok (.imul, 1) := by decide +kernel
theorem dX12_laysLaws_59 : decode cX12_laysLaws 59 = .ok (.iadd, 1) := by decide +kernel
theorem dX12_laysLaws_60 : decode cX12_laysLaws 60 = .ok (.iload 4, 2) := by decide +kernel
theorem dX12_laysLaws_62 : decode cX12_laysLaws 62 = .ok (.iadd, 1) := by decide +kernel
theorem dX12_laysLaws_63 : decode cX12_laysLaws 63 = .ok (.aload_n 0, 1) := by decide +kernel
theorem dX12_laysLaws_64 : decode cX12_laysLaws 64 = .ok (.iload_n 3, 1) := by decide +kernel
theorem dX12_laysLaws_65 : decode cX12_laysLaws 65 = .ok (.aload_n 0, 1) := by decide +kernel
theorem dX12_laysLaws_66 : decode cX12_laysLaws 66 = .ok (.getfield 348, 3) := by decide +kernel
theorem dX12_laysLaws_69 : decode cX12_laysLaws 69 = .ok (.iload_n 2, 1) := by decide +kernel
theorem dX12_laysLaws_70 : decode cX12_laysLaws 70 = .ok (.iadd, 1) := by decide +kernel
theorem dX12_laysLaws_71 : decode cX12_laysLaws 71 = .ok (.iload 4, 2) := by decide +kernel
theorem dX12_laysLaws_73 : decode cX12_laysLaws 73 = .ok (.invokevirtual 283, 3) := by decide +kernel
theorem dX12_laysLaws_76 : decode cX12_laysLaws 76 = .ok (.bastore, 1) := by decide +kernel
theorem dX12_laysLaws_77 : decode cX12_laysLaws 77 = .ok (.aload_n 0, 1) := by decide +kernel
theorem dX12_laysLaws_78 : decode cX12_laysLaws 78 = .ok (.getfield 45, 3) := by decide +kernel
theorem dX12_laysLaws_81 : decode cX12_laysLaws 81 = .ok (.bipush 100, 2) := by decide +kernel
theorem dX12_laysLaws_83 : decode cX12_laysLaws 83 = .ok (.iload_n 2, 1) := by decide +kernel
theorem dX12_laysLaws_84 : decode cX12_laysLaws 84 = .ok (.imul, 1) := by decide +kernel
theorem dX12_laysLaws_85 : decode cX12_laysLaws 85 = .ok (.iconst 4, 1) := by decide +kernel
theorem dX12_laysLaws_86 : decode cX12_laysLaws 86 = .ok (.iload_n 3, 1) := by decide +kernel
theorem dX12_laysLaws_87 : decode cX12_laysLaws 87 = .ok (.imul, 1) := by decide +kernel
theorem dX12_laysLaws_88 : decode cX12_laysLaws 88 = .ok (.iadd, 1) := by decide +kernel
theorem dX12_laysLaws_89 : decode cX12_laysLaws 89 = .ok (.iload 4, 2) := by decide +kernel
theorem dX12_laysLaws_91 : decode cX12_laysLaws 91 = .ok (.iadd, 1) := by decide +kernel
theorem dX12_laysLaws_92 : decode cX12_laysLaws 92 = .ok (.aload_n 0, 1) := by decide +kernel
theorem dX12_laysLaws_93 : decode cX12_laysLaws 93 = .ok (.iload_n 3, 1) := by decide +kernel
theorem dX12_laysLaws_94 : decode cX12_laysLaws 94 = .ok (.aload_n 0, 1) := by decide +kernel
theorem dX12_laysLaws_95 : decode cX12_laysLaws 95 = .ok (.getfield 348, 3) := by decide +kernel
theorem dX12_laysLaws_98 : decode cX12_laysLaws 98 = .ok (.iload_n 2, 1) := by decide +kernel
theorem dX12_laysLaws_99 : decode cX12_laysLaws 99 = .ok (.iadd, 1) := by decide +kernel
theorem dX12_laysLaws_100 : decode cX12_laysLaws 100 = .ok (.iload 4, 2) := by decide +kernel
theorem dX12_laysLaws_102 : decode cX12_laysLaws 102 = .ok (.invokevirtual 266, 3) := by decide +kernel
theorem dX12_laysLaws_105 : decode cX12_laysLaws 105 = .ok (.iastore, 1) := by decide +kernel
theorem dX12_laysLaws_106 : decode cX12_laysLaws 106 = .ok (.iinc 4 1, 3) := by decide +kernel
theorem dX12_laysLaws_109 : decode cX12_laysLaws 109 = .ok (.goto (-67), 3) := by decide +kernel
theorem dX12_laysLaws_112 : decode cX12_laysLaws 112 = .ok (.iinc 3 1, 3) := by decide +kernel
theorem dX12_laysLaws_115 : decode cX12_laysLaws 115 = .ok (.goto (-106), 3) := by decide +kernel
theorem dX12_laysLaws_118 : decode cX12_laysLaws 118 = .ok (.iinc 2 1, 3) := by decide +kernel
theorem dX12_laysLaws_121 : decode cX12_laysLaws 121 = .ok (.goto (-119), 3) := by decide +kernel
theorem dX12_laysLaws_124 : decode cX12_laysLaws 124 = .ok (.return_, 1) := by decide +kernel
theorem dX12_laysSofar_0 : decode cX12_laysSofar 0 = .ok (.iconst 0, 1) := by decide +kernel
theorem dX12_laysSofar_1 : decode cX12_laysSofar 1 = .ok (.istore 5, 2) := by decide +kernel
theorem dX12_laysSofar_3 : decode cX12_laysSofar 3 = .ok (.iload 5, 2) := by decide +kernel
theorem dX12_laysSofar_5 : decode cX12_laysSofar 5 = .ok (.bipush 100, 2) := by decide +kernel
theorem dX12_laysSofar_7 : decode cX12_laysSofar 7 = .ok (.iload_n 3, 1) := by decide +kernel
theorem dX12_laysSofar_8 : decode cX12_laysSofar 8 = .ok (.iconst 1, 1) := by decide +kernel
theorem dX12_laysSofar_9 : decode cX12_laysSofar 9 = .ok (.iadd, 1) := by decide +kernel
theorem dX12_laysSofar_10 : decode cX12_laysSofar 10 = .ok (.imul, 1) := by decide +kernel
theorem dX12_laysSofar_11 : decode cX12_laysSofar 11 = .ok (.if_icmp .ge 19, 3) := by decide +kernel
theorem dX12_laysSofar_14 : decode cX12_laysSofar 14 = .ok (.aload_n 0, 1) := by decide +kernel
theorem dX12_laysSofar_15 : decode cX12_laysSofar 15 = .ok (.getfield 39, 3) := by decide +kernel
theorem dX12_laysSofar_18 : decode cX12_laysSofar 18 = .ok (.iload 5, 2) := by decide +kernel
theorem dX12_laysSofar_20 : decode cX12_laysSofar 20 = .ok (.ldc_w 351, 3) := by decide +kernel
theorem dX12_laysSofar_23 : decode cX12_laysSofar 23 = .ok (.iastore, 1) := by decide +kernel
theorem dX12_laysSofar_24 : decode cX12_laysSofar 24 = .ok (.iinc 5 1, 3) := by decide +kernel
theorem dX12_laysSofar_27 : decode cX12_laysSofar 27 = .ok (.goto (-24), 3) := by decide +kernel
theorem dX12_laysSofar_30 : decode cX12_laysSofar 30 = .ok (.aload_n 0, 1) := by decide +kernel
theorem dX12_laysSofar_31 : decode cX12_laysSofar 31 = .ok (.getfield 39, 3) := by decide +kernel
theorem dX12_laysSofar_34 : decode cX12_laysSofar 34 = .ok (.iconst 4, 1) := by decide +kernel
theorem dX12_laysSofar_35 : decode cX12_laysSofar 35 = .ok (.iload_n 1, 1) := by decide +kernel
theorem dX12_laysSofar_36 : decode cX12_laysSofar 36 = .ok (.imul, 1) := by decide +kernel
theorem dX12_laysSofar_37 : decode cX12_laysSofar 37 = .ok (.iload_n 2, 1) := by decide +kernel
theorem dX12_laysSofar_38 : decode cX12_laysSofar 38 = .ok (.iadd, 1) := by decide +kernel
theorem dX12_laysSofar_39 : decode cX12_laysSofar 39 = .ok (.iconst 0, 1) := by decide +kernel
theorem dX12_laysSofar_40 : decode cX12_laysSofar 40 = .ok (.iastore, 1) := by decide +kernel
theorem dX12_laysSofar_41 : decode cX12_laysSofar 41 = .ok (.iconst 0, 1) := by decide +kernel
theorem dX12_laysSofar_42 : decode cX12_laysSofar 42 = .ok (.istore 5, 2) := by decide +kernel
theorem dX12_laysSofar_44 : decode cX12_laysSofar 44 = .ok (.iload 5, 2) := by decide +kernel
theorem dX12_laysSofar_46 : decode cX12_laysSofar 46 = .ok (.iload_n 3, 1) := by decide +kernel
theorem dX12_laysSofar_47 : decode cX12_laysSofar 47 = .ok (.if_icmp .ge 166, 3) := by decide +kernel
theorem dX12_laysSofar_50 : decode cX12_laysSofar 50 = .ok (.iconst 0, 1) := by decide +kernel
theorem dX12_laysSofar_51 : decode cX12_laysSofar 51 = .ok (.istore 6, 2) := by decide +kernel
theorem dX12_laysSofar_53 : decode cX12_laysSofar 53 = .ok (.iload 6, 2) := by decide +kernel
theorem dX12_laysSofar_55 : decode cX12_laysSofar 55 = .ok (.iconst 4, 1) := by decide +kernel
theorem dX12_laysSofar_56 : decode cX12_laysSofar 56 = .ok (.aload_n 0, 1) := by decide +kernel
theorem dX12_laysSofar_57 : decode cX12_laysSofar 57 = .ok (.invokevirtual 233, 3) := by decide +kernel
theorem dX12_laysSofar_60 : decode cX12_laysSofar 60 = .ok (.imul, 1) := by decide +kernel
theorem dX12_laysSofar_61 : decode cX12_laysSofar 61 = .ok (.if_icmp .ge 146, 3) := by decide +kernel
theorem dX12_laysSofar_64 : decode cX12_laysSofar 64 = .ok (.aload_n 0, 1) := by decide +kernel
theorem dX12_laysSofar_65 : decode cX12_laysSofar 65 = .ok (.getfield 39, 3) := by decide +kernel
theorem dX12_laysSofar_68 : decode cX12_laysSofar 68 = .ok (.bipush 100, 2) := by decide +kernel
theorem dX12_laysSofar_70 : decode cX12_laysSofar 70 = .ok (.iload 5, 2) := by decide +kernel
theorem dX12_laysSofar_72 : decode cX12_laysSofar 72 = .ok (.imul, 1) := by decide +kernel
theorem dX12_laysSofar_73 : decode cX12_laysSofar 73 = .ok (.iload 6, 2) := by decide +kernel
theorem dX12_laysSofar_75 : decode cX12_laysSofar 75 = .ok (.iadd, 1) := by decide +kernel
theorem dX12_laysSofar_76 : decode cX12_laysSofar 76 = .ok (.iaload, 1) := by decide +kernel
theorem dX12_laysSofar_77 : decode cX12_laysSofar 77 = .ok (.ldc_w 351, 3) := by decide +kernel
theorem dX12_laysSofar_80 : decode cX12_laysSofar 80 = .ok (.if_icmp .ne 6, 3) := by decide +kernel
theorem dX12_laysSofar_83 : decode cX12_laysSofar 83 = .ok (.goto 118, 3) := by decide +kernel
theorem dX12_laysSofar_86 : decode cX12_laysSofar 86 = .ok (.iconst 0, 1) := by decide +kernel
theorem dX12_laysSofar_87 : decode cX12_laysSofar 87 = .ok (.istore 7, 2) := by decide +kernel
theorem dX12_laysSofar_89 : decode cX12_laysSofar 89 = .ok (.iload 7, 2) := by decide +kernel
theorem dX12_laysSofar_91 : decode cX12_laysSofar 91 = .ok (.iconst 4, 1) := by decide +kernel
theorem dX12_laysSofar_92 : decode cX12_laysSofar 92 = .ok (.if_icmp .ge 109, 3) := by decide +kernel
theorem dX12_laysSofar_95 : decode cX12_laysSofar 95 = .ok (.aload_n 0, 1) := by decide +kernel
theorem dX12_laysSofar_96 : decode cX12_laysSofar 96 = .ok (.iload 5, 2) := by decide +kernel
theorem dX12_laysSofar_98 : decode cX12_laysSofar 98 = .ok (.iload 6, 2) := by decide +kernel
theorem dX12_laysSofar_100 : decode cX12_laysSofar 100 = .ok (.iconst 4, 1) := by decide +kernel
theorem dX12_laysSofar_101 : decode cX12_laysSofar 101 = .ok (.idiv, 1) := by decide +kernel
theorem dX12_laysSofar_102 : decode cX12_laysSofar 102 = .ok (.iload 6, 2) := by decide +kernel
theorem dX12_laysSofar_104 : decode cX12_laysSofar 104 = .ok (.iconst 4, 1) := by decide +kernel
theorem dX12_laysSofar_105 : decode cX12_laysSofar 105 = .ok (.irem, 1) := by decide +kernel
theorem dX12_laysSofar_106 : decode cX12_laysSofar 106 = .ok (.iload 7, 2) := by decide +kernel
theorem dX12_laysSofar_108 : decode cX12_laysSofar 108 = .ok (.iload 4, 2) := by decide +kernel
theorem dX12_laysSofar_110 : decode cX12_laysSofar 110 = .ok (.invokevirtual 352, 3) := by decide +kernel
theorem dX12_laysSofar_113 : decode cX12_laysSofar 113 = .ok (.istore 8, 2) := by decide +kernel
theorem dX12_laysSofar_115 : decode cX12_laysSofar 115 = .ok (.iload 8, 2) := by decide +kernel
theorem dX12_laysSofar_117 : decode cX12_laysSofar 117 = .ok (.ldc_w 351, 3) := by decide +kernel
theorem dX12_laysSofar_120 : decode cX12_laysSofar 120 = .ok (.if_icmp .ne 6, 3) := by decide +kernel
theorem dX12_laysSofar_123 : decode cX12_laysSofar 123 = .ok (.goto 72, 3) := by decide +kernel
theorem dX12_laysSofar_126 : decode cX12_laysSofar 126 = .ok (.iload 6, 2) := by decide +kernel
theorem dX12_laysSofar_128 : decode cX12_laysSofar 128 = .ok (.iconst 4, 1) := by decide +kernel
theorem dX12_laysSofar_129 : decode cX12_laysSofar 129 = .ok (.irem, 1) := by decide +kernel
theorem dX12_laysSofar_130 : decode cX12_laysSofar 130 = .ok (.iload 7, 2) := by decide +kernel
theorem dX12_laysSofar_132 : decode cX12_laysSofar 132 = .ok (.invokestatic 278, 3) := by decide +kernel
theorem dX12_laysSofar_135 : decode cX12_laysSofar 135 = .ok (.istore 9, 2) := by decide +kernel
theorem dX12_laysSofar_137 : decode cX12_laysSofar 137 = .ok (.bipush 100, 2) := by decide +kernel
theorem dX12_laysSofar_139 : decode cX12_laysSofar 139 = .ok (.iload 5, 2) := by decide +kernel
theorem dX12_laysSofar_141 : decode cX12_laysSofar 141 = .ok (.iconst 1, 1) := by decide +kernel
theorem dX12_laysSofar_142 : decode cX12_laysSofar 142 = .ok (.iadd, 1) := by decide +kernel
theorem dX12_laysSofar_143 : decode cX12_laysSofar 143 = .ok (.imul, 1) := by decide +kernel
theorem dX12_laysSofar_144 : decode cX12_laysSofar 144 = .ok (.iconst 4, 1) := by decide +kernel
theorem dX12_laysSofar_145 : decode cX12_laysSofar 145 = .ok (.aload_n 0, 1) := by decide +kernel
theorem dX12_laysSofar_146 : decode cX12_laysSofar 146 = .ok (.iload 6, 2) := by decide +kernel
theorem dX12_laysSofar_148 : decode cX12_laysSofar 148 = .ok (.iconst 4, 1) := by decide +kernel
theorem dX12_laysSofar_149 : decode cX12_laysSofar 149 = .ok (.idiv, 1) := by decide +kernel
theorem dX12_laysSofar_150 : decode cX12_laysSofar 150 = .ok (.iload 9, 2) := by decide +kernel
theorem dX12_laysSofar_152 : decode cX12_laysSofar 152 = .ok (.invokevirtual 263, 3) := by decide +kernel
theorem dX12_laysSofar_155 : decode cX12_laysSofar 155 = .ok (.imul, 1) := by decide +kernel
theorem dX12_laysSofar_156 : decode cX12_laysSofar 156 = .ok (.iadd, 1) := by decide +kernel
theorem dX12_laysSofar_157 : decode cX12_laysSofar 157 = .ok (.iload 9, 2) := by decide +kernel
theorem dX12_laysSofar_159 : decode cX12_laysSofar 159 = .ok (.iadd, 1) := by decide +kernel
theorem dX12_laysSofar_160 : decode cX12_laysSofar 160 = .ok (.istore 10, 2) := by decide +kernel
theorem dX12_laysSofar_162 : decode cX12_laysSofar 162 = .ok (.aload_n 0, 1) := by decide +kernel
theorem dX12_laysSofar_163 : decode cX12_laysSofar 163 = .ok (.getfield 39, 3) := by decide +kernel
theorem dX12_laysSofar_166 : decode cX12_laysSofar 166 = .ok (.iload 10, 2) := by decide +kernel
theorem dX12_laysSofar_168 : decode cX12_laysSofar 168 = .ok (.aload_n 0, 1) := by decide +kernel
theorem dX12_laysSofar_169 : decode cX12_laysSofar 169 = .ok (.getfield 39, 3) := by decide +kernel
theorem dX12_laysSofar_172 : decode cX12_laysSofar 172 = .ok (.iload 10, 2) := by decide +kernel
theorem dX12_laysSofar_174 : decode cX12_laysSofar 174 = .ok (.iaload, 1) := by decide +kernel
theorem dX12_laysSofar_175 : decode cX12_laysSofar 175 = .ok (.aload_n 0, 1) := by decide +kernel
theorem dX12_laysSofar_176 : decode cX12_laysSofar 176 = .ok (.getfield 39, 3) := by decide +kernel
theorem dX12_laysSofar_179 : decode cX12_laysSofar 179 = .ok (.bipush 100, 2) := by decide +kernel
theorem dX12_laysSofar_181 : decode cX12_laysSofar 181 = .ok (.iload 5, 2) := by decide +kernel
theorem dX12_laysSofar_183 : decode cX12_laysSofar 183 = .ok (.imul, 1) := by decide +kernel
theorem dX12_laysSofar_184 : decode cX12_laysSofar 184 = .ok (.iload 6, 2) := by decide +kernel
theorem dX12_laysSofar_186 : decode cX12_laysSofar 186 = .ok (.iadd, 1) := by decide +kernel
theorem dX12_laysSofar_187 : decode cX12_laysSofar 187 = .ok (.iaload, 1) := by decide +kernel
theorem dX12_laysSofar_188 : decode cX12_laysSofar 188 = .ok (.iload 8, 2) := by decide +kernel
theorem dX12_laysSofar_190 : decode cX12_laysSofar 190 = .ok (.iadd, 1) := by decide +kernel
theorem dX12_laysSofar_191 : decode cX12_laysSofar 191 = .ok (.invokestatic 294, 3) := by decide +kernel
theorem dX12_laysSofar_194 : decode cX12_laysSofar 194 = .ok (.iastore, 1) := by decide +kernel
theorem dX12_laysSofar_195 : decode cX12_laysSofar 195 = .ok (.iinc 7 1, 3) := by decide +kernel
theorem dX12_laysSofar_198 : decode cX12_laysSofar 198 = .ok (.goto (-109), 3) := by decide +kernel
theorem dX12_laysSofar_201 : decode cX12_laysSofar 201 = .ok (.iinc 6 1, 3) := by decide +kernel
theorem dX12_laysSofar_204 : decode cX12_laysSofar 204 = .ok (.goto (-151), 3) := by decide +kernel
theorem dX12_laysSofar_207 : decode cX12_laysSofar 207 = .ok (.iinc 5 1, 3) := by decide +kernel
theorem dX12_laysSofar_210 : decode cX12_laysSofar 210 = .ok (.goto (-166), 3) := by decide +kernel
theorem dX12_laysSofar_213 : decode cX12_laysSofar 213 = .ok (.return_, 1) := by decide +kernel
theorem dX12_laysStill_0 : decode cX12_laysStill 0 = .ok (.iconst 0, 1) := by decide +kernel
theorem dX12_laysStill_1 : decode cX12_laysStill 1 = .ok (.istore_n 3, 1) := by decide +kernel
theorem dX12_laysStill_2 : decode cX12_laysStill 2 = .ok (.iload_n 3, 1) := by decide +kernel
theorem dX12_laysStill_3 : decode cX12_laysStill 3 = .ok (.iconst 4, 1) := by decide +kernel
theorem dX12_laysStill_4 : decode cX12_laysStill 4 = .ok (.aload_n 0, 1) := by decide +kernel
theorem dX12_laysStill_5 : decode cX12_laysStill 5 = .ok (.invokevirtual 233, 3) := by decide +kernel
theorem dX12_laysStill_8 : decode cX12_laysStill 8 = .ok (.imul, 1) := by decide +kernel
theorem dX12_laysStill_9 : decode cX12_laysStill 9 = .ok (.if_icmp .ge 34, 3) := by decide +kernel
theorem dX12_laysStill_12 : decode cX12_laysStill 12 = .ok (.aload_n 0, 1) := by decide +kernel
theorem dX12_laysStill_13 : decode cX12_laysStill 13 = .ok (.getfield 42, 3) := by decide +kernel
theorem dX12_laysStill_16 : decode cX12_laysStill 16 = .ok (.bipush 100, 2) := by decide +kernel
theorem dX12_laysStill_18 : decode cX12_laysStill 18 = .ok (.iload_n 2, 1) := by decide +kernel
theorem dX12_laysStill_19 : decode cX12_laysStill 19 = .ok (.imul, 1) := by decide +kernel
theorem dX12_laysStill_20 : decode cX12_laysStill 20 = .ok (.iload_n 3, 1) := by decide +kernel
theorem dX12_laysStill_21 : decode cX12_laysStill 21 = .ok (.iadd, 1) := by decide +kernel
theorem dX12_laysStill_22 : decode cX12_laysStill 22 = .ok (.iload_n 3, 1) := by decide +kernel
theorem dX12_laysStill_23 : decode cX12_laysStill 23 = .ok (.iconst 4, 1) := by decide +kernel
theorem dX12_laysStill_24 : decode cX12_laysStill 24 = .ok (.idiv, 1) := by decide +kernel
theorem dX12_laysStill_25 : decode cX12_laysStill 25 = .ok (.iload_n 1, 1) := by decide +kernel
theorem dX12_laysStill_26 : decode cX12_laysStill 26 = .ok (.if_icmp .ne 7, 3) := by decide +kernel
theorem dX12_laysStill_29 : decode cX12_laysStill 29 = .ok (.iconst 0, 1) := by decide +kernel
theorem dX12_laysStill_30 : decode cX12_laysStill 30 = .ok (.goto 6, 3) := by decide +kernel
theorem dX12_laysStill_33 : decode cX12_laysStill 33 = .ok (.ldc_w 351, 3) := by decide +kernel
theorem dX12_laysStill_36 : decode cX12_laysStill 36 = .ok (.iastore, 1) := by decide +kernel
theorem dX12_laysStill_37 : decode cX12_laysStill 37 = .ok (.iinc 3 1, 3) := by decide +kernel
theorem dX12_laysStill_40 : decode cX12_laysStill 40 = .ok (.goto (-38), 3) := by decide +kernel
theorem dX12_laysStill_43 : decode cX12_laysStill 43 = .ok (.iload_n 2, 1) := by decide +kernel
theorem dX12_laysStill_44 : decode cX12_laysStill 44 = .ok (.iconst 1, 1) := by decide +kernel
theorem dX12_laysStill_45 : decode cX12_laysStill 45 = .ok (.isub, 1) := by decide +kernel
theorem dX12_laysStill_46 : decode cX12_laysStill 46 = .ok (.istore_n 3, 1) := by decide +kernel
theorem dX12_laysStill_47 : decode cX12_laysStill 47 = .ok (.iload_n 3, 1) := by decide +kernel
theorem dX12_laysStill_48 : decode cX12_laysStill 48 = .ok (.ifCond .lt 48, 3) := by decide +kernel
theorem dX12_laysStill_51 : decode cX12_laysStill 51 = .ok (.iconst 0, 1) := by decide +kernel
theorem dX12_laysStill_52 : decode cX12_laysStill 52 = .ok (.istore 4, 2) := by decide +kernel
theorem dX12_laysStill_54 : decode cX12_laysStill 54 = .ok (.iload 4, 2) := by decide +kernel
theorem dX12_laysStill_56 : decode cX12_laysStill 56 = .ok (.iconst 4, 1) := by decide +kernel
theorem dX12_laysStill_57 : decode cX12_laysStill 57 = .ok (.aload_n 0, 1) := by decide +kernel
theorem dX12_laysStill_58 : decode cX12_laysStill 58 = .ok (.invokevirtual 233, 3) := by decide +kernel
theorem dX12_laysStill_61 : decode cX12_laysStill 61 = .ok (.imul, 1) := by decide +kernel
theorem dX12_laysStill_62 : decode cX12_laysStill 62 = .ok (.if_icmp .ge 28, 3) := by decide +kernel
theorem dX12_laysStill_65 : decode cX12_laysStill 65 = .ok (.aload_n 0, 1) := by decide +kernel
theorem dX12_laysStill_66 : decode cX12_laysStill 66 = .ok (.getfield 42, 3) := by decide +kernel
theorem dX12_laysStill_69 : decode cX12_laysStill 69 = .ok (.bipush 100, 2) := by decide +kernel
theorem dX12_laysStill_71 : decode cX12_laysStill 71 = .ok (.iload_n 3, 1) := by decide +kernel
theorem dX12_laysStill_72 : decode cX12_laysStill 72 = .ok (.imul, 1) := by decide +kernel
theorem dX12_laysStill_73 : decode cX12_laysStill 73 = .ok (.iload 4, 2) := by decide +kernel
theorem dX12_laysStill_75 : decode cX12_laysStill 75 = .ok (.iadd, 1) := by decide +kernel
theorem dX12_laysStill_76 : decode cX12_laysStill 76 = .ok (.aload_n 0, 1) := by decide +kernel
theorem dX12_laysStill_77 : decode cX12_laysStill 77 = .ok (.iload_n 3, 1) := by decide +kernel
theorem dX12_laysStill_78 : decode cX12_laysStill 78 = .ok (.iload 4, 2) := by decide +kernel
theorem dX12_laysStill_80 : decode cX12_laysStill 80 = .ok (.invokevirtual 356, 3) := by decide +kernel
theorem dX12_laysStill_83 : decode cX12_laysStill 83 = .ok (.iastore, 1) := by decide +kernel
theorem dX12_laysStill_84 : decode cX12_laysStill 84 = .ok (.iinc 4 1, 3) := by decide +kernel
theorem dX12_laysStill_87 : decode cX12_laysStill 87 = .ok (.goto (-33), 3) := by decide +kernel
theorem dX12_laysStill_90 : decode cX12_laysStill 90 = .ok (.iinc 3 (-1), 3) := by decide +kernel
theorem dX12_laysStill_93 : decode cX12_laysStill 93 = .ok (.goto (-46), 3) := by decide +kernel
theorem dX12_laysStill_96 : decode cX12_laysStill 96 = .ok (.return_, 1) := by decide +kernel
theorem dX12_laysTurns_0 : decode cX12_laysTurns 0 = .ok (.aload_n 0, 1) := by decide +kernel
theorem dX12_laysTurns_1 : decode cX12_laysTurns 1 = .ok (.iload_n 3, 1) := by decide +kernel
theorem dX12_laysTurns_2 : decode cX12_laysTurns 2 = .ok (.iload 4, 2) := by decide +kernel
theorem dX12_laysTurns_4 : decode cX12_laysTurns 4 = .ok (.invokevirtual 384, 3) := by decide +kernel
theorem dX12_laysTurns_7 : decode cX12_laysTurns 7 = .ok (.iconst 4, 1) := by decide +kernel
theorem dX12_laysTurns_8 : decode cX12_laysTurns 8 = .ok (.iload_n 1, 1) := by decide +kernel
theorem dX12_laysTurns_9 : decode cX12_laysTurns 9 = .ok (.imul, 1) := by decide +kernel
theorem dX12_laysTurns_10 : decode cX12_laysTurns 10 = .ok (.iload_n 2, 1) := by decide +kernel
theorem dX12_laysTurns_11 : decode cX12_laysTurns 11 = .ok (.iadd, 1) := by decide +kernel
theorem dX12_laysTurns_12 : decode cX12_laysTurns 12 = .ok (.istore 6, 2) := by decide +kernel
theorem dX12_laysTurns_14 : decode cX12_laysTurns 14 = .ok (.iload 5, 2) := by decide +kernel
theorem dX12_laysTurns_16 : decode cX12_laysTurns 16 = .ok (.istore 7, 2) := by decide +kernel
theorem dX12_laysTurns_18 : decode cX12_laysTurns 18 = .ok (.iconst 0, 1) := by decide +kernel
theorem dX12_laysTurns_19 : decode cX12_laysTurns 19 = .ok (.istore 8, 2) := by decide +kernel
theorem dX12_laysTurns_21 : decode cX12_laysTurns 21 = .ok (.iload 8, 2) := by decide +kernel
theorem dX12_laysTurns_23 : decode cX12_laysTurns 23 = .ok (.iload 4, 2) := by decide +kernel
theorem dX12_laysTurns_25 : decode cX12_laysTurns 25 = .ok (.if_icmp .ge 131, 3) := by decide +kernel
theorem dX12_laysTurns_28 : decode cX12_laysTurns 28 = .ok (.iconst 0, 1) := by decide +kernel
theorem dX12_laysTurns_29 : decode cX12_laysTurns 29 = .ok (.istore 9, 2) := by decide +kernel
theorem dX12_laysTurns_31 : decode cX12_laysTurns 31 = .ok (.iload 9, 2) := by decide +kernel
theorem dX12_laysTurns_33 : decode cX12_laysTurns 33 = .ok (.iconst 4, 1) := by decide +kernel
theorem dX12_laysTurns_34 : decode cX12_laysTurns 34 = .ok (.if_icmp .ge 116, 3) := by decide +kernel
theorem dX12_laysTurns_37 : decode cX12_laysTurns 37 = .ok (.aload_n 0, 1) := by decide +kernel
theorem dX12_laysTurns_38 : decode cX12_laysTurns 38 = .ok (.iload 8, 2) := by decide +kernel
theorem dX12_laysTurns_40 : decode cX12_laysTurns 40 = .ok (.iload 6, 2) := by decide +kernel
theorem dX12_laysTurns_42 : decode cX12_laysTurns 42 = .ok (.iconst 4, 1) := by decide +kernel
theorem dX12_laysTurns_43 : decode cX12_laysTurns 43 = .ok (.idiv, 1) := by decide +kernel
theorem dX12_laysTurns_44 : decode cX12_laysTurns 44 = .ok (.iload 6, 2) := by decide +kernel
theorem dX12_laysTurns_46 : decode cX12_laysTurns 46 = .ok (.iconst 4, 1) := by decide +kernel
theorem dX12_laysTurns_47 : decode cX12_laysTurns 47 = .ok (.irem, 1) := by decide +kernel
theorem dX12_laysTurns_48 : decode cX12_laysTurns 48 = .ok (.iload 9, 2) := by decide +kernel
theorem dX12_laysTurns_50 : decode cX12_laysTurns 50 = .ok (.iconst 0, 1) := by decide +kernel
theorem dX12_laysTurns_51 : decode cX12_laysTurns 51 = .ok (.invokevirtual 352, 3) := by decide +kernel
theorem dX12_laysTurns_54 : decode cX12_laysTurns 54 = .ok (.istore 10, 2) := by decide +kernel
theorem dX12_laysTurns_56 : decode cX12_laysTurns 56 = .ok (.iload 10, 2) := by decide +kernel
theorem dX12_laysTurns_58 : decode cX12_laysTurns 58 = .ok (.ldc_w 351, 3) := by decide +kernel
theorem dX12_laysTurns_61 : decode cX12_laysTurns 61 = .ok (.if_icmp .ne 6, 3) := by decide +kernel
theorem dX12_laysTurns_64 : decode cX12_laysTurns 64 = .ok (.goto 80, 3) := by decide +kernel
theorem dX12_laysTurns_67 : decode cX12_laysTurns 67 = .ok (.iload 6, 2) := by decide +kernel
theorem dX12_laysTurns_69 : decode cX12_laysTurns 69 = .ok (.iconst 4, 1) := by decide +kernel
theorem dX12_laysTurns_70 : decode cX12_laysTurns 70 = .ok (.irem, 1) := by decide +kernel
theorem dX12_laysTurns_71 : decode cX12_laysTurns 71 = .ok (.iload 9, 2) := by decide +kernel
theorem dX12_laysTurns_73 : decode cX12_laysTurns 73 = .ok (.invokestatic 278, 3) := by decide +kernel
theorem dX12_laysTurns_76 : decode cX12_laysTurns 76 = .ok (.istore 11, 2) := by decide +kernel
theorem dX12_laysTurns_78 : decode cX12_laysTurns 78 = .ok (.iconst 4, 1) := by decide +kernel
theorem dX12_laysTurns_79 : decode cX12_laysTurns 79 = .ok (.aload_n 0, 1) := by decide +kernel
theorem dX12_laysTurns_80 : decode cX12_laysTurns 80 = .ok (.iload 6, 2) := by decide +kernel
theorem dX12_laysTurns_82 : decode cX12_laysTurns 82 = .ok (.iconst 4, 1) := by decide +kernel
theorem dX12_laysTurns_83 : decode cX12_laysTurns 83 = .ok (.idiv, 1) := by decide +kernel
theorem dX12_laysTurns_84 : decode cX12_laysTurns 84 = .ok (.iload 11, 2) := by decide +kernel
theorem dX12_laysTurns_86 : decode cX12_laysTurns 86 = .ok (.invokevirtual 263, 3) := by decide +kernel
theorem dX12_laysTurns_89 : decode cX12_laysTurns 89 = .ok (.imul, 1) := by decide +kernel
theorem dX12_laysTurns_90 : decode cX12_laysTurns 90 = .ok (.iload 11, 2) := by decide +kernel
theorem dX12_laysTurns_92 : decode cX12_laysTurns 92 = .ok (.iadd, 1) := by decide +kernel
theorem dX12_laysTurns_93 : decode cX12_laysTurns 93 = .ok (.istore 12, 2) := by decide +kernel
theorem dX12_laysTurns_95 : decode cX12_laysTurns 95 = .ok (.iload 10, 2) := by decide +kernel
theorem dX12_laysTurns_97 : decode cX12_laysTurns 97 = .ok (.aload_n 0, 1) := by decide +kernel
theorem dX12_laysTurns_98 : decode cX12_laysTurns 98 = .ok (.getfield 42, 3) := by decide +kernel
theorem dX12_laysTurns_101 : decode cX12_laysTurns 101 = .ok (.bipush 100, 2) := by decide +kernel
theorem dX12_laysTurns_103 : decode cX12_laysTurns 103 = .ok (.iload 8, 2) := by decide +kernel
theorem dX12_laysTurns_105 : decode cX12_laysTurns 105 = .ok (.iconst 1, 1) := by decide +kernel
theorem dX12_laysTurns_106 : decode cX12_laysTurns 106 = .ok (.iadd, 1) := by decide +kernel
theorem dX12_laysTurns_107 : decode cX12_laysTurns 107 = .ok (.imul, 1) := by decide +kernel
theorem dX12_laysTurns_108 : decode cX12_laysTurns 108 = .ok (.iload 12, 2) := by decide +kernel
theorem dX12_laysTurns_110 : decode cX12_laysTurns 110 = .ok (.iadd, 1) := by decide +kernel
theorem dX12_laysTurns_111 : decode cX12_laysTurns 111 = .ok (.iaload, 1) := by decide +kernel
theorem dX12_laysTurns_112 : decode cX12_laysTurns 112 = .ok (.iadd, 1) := by decide +kernel
theorem dX12_laysTurns_113 : decode cX12_laysTurns 113 = .ok (.iload 7, 2) := by decide +kernel
theorem dX12_laysTurns_115 : decode cX12_laysTurns 115 = .ok (.if_icmp .le 6, 3) := by decide +kernel
theorem dX12_laysTurns_118 : decode cX12_laysTurns 118 = .ok (.goto 26, 3) := by decide +kernel
theorem dX12_laysTurns_121 : decode cX12_laysTurns 121 = .ok (.aload_n 0, 1) := by decide +kernel
theorem dX12_laysTurns_122 : decode cX12_laysTurns 122 = .ok (.getfield 54, 3) := by decide +kernel
theorem dX12_laysTurns_125 : decode cX12_laysTurns 125 = .ok (.iload 8, 2) := by decide +kernel
theorem dX12_laysTurns_127 : decode cX12_laysTurns 127 = .ok (.iload 9, 2) := by decide +kernel
theorem dX12_laysTurns_129 : decode cX12_laysTurns 129 = .ok (.iastore, 1) := by decide +kernel
theorem dX12_laysTurns_130 : decode cX12_laysTurns 130 = .ok (.iload 7, 2) := by decide +kernel
theorem dX12_laysTurns_132 : decode cX12_laysTurns 132 = .ok (.iload 10, 2) := by decide +kernel
theorem dX12_laysTurns_134 : decode cX12_laysTurns 134 = .ok (.isub, 1) := by decide +kernel
theorem dX12_laysTurns_135 : decode cX12_laysTurns 135 = .ok (.istore 7, 2) := by decide +kernel
theorem dX12_laysTurns_137 : decode cX12_laysTurns 137 = .ok (.iload 12, 2) := by decide +kernel
theorem dX12_laysTurns_139 : decode cX12_laysTurns 139 = .ok (.istore 6, 2) := by decide +kernel
theorem dX12_laysTurns_141 : decode cX12_laysTurns 141 = .ok (.goto 9, 3) := by decide +kernel
theorem dX12_laysTurns_144 : decode cX12_laysTurns 144 = .ok (.iinc 9 1, 3) := by decide +kernel
theorem dX12_laysTurns_147 : decode cX12_laysTurns 147 = .ok (.goto (-116), 3) := by decide +kernel
theorem dX12_laysTurns_150 : decode cX12_laysTurns 150 = .ok (.iinc 8 1, 3) := by decide +kernel
theorem dX12_laysTurns_153 : decode cX12_laysTurns 153 = .ok (.goto (-132), 3) := by decide +kernel
theorem dX12_laysTurns_156 : decode cX12_laysTurns 156 = .ok (.aload_n 0, 1) := by decide +kernel
theorem dX12_laysTurns_157 : decode cX12_laysTurns 157 = .ok (.iload 6, 2) := by decide +kernel
theorem dX12_laysTurns_159 : decode cX12_laysTurns 159 = .ok (.putfield 388, 3) := by decide +kernel
theorem dX12_laysTurns_162 : decode cX12_laysTurns 162 = .ok (.return_, 1) := by decide +kernel
theorem dX12_laysWay_0 : decode cX12_laysWay 0 = .ok (.aload_n 0, 1) := by decide +kernel
theorem dX12_laysWay_1 : decode cX12_laysWay 1 = .ok (.iload_n 1, 1) := by decide +kernel
theorem dX12_laysWay_2 : decode cX12_laysWay 2 = .ok (.iload_n 2, 1) := by decide +kernel
theorem dX12_laysWay_3 : decode cX12_laysWay 3 = .ok (.iload_n 3, 1) := by decide +kernel
theorem dX12_laysWay_4 : decode cX12_laysWay 4 = .ok (.invokevirtual 381, 3) := by decide +kernel
theorem dX12_laysWay_7 : decode cX12_laysWay 7 = .ok (.istore 4, 2) := by decide +kernel
theorem dX12_laysWay_9 : decode cX12_laysWay 9 = .ok (.iload 4, 2) := by decide +kernel
theorem dX12_laysWay_11 : decode cX12_laysWay 11 = .ok (.iconst (-1), 1) := by decide +kernel
theorem dX12_laysWay_12 : decode cX12_laysWay 12 = .ok (.if_icmp .eq 29, 3) := by decide +kernel
theorem dX12_laysWay_15 : decode cX12_laysWay 15 = .ok (.aload_n 0, 1) := by decide +kernel
theorem dX12_laysWay_16 : decode cX12_laysWay 16 = .ok (.aload_n 0, 1) := by decide +kernel
theorem dX12_laysWay_17 : decode cX12_laysWay 17 = .ok (.getfield 13, 3) := by decide +kernel
theorem dX12_laysWay_20 : decode cX12_laysWay 20 = .ok (.bipush 36, 2) := by decide +kernel
theorem dX12_laysWay_22 : decode cX12_laysWay 22 = .ok (.iload_n 1, 1) := by decide +kernel
theorem dX12_laysWay_23 : decode cX12_laysWay 23 = .ok (.iadd, 1) := by decide +kernel
theorem dX12_laysWay_24 : decode cX12_laysWay 24 = .ok (.iaload, 1) := by decide +kernel
theorem dX12_laysWay_25 : decode cX12_laysWay 25 = .ok (.aload_n 0, 1) := by decide +kernel
theorem dX12_laysWay_26 : decode cX12_laysWay 26 = .ok (.getfield 13, 3) := by decide +kernel
theorem dX12_laysWay_29 : decode cX12_laysWay 29 = .ok (.bipush 41, 2) := by decide +kernel
theorem dX12_laysWay_31 : decode cX12_laysWay 31 = .ok (.iload_n 1, 1) := by decide +kernel
theorem dX12_laysWay_32 : decode cX12_laysWay 32 = .ok (.iadd, 1) := by decide +kernel
theorem dX12_laysWay_33 : decode cX12_laysWay 33 = .ok (.iaload, 1) := by decide +kernel
theorem dX12_laysWay_34 : decode cX12_laysWay 34 = .ok (.iload_n 2, 1) := by decide +kernel
theorem dX12_laysWay_35 : decode cX12_laysWay 35 = .ok (.iload 4, 2) := by decide +kernel
theorem dX12_laysWay_37 : decode cX12_laysWay 37 = .ok (.iload_n 3, 1) := by decide +kernel
theorem dX12_laysWay_38 : decode cX12_laysWay 38 = .ok (.invokevirtual 391, 3) := by decide +kernel
theorem dX12_laysWay_41 : decode cX12_laysWay 41 = .ok (.iload 4, 2) := by decide +kernel
theorem dX12_laysWay_43 : decode cX12_laysWay 43 = .ok (.ireturn, 1) := by decide +kernel
theorem dX12_leastAt_0 : decode cX12_leastAt 0 = .ok (.ldc_w 351, 3) := by decide +kernel
theorem dX12_leastAt_3 : decode cX12_leastAt 3 = .ok (.istore_n 3, 1) := by decide +kernel
theorem dX12_leastAt_4 : decode cX12_leastAt 4 = .ok (.iconst 0, 1) := by decide +kernel
theorem dX12_leastAt_5 : decode cX12_leastAt 5 = .ok (.istore 4, 2) := by decide +kernel
theorem dX12_leastAt_7 : decode cX12_leastAt 7 = .ok (.iload 4, 2) := by decide +kernel
theorem dX12_leastAt_9 : decode cX12_leastAt 9 = .ok (.iconst 4, 1) := by decide +kernel
theorem dX12_leastAt_10 : decode cX12_leastAt 10 = .ok (.if_icmp .ge 30, 3) := by decide +kernel
theorem dX12_leastAt_13 : decode cX12_leastAt 13 = .ok (.iload_n 3, 1) := by decide +kernel
theorem dX12_leastAt_14 : decode cX12_leastAt 14 = .ok (.aload_n 0, 1) := by decide +kernel
theorem dX12_leastAt_15 : decode cX12_leastAt 15 = .ok (.getfield 39, 3) := by decide +kernel
theorem dX12_leastAt_18 : decode cX12_leastAt 18 = .ok (.bipush 100, 2) := by decide +kernel
theorem dX12_leastAt_20 : decode cX12_leastAt 20 = .ok (.iload_n 1, 1) := by decide +kernel
theorem dX12_leastAt_21 : decode cX12_leastAt 21 = .ok (.imul, 1) := by decide +kernel
theorem dX12_leastAt_22 : decode cX12_leastAt 22 = .ok (.iconst 4, 1) := by decide +kernel
theorem dX12_leastAt_23 : decode cX12_leastAt 23 = .ok (.iload_n 2, 1) := by decide +kernel
theorem dX12_leastAt_24 : decode cX12_leastAt 24 = .ok (.imul, 1) := by decide +kernel
theorem dX12_leastAt_25 : decode cX12_leastAt 25 = .ok (.iadd, 1) := by decide +kernel
theorem dX12_leastAt_26 : decode cX12_leastAt 26 = .ok (.iload 4, 2) := by decide +kernel
theorem dX12_leastAt_28 : decode cX12_leastAt 28 = .ok (.iadd, 1) := by decide +kernel
theorem dX12_leastAt_29 : decode cX12_leastAt 29 = .ok (.iaload, 1) := by decide +kernel
theorem dX12_leastAt_30 : decode cX12_leastAt 30 = .ok (.invokestatic 294, 3) := by decide +kernel
theorem dX12_leastAt_33 : decode cX12_leastAt 33 = .ok (.istore_n 3, 1) := by decide +kernel
theorem dX12_leastAt_34 : decode cX12_leastAt 34 = .ok (.iinc 4 1, 3) := by decide +kernel
theorem dX12_leastAt_37 : decode cX12_leastAt 37 = .ok (.goto (-30), 3) := by decide +kernel
theorem dX12_leastAt_40 : decode cX12_leastAt 40 = .ok (.iload_n 3, 1) := by decide +kernel
theorem dX12_leastAt_41 : decode cX12_leastAt 41 = .ok (.ireturn, 1) := by decide +kernel
theorem dX12_leastWithin_0 : decode cX12_leastWithin 0 = .ok (.ldc_w 351, 3) := by decide +kernel
theorem dX12_leastWithin_3 : decode cX12_leastWithin 3 = .ok (.istore_n 3, 1) := by decide +kernel
theorem dX12_leastWithin_4 : decode cX12_leastWithin 4 = .ok (.iconst 0, 1) := by decide +kernel
theorem dX12_leastWithin_5 : decode cX12_leastWithin 5 = .ok (.istore 4, 2) := by decide +kernel
theorem dX12_leastWithin_7 : decode cX12_leastWithin 7 = .ok (.iload 4, 2) := by decide +kernel
theorem dX12_leastWithin_9 : decode cX12_leastWithin 9 = .ok (.iload_n 2, 1) := by decide +kernel
theorem dX12_leastWithin_10 : decode cX12_leastWithin 10 = .ok (.if_icmp .gt 21, 3) := by decide +kernel
theorem dX12_leastWithin_13 : decode cX12_leastWithin 13 = .ok (.iload_n 3, 1) := by decide +kernel
theorem dX12_leastWithin_14 : decode cX12_leastWithin 14 = .ok (.aload_n 0, 1) := by decide +kernel
theorem dX12_leastWithin_15 : decode cX12_leastWithin 15 = .ok (.iload 4, 2) := by decide +kernel
theorem dX12_leastWithin_17 : decode cX12_leastWithin 17 = .ok (.iload_n 1, 1) := by decide +kernel
theorem dX12_leastWithin_18 : decode cX12_leastWithin 18 = .ok (.invokevirtual 359, 3) := by decide +kernel
theorem dX12_leastWithin_21 : decode cX12_leastWithin 21 = .ok (.invokestatic 294, 3) := by decide +kernel
theorem dX12_leastWithin_24 : decode cX12_leastWithin 24 = .ok (.istore_n 3, 1) := by decide +kernel
theorem dX12_leastWithin_25 : decode cX12_leastWithin 25 = .ok (.iinc 4 1, 3) := by decide +kernel
theorem dX12_leastWithin_28 : decode cX12_leastWithin 28 = .ok (.goto (-21), 3) := by decide +kernel
theorem dX12_leastWithin_31 : decode cX12_leastWithin 31 = .ok (.iload_n 3, 1) := by decide +kernel
theorem dX12_leastWithin_32 : decode cX12_leastWithin 32 = .ok (.ireturn, 1) := by decide +kernel
theorem dX12_reach_0 : decode cX12_reach 0 = .ok (.aload_n 0, 1) := by decide +kernel
theorem dX12_reach_1 : decode cX12_reach 1 = .ok (.iconst 0, 1) := by decide +kernel
theorem dX12_reach_2 : decode cX12_reach 2 = .ok (.putfield 1, 3) := by decide +kernel
theorem dX12_reach_5 : decode cX12_reach 5 = .ok (.aload_n 0, 1) := by decide +kernel
theorem dX12_reach_6 : decode cX12_reach 6 = .ok (.iload_n 1, 1) := by decide +kernel
theorem dX12_reach_7 : decode cX12_reach 7 = .ok (.i2l, 1) := by decide +kernel
theorem dX12_reach_8 : decode cX12_reach 8 = .ok (.invokevirtual 253, 3) := by decide +kernel
theorem dX12_reach_11 : decode cX12_reach 11 = .ok (.ifCond .ne 6, 3) := by decide +kernel
theorem dX12_reach_14 : decode cX12_reach 14 = .ok (.bipush (-2), 2) := by decide +kernel
theorem dX12_reach_16 : decode cX12_reach 16 = .ok (.ireturn, 1) := by decide +kernel
theorem dX12_reach_17 : decode cX12_reach 17 = .ok (.iload_n 2, 1) := by decide +kernel
theorem dX12_reach_18 : decode cX12_reach 18 = .ok (.i2l, 1) := by decide +kernel
theorem dX12_reach_19 : decode cX12_reach 19 = .ok (.lconst 0, 1) := by decide +kernel
theorem dX12_reach_20 : decode cX12_reach 20 = .ok (.ldc2_w 379, 3) := by decide +kernel
theorem dX12_reach_23 : decode cX12_reach 23 = .ok (.invokestatic 161, 3) := by decide +kernel
theorem dX12_reach_26 : decode cX12_reach 26 = .ok (.ifCond .ne 6, 3) := by decide +kernel
theorem dX12_reach_29 : decode cX12_reach 29 = .ok (.bipush (-3), 2) := by decide +kernel
theorem dX12_reach_31 : decode cX12_reach 31 = .ok (.ireturn, 1) := by decide +kernel
theorem dX12_reach_32 : decode cX12_reach 32 = .ok (.aload_n 0, 1) := by decide +kernel
theorem dX12_reach_33 : decode cX12_reach 33 = .ok (.iload_n 1, 1) := by decide +kernel
theorem dX12_reach_34 : decode cX12_reach 34 = .ok (.bipush 60, 2) := by decide +kernel
theorem dX12_reach_36 : decode cX12_reach 36 = .ok (.iconst 0, 1) := by decide +kernel
theorem dX12_reach_37 : decode cX12_reach 37 = .ok (.invokevirtual 369, 3) := by decide +kernel
theorem dX12_reach_40 : decode cX12_reach 40 = .ok (.iconst 0, 1) := by decide +kernel
theorem dX12_reach_41 : decode cX12_reach 41 = .ok (.istore_n 3, 1) := by decide +kernel
theorem dX12_reach_42 : decode cX12_reach 42 = .ok (.iconst 0, 1) := by decide +kernel
theorem dX12_reach_43 : decode cX12_reach 43 = .ok (.istore 4, 2) := by decide +kernel
theorem dX12_reach_45 : decode cX12_reach 45 = .ok (.iload 4, 2) := by decide +kernel
theorem dX12_reach_47 : decode cX12_reach 47 = .ok (.aload_n 0, 1) := by decide +kernel
theorem dX12_reach_48 : decode cX12_reach 48 = .ok (.invokevirtual 233, 3) := by decide +kernel
theorem dX12_reach_51 : decode cX12_reach 51 = .ok (.if_icmp .ge 28, 3) := by decide +kernel
theorem dX12_reach_54 : decode cX12_reach 54 = .ok (.aload_n 0, 1) := by decide +kernel
theorem dX12_reach_55 : decode cX12_reach 55 = .ok (.iload 4, 2) := by decide +kernel
theorem dX12_reach_57 : decode cX12_reach 57 = .ok (.bipush 60, 2) := by decide +kernel
theorem dX12_reach_59 : decode cX12_reach 59 = .ok (.invokevirtual 398, 3) := by decide +kernel
theorem dX12_reach_62 : decode cX12_reach 62 = .ok (.iload_n 2, 1) := by decide +kernel
theorem dX12_reach_63 : decode cX12_reach 63 = .ok (.if_icmp .gt 10, 3) := by decide +kernel
theorem dX12_reach_66 : decode cX12_reach 66 = .ok (.iload_n 3, 1) := by decide +kernel
theorem dX12_reach_67 : decode cX12_reach 67 = .ok (.iconst 1, 1) := by decide +kernel
theorem dX12_reach_68 : decode cX12_reach 68 = .ok (.iload 4, 2) := by decide +kernel
theorem dX12_reach_70 : decode cX12_reach 70 = .ok (.ishl, 1) := by decide +kernel
theorem dX12_reach_71 : decode cX12_reach 71 = .ok (.ior, 1) := by decide +kernel
theorem dX12_reach_72 : decode cX12_reach 72 = .ok (.istore_n 3, 1) := by decide +kernel
theorem dX12_reach_73 : decode cX12_reach 73 = .ok (.iinc 4 1, 3) := by decide +kernel
theorem dX12_reach_76 : decode cX12_reach 76 = .ok (.goto (-31), 3) := by decide +kernel
theorem dX12_reach_79 : decode cX12_reach 79 = .ok (.iload_n 3, 1) := by decide +kernel
theorem dX12_reach_80 : decode cX12_reach 80 = .ok (.ireturn, 1) := by decide +kernel
theorem dX12_soonestBy_0 : decode cX12_soonestBy 0 = .ok (.iconst 0, 1) := by decide +kernel
theorem dX12_soonestBy_1 : decode cX12_soonestBy 1 = .ok (.istore_n 3, 1) := by decide +kernel
theorem dX12_soonestBy_2 : decode cX12_soonestBy 2 = .ok (.iload_n 3, 1) := by decide +kernel
theorem dX12_soonestBy_3 : decode cX12_soonestBy 3 = .ok (.bipush 60, 2) := by decide +kernel
theorem dX12_soonestBy_5 : decode cX12_soonestBy 5 = .ok (.if_icmp .gt 21, 3) := by decide +kernel
theorem dX12_soonestBy_8 : decode cX12_soonestBy 8 = .ok (.aload_n 0, 1) := by decide +kernel
theorem dX12_soonestBy_9 : decode cX12_soonestBy 9 = .ok (.iload_n 3, 1) := by decide +kernel
theorem dX12_soonestBy_10 : decode cX12_soonestBy 10 = .ok (.iload_n 1, 1) := by decide +kernel
theorem dX12_soonestBy_11 : decode cX12_soonestBy 11 = .ok (.invokevirtual 359, 3) := by decide +kernel
theorem dX12_soonestBy_14 : decode cX12_soonestBy 14 = .ok (.iload_n 2, 1) := by decide +kernel
theorem dX12_soonestBy_15 : decode cX12_soonestBy 15 = .ok (.if_icmp .gt 5, 3) := by decide +kernel
theorem dX12_soonestBy_18 : decode cX12_soonestBy 18 = .ok (.iload_n 3, 1) := by decide +kernel
theorem dX12_soonestBy_19 : decode cX12_soonestBy 19 = .ok (.ireturn, 1) := by decide +kernel
theorem dX12_soonestBy_20 : decode cX12_soonestBy 20 = .ok (.iinc 3 1, 3) := by decide +kernel
theorem dX12_soonestBy_23 : decode cX12_soonestBy 23 = .ok (.goto (-21), 3) := by decide +kernel
theorem dX12_soonestBy_26 : decode cX12_soonestBy 26 = .ok (.iconst (-1), 1) := by decide +kernel
theorem dX12_soonestBy_27 : decode cX12_soonestBy 27 = .ok (.ireturn, 1) := by decide +kernel
theorem dX12_stillBy_0 : decode cX12_stillBy 0 = .ok (.ldc_w 351, 3) := by decide +kernel
theorem dX12_stillBy_3 : decode cX12_stillBy 3 = .ok (.istore_n 3, 1) := by decide +kernel
theorem dX12_stillBy_4 : decode cX12_stillBy 4 = .ok (.iconst 0, 1) := by decide +kernel
theorem dX12_stillBy_5 : decode cX12_stillBy 5 = .ok (.istore 4, 2) := by decide +kernel
theorem dX12_stillBy_7 : decode cX12_stillBy 7 = .ok (.iload 4, 2) := by decide +kernel
theorem dX12_stillBy_9 : decode cX12_stillBy 9 = .ok (.iconst 4, 1) := by decide +kernel
theorem dX12_stillBy_10 : decode cX12_stillBy 10 = .ok (.if_icmp .ge 79, 3) := by decide +kernel
theorem dX12_stillBy_13 : decode cX12_stillBy 13 = .ok (.aload_n 0, 1) := by decide +kernel
theorem dX12_stillBy_14 : decode cX12_stillBy 14 = .ok (.iload_n 1, 1) := by decide +kernel
theorem dX12_stillBy_15 : decode cX12_stillBy 15 = .ok (.iload_n 2, 1) := by decide +kernel
theorem dX12_stillBy_16 : decode cX12_stillBy 16 = .ok (.iconst 4, 1) := by decide +kernel
theorem dX12_stillBy_17 : decode cX12_stillBy 17 = .ok (.idiv, 1) := by decide +kernel
theorem dX12_stillBy_18 : decode cX12_stillBy 18 = .ok (.iload_n 2, 1) := by decide +kernel
theorem dX12_stillBy_19 : decode cX12_stillBy 19 = .ok (.iconst 4, 1) := by decide +kernel
theorem dX12_stillBy_20 : decode cX12_stillBy 20 = .ok (.irem, 1) := by decide +kernel
theorem dX12_stillBy_21 : decode cX12_stillBy 21 = .ok (.iload 4, 2) := by decide +kernel
theorem dX12_stillBy_23 : decode cX12_stillBy 23 = .ok (.iconst 0, 1) := by decide +kernel
theorem dX12_stillBy_24 : decode cX12_stillBy 24 = .ok (.invokevirtual 352, 3) := by decide +kernel
theorem dX12_stillBy_27 : decode cX12_stillBy 27 = .ok (.istore 5, 2) := by decide +kernel
theorem dX12_stillBy_29 : decode cX12_stillBy 29 = .ok (.iload 5, 2) := by decide +kernel
theorem dX12_stillBy_31 : decode cX12_stillBy 31 = .ok (.ldc_w 351, 3) := by decide +kernel
theorem dX12_stillBy_34 : decode cX12_stillBy 34 = .ok (.if_icmp .eq 49, 3) := by decide +kernel
theorem dX12_stillBy_37 : decode cX12_stillBy 37 = .ok (.iload_n 3, 1) := by decide +kernel
theorem dX12_stillBy_38 : decode cX12_stillBy 38 = .ok (.iload 5, 2) := by decide +kernel
theorem dX12_stillBy_40 : decode cX12_stillBy 40 = .ok (.aload_n 0, 1) := by decide +kernel
theorem dX12_stillBy_41 : decode cX12_stillBy 41 = .ok (.getfield 42, 3) := by decide +kernel
theorem dX12_stillBy_44 : decode cX12_stillBy 44 = .ok (.bipush 100, 2) := by decide +kernel
theorem dX12_stillBy_46 : decode cX12_stillBy 46 = .ok (.iload_n 1, 1) := by decide +kernel
theorem dX12_stillBy_47 : decode cX12_stillBy 47 = .ok (.iconst 1, 1) := by decide +kernel
theorem dX12_stillBy_48 : decode cX12_stillBy 48 = .ok (.iadd, 1) := by decide +kernel
theorem dX12_stillBy_49 : decode cX12_stillBy 49 = .ok (.imul, 1) := by decide +kernel
theorem dX12_stillBy_50 : decode cX12_stillBy 50 = .ok (.iconst 4, 1) := by decide +kernel
theorem dX12_stillBy_51 : decode cX12_stillBy 51 = .ok (.aload_n 0, 1) := by decide +kernel
theorem dX12_stillBy_52 : decode cX12_stillBy 52 = .ok (.iload_n 2, 1) := by decide +kernel
theorem dX12_stillBy_53 : decode cX12_stillBy 53 = .ok (.iconst 4, 1) := by decide +kernel
theorem dX12_stillBy_54 : decode cX12_stillBy 54 = .ok (.idiv, 1) := by decide +kernel
theorem dX12_stillBy_55 : decode cX12_stillBy 55 = .ok (.iload_n 2, 1) := by decide +kernel
theorem dX12_stillBy_56 : decode cX12_stillBy 56 = .ok (.iconst 4, 1) := by decide +kernel
theorem dX12_stillBy_57 : decode cX12_stillBy 57 = .ok (.irem, 1) := by decide +kernel
theorem dX12_stillBy_58 : decode cX12_stillBy 58 = .ok (.iload 4, 2) := by decide +kernel
theorem dX12_stillBy_60 : decode cX12_stillBy 60 = .ok (.invokestatic 278, 3) := by decide +kernel
theorem dX12_stillBy_63 : decode cX12_stillBy 63 = .ok (.invokevirtual 263, 3) := by decide +kernel
theorem dX12_stillBy_66 : decode cX12_stillBy 66 = .ok (.imul, 1) := by decide +kernel
theorem dX12_stillBy_67 : decode cX12_stillBy 67 = .ok (.iadd, 1) := by decide +kernel
theorem dX12_stillBy_68 : decode cX12_stillBy 68 = .ok (.iload_n 2, 1) := by decide +kernel
theorem dX12_stillBy_69 : decode cX12_stillBy 69 = .ok (.iconst 4, 1) := by decide +kernel
theorem dX12_stillBy_70 : decode cX12_stillBy 70 = .ok (.irem, 1) := by decide +kernel
theorem dX12_stillBy_71 : decode cX12_stillBy 71 = .ok (.iload 4, 2) := by decide +kernel
theorem dX12_stillBy_73 : decode cX12_stillBy 73 = .ok (.invokestatic 278, 3) := by decide +kernel
theorem dX12_stillBy_76 : decode cX12_stillBy 76 = .ok (.iadd, 1) := by decide +kernel
theorem dX12_stillBy_77 : decode cX12_stillBy 77 = .ok (.iaload, 1) := by decide +kernel
theorem dX12_stillBy_78 : decode cX12_stillBy 78 = .ok (.iadd, 1) := by decide +kernel
theorem dX12_stillBy_79 : decode cX12_stillBy 79 = .ok (.invokestatic 294, 3) := by decide +kernel
theorem dX12_stillBy_82 : decode cX12_stillBy 82 = .ok (.istore_n 3, 1) := by decide +kernel
theorem dX12_stillBy_83 : decode cX12_stillBy 83 = .ok (.iinc 4 1, 3) := by decide +kernel
theorem dX12_stillBy_86 : decode cX12_stillBy 86 = .ok (.goto (-79), 3) := by decide +kernel
theorem dX12_stillBy_89 : decode cX12_stillBy 89 = .ok (.iload_n 3, 1) := by decide +kernel
theorem dX12_stillBy_90 : decode cX12_stillBy 90 = .ok (.ireturn, 1) := by decide +kernel
theorem dX12_turn_0 : decode cX12_turn 0 = .ok (.aload_n 0, 1) := by decide +kernel
theorem dX12_turn_1 : decode cX12_turn 1 = .ok (.iconst 0, 1) := by decide +kernel
theorem dX12_turn_2 : decode cX12_turn 2 = .ok (.putfield 1, 3) := by decide +kernel
theorem dX12_turn_5 : decode cX12_turn 5 = .ok (.aload_n 0, 1) := by decide +kernel
theorem dX12_turn_6 : decode cX12_turn 6 = .ok (.iload_n 1, 1) := by decide +kernel
theorem dX12_turn_7 : decode cX12_turn 7 = .ok (.iload_n 2, 1) := by decide +kernel
theorem dX12_turn_8 : decode cX12_turn 8 = .ok (.invokevirtual 376, 3) := by decide +kernel
theorem dX12_turn_11 : decode cX12_turn 11 = .ok (.ifCond .ne 6, 3) := by decide +kernel
theorem dX12_turn_14 : decode cX12_turn 14 = .ok (.bipush (-2), 2) := by decide +kernel
theorem dX12_turn_16 : decode cX12_turn 16 = .ok (.ireturn, 1) := by decide +kernel
theorem dX12_turn_17 : decode cX12_turn 17 = .ok (.iload_n 3, 1) := by decide +kernel
theorem dX12_turn_18 : decode cX12_turn 18 = .ok (.i2l, 1) := by decide +kernel
theorem dX12_turn_19 : decode cX12_turn 19 = .ok (.lconst 0, 1) := by decide +kernel
theorem dX12_turn_20 : decode cX12_turn 20 = .ok (.ldc2_w 379, 3) := by decide +kernel
theorem dX12_turn_23 : decode cX12_turn 23 = .ok (.invokestatic 161, 3) := by decide +kernel
theorem dX12_turn_26 : decode cX12_turn 26 = .ok (.ifCond .eq 8, 3) := by decide +kernel
theorem dX12_turn_29 : decode cX12_turn 29 = .ok (.iload 4, 2) := by decide +kernel
theorem dX12_turn_31 : decode cX12_turn 31 = .ok (.ifCond .ge 6, 3) := by decide +kernel
theorem dX12_turn_34 : decode cX12_turn 34 = .ok (.bipush (-3), 2) := by decide +kernel
theorem dX12_turn_36 : decode cX12_turn 36 = .ok (.ireturn, 1) := by decide +kernel
theorem dX12_turn_37 : decode cX12_turn 37 = .ok (.aload_n 0, 1) := by decide +kernel
theorem dX12_turn_38 : decode cX12_turn 38 = .ok (.iload_n 1, 1) := by decide +kernel
theorem dX12_turn_39 : decode cX12_turn 39 = .ok (.iload_n 2, 1) := by decide +kernel
theorem dX12_turn_40 : decode cX12_turn 40 = .ok (.iload_n 3, 1) := by decide +kernel
theorem dX12_turn_41 : decode cX12_turn 41 = .ok (.invokevirtual 395, 3) := by decide +kernel
theorem dX12_turn_44 : decode cX12_turn 44 = .ok (.istore 5, 2) := by decide +kernel
theorem dX12_turn_46 : decode cX12_turn 46 = .ok (.iload 4, 2) := by decide +kernel
theorem dX12_turn_48 : decode cX12_turn 48 = .ok (.iload 5, 2) := by decide +kernel
theorem dX12_turn_50 : decode cX12_turn 50 = .ok (.if_icmp .ge 13, 3) := by decide +kernel
theorem dX12_turn_53 : decode cX12_turn 53 = .ok (.aload_n 0, 1) := by decide +kernel
theorem dX12_turn_54 : decode cX12_turn 54 = .ok (.getfield 54, 3) := by decide +kernel
theorem dX12_turn_57 : decode cX12_turn 57 = .ok (.iload 4, 2) := by decide +kernel
theorem dX12_turn_59 : decode cX12_turn 59 = .ok (.iaload, 1) := by decide +kernel
theorem dX12_turn_60 : decode cX12_turn 60 = .ok (.goto 4, 3) := by decide +kernel
theorem dX12_turn_63 : decode cX12_turn 63 = .ok (.iconst (-1), 1) := by decide +kernel
theorem dX12_turn_64 : decode cX12_turn 64 = .ok (.ireturn, 1) := by decide +kernel
theorem dX12_way_0 : decode cX12_way 0 = .ok (.aload_n 0, 1) := by decide +kernel
theorem dX12_way_1 : decode cX12_way 1 = .ok (.iconst 0, 1) := by decide +kernel
theorem dX12_way_2 : decode cX12_way 2 = .ok (.putfield 1, 3) := by decide +kernel
theorem dX12_way_5 : decode cX12_way 5 = .ok (.aload_n 0, 1) := by decide +kernel
theorem dX12_way_6 : decode cX12_way 6 = .ok (.iload_n 1, 1) := by decide +kernel
theorem dX12_way_7 : decode cX12_way 7 = .ok (.iload_n 2, 1) := by decide +kernel
theorem dX12_way_8 : decode cX12_way 8 = .ok (.invokevirtual 376, 3) := by decide +kernel
theorem dX12_way_11 : decode cX12_way 11 = .ok (.ifCond .ne 6, 3) := by decide +kernel
theorem dX12_way_14 : decode cX12_way 14 = .ok (.bipush (-2), 2) := by decide +kernel
theorem dX12_way_16 : decode cX12_way 16 = .ok (.ireturn, 1) := by decide +kernel
theorem dX12_way_17 : decode cX12_way 17 = .ok (.iload_n 3, 1) := by decide +kernel
theorem dX12_way_18 : decode cX12_way 18 = .ok (.i2l, 1) := by decide +kernel
theorem dX12_way_19 : decode cX12_way 19 = .ok (.lconst 0, 1) := by decide +kernel
theorem dX12_way_20 : decode cX12_way 20 = .ok (.ldc2_w 379, 3) := by decide +kernel
theorem dX12_way_23 : decode cX12_way 23 = .ok (.invokestatic 161, 3) := by decide +kernel
theorem dX12_way_26 : decode cX12_way 26 = .ok (.ifCond .eq 13, 3) := by decide +kernel
theorem dX12_way_29 : decode cX12_way 29 = .ok (.aload_n 0, 1) := by decide +kernel
theorem dX12_way_30 : decode cX12_way 30 = .ok (.iload_n 1, 1) := by decide +kernel
theorem dX12_way_31 : decode cX12_way 31 = .ok (.iload_n 2, 1) := by decide +kernel
theorem dX12_way_32 : decode cX12_way 32 = .ok (.iload_n 3, 1) := by decide +kernel
theorem dX12_way_33 : decode cX12_way 33 = .ok (.invokevirtual 381, 3) := by decide +kernel
theorem dX12_way_36 : decode cX12_way 36 = .ok (.goto 5, 3) := by decide +kernel
theorem dX12_way_39 : decode cX12_way 39 = .ok (.bipush (-3), 2) := by decide +kernel
theorem dX12_way_41 : decode cX12_way 41 = .ok (.ireturn, 1) := by decide +kernel
theorem dX12_wayOf_0 : decode cX12_wayOf 0 = .ok (.aload_n 0, 1) := by decide +kernel
theorem dX12_wayOf_1 : decode cX12_wayOf 1 = .ok (.iload_n 1, 1) := by decide +kernel
theorem dX12_wayOf_2 : decode cX12_wayOf 2 = .ok (.bipush 60, 2) := by decide +kernel
theorem dX12_wayOf_4 : decode cX12_wayOf 4 = .ok (.iconst 0, 1) := by decide +kernel
theorem dX12_wayOf_5 : decode cX12_wayOf 5 = .ok (.invokevirtual 369, 3) := by decide +kernel
theorem dX12_wayOf_8 : decode cX12_wayOf 8 = .ok (.aload_n 0, 1) := by decide +kernel
theorem dX12_wayOf_9 : decode cX12_wayOf 9 = .ok (.iload_n 2, 1) := by decide +kernel
theorem dX12_wayOf_10 : decode cX12_wayOf 10 = .ok (.iload_n 3, 1) := by decide +kernel
theorem dX12_wayOf_11 : decode cX12_wayOf 11 = .ok (.invokevirtual 373, 3) := by decide +kernel
theorem dX12_wayOf_14 : decode cX12_wayOf 14 = .ok (.ireturn, 1) := by decide +kernel
theorem dX12_ways_0 : decode cX12_ways 0 = .ok (.aload_n 0, 1) := by decide +kernel
theorem dX12_ways_1 : decode cX12_ways 1 = .ok (.iconst 0, 1) := by decide +kernel
theorem dX12_ways_2 : decode cX12_ways 2 = .ok (.putfield 1, 3) := by decide +kernel
theorem dX12_ways_5 : decode cX12_ways 5 = .ok (.aload_n 0, 1) := by decide +kernel
theorem dX12_ways_6 : decode cX12_ways 6 = .ok (.iload_n 1, 1) := by decide +kernel
theorem dX12_ways_7 : decode cX12_ways 7 = .ok (.iload_n 2, 1) := by decide +kernel
theorem dX12_ways_8 : decode cX12_ways 8 = .ok (.invokevirtual 376, 3) := by decide +kernel
theorem dX12_ways_11 : decode cX12_ways 11 = .ok (.ifCond .ne 7, 3) := by decide +kernel
theorem dX12_ways_14 : decode cX12_ways 14 = .ok (.ldc2_w 404, 3) := by decide +kernel
theorem dX12_ways_17 : decode cX12_ways 17 = .ok (.lreturn, 1) := by decide +kernel
theorem dX12_ways_18 : decode cX12_ways 18 = .ok (.iload_n 3, 1) := by decide +kernel
theorem dX12_ways_19 : decode cX12_ways 19 = .ok (.i2l, 1) := by decide +kernel
theorem dX12_ways_20 : decode cX12_ways 20 = .ok (.lconst 0, 1) := by decide +kernel
theorem dX12_ways_21 : decode cX12_ways 21 = .ok (.ldc2_w 170, 3) := by decide +kernel
theorem dX12_ways_24 : decode cX12_ways 24 = .ok (.invokestatic 161, 3) := by decide +kernel
theorem dX12_ways_27 : decode cX12_ways 27 = .ok (.ifCond .eq 16, 3) := by decide +kernel
theorem dX12_ways_30 : decode cX12_ways 30 = .ok (.iload 4, 2) := by decide +kernel
theorem dX12_ways_32 : decode cX12_ways 32 = .ok (.i2l, 1) := by decide +kernel
theorem dX12_ways_33 : decode cX12_ways 33 = .ok (.lconst 0, 1) := by decide +kernel
theorem dX12_ways_34 : decode cX12_ways 34 = .ok (.ldc2_w 406, 3) := by decide +kernel
theorem dX12_ways_37 : decode cX12_ways 37 = .ok (.invokestatic 161, 3) := by decide +kernel
theorem dX12_ways_40 : decode cX12_ways 40 = .ok (.ifCond .ne 7, 3) := by decide +kernel
theorem dX12_ways_43 : decode cX12_ways 43 = .ok (.ldc2_w 408, 3) := by decide +kernel
theorem dX12_ways_46 : decode cX12_ways 46 = .ok (.lreturn, 1) := by decide +kernel
theorem dX12_ways_47 : decode cX12_ways 47 = .ok (.aload_n 0, 1) := by decide +kernel
theorem dX12_ways_48 : decode cX12_ways 48 = .ok (.iconst 0, 1) := by decide +kernel
theorem dX12_ways_49 : decode cX12_ways 49 = .ok (.putfield 348, 3) := by decide +kernel
theorem dX12_ways_52 : decode cX12_ways 52 = .ok (.aload_n 0, 1) := by decide +kernel
theorem dX12_ways_53 : decode cX12_ways 53 = .ok (.iload_n 3, 1) := by decide +kernel
theorem dX12_ways_54 : decode cX12_ways 54 = .ok (.invokevirtual 362, 3) := by decide +kernel
theorem dX12_ways_57 : decode cX12_ways 57 = .ok (.iconst 0, 1) := by decide +kernel
theorem dX12_ways_58 : decode cX12_ways 58 = .ok (.istore 5, 2) := by decide +kernel
theorem dX12_ways_60 : decode cX12_ways 60 = .ok (.iload 5, 2) := by decide +kernel
theorem dX12_ways_62 : decode cX12_ways 62 = .ok (.sipush 4100, 3) := by decide +kernel
theorem dX12_ways_65 : decode cX12_ways 65 = .ok (.if_icmp .ge 17, 3) := by decide +kernel
theorem dX12_ways_68 : decode cX12_ways 68 = .ok (.aload_n 0, 1) := by decide +kernel
theorem dX12_ways_69 : decode cX12_ways 69 = .ok (.getfield 57, 3) := by decide +kernel
theorem dX12_ways_72 : decode cX12_ways 72 = .ok (.iload 5, 2) := by decide +kernel
theorem dX12_ways_74 : decode cX12_ways 74 = .ok (.lconst 0, 1) := by decide +kernel
theorem dX12_ways_75 : decode cX12_ways 75 = .ok (.lastore, 1) := by decide +kernel
theorem dX12_ways_76 : decode cX12_ways 76 = .ok (.iinc 5 1, 3) := by decide +kernel
theorem dX12_ways_79 : decode cX12_ways 79 = .ok (.goto (-19), 3) := by decide +kernel
theorem dX12_ways_82 : decode cX12_ways 82 = .ok (.aload_n 0, 1) := by decide +kernel
theorem dX12_ways_83 : decode cX12_ways 83 = .ok (.getfield 57, 3) := by decide +kernel
theorem dX12_ways_86 : decode cX12_ways 86 = .ok (.bipush 41, 2) := by decide +kernel
theorem dX12_ways_88 : decode cX12_ways 88 = .ok (.iconst 4, 1) := by decide +kernel
theorem dX12_ways_89 : decode cX12_ways 89 = .ok (.aload_n 0, 1) := by decide +kernel
theorem dX12_ways_90 : decode cX12_ways 90 = .ok (.getfield 13, 3) := by decide +kernel
theorem dX12_ways_93 : decode cX12_ways 93 = .ok (.bipush 36, 2) := by decide +kernel
theorem dX12_ways_95 : decode cX12_ways 95 = .ok (.iload_n 1, 1) := by decide +kernel
theorem dX12_ways_96 : decode cX12_ways 96 = .ok (.iadd, 1) := by decide +kernel
theorem dX12_ways_97 : decode cX12_ways 97 = .ok (.iaload, 1) := by decide +kernel
theorem dX12_ways_98 : decode cX12_ways 98 = .ok (.imul, 1) := by decide +kernel
theorem dX12_ways_99 : decode cX12_ways 99 = .ok (.aload_n 0, 1) := by decide +kernel
theorem dX12_ways_100 : decode cX12_ways 100 = .ok (.getfield 13, 3) := by decide +kernel
theorem dX12_ways_103 : decode cX12_ways 103 = .ok (.bipush 41, 2) := by decide +kernel
theorem dX12_ways_105 : decode cX12_ways 105 = .ok (.iload_n 1, 1) := by decide +kernel
theorem dX12_ways_106 : decode cX12_ways 106 = .ok (.iadd, 1) := by decide +kernel
theorem dX12_ways_107 : decode cX12_ways 107 = .ok (.iaload, 1) := by decide +kernel
theorem dX12_ways_108 : decode cX12_ways 108 = .ok (.iadd, 1) := by decide +kernel
theorem dX12_ways_109 : decode cX12_ways 109 = .ok (.imul, 1) := by decide +kernel
theorem dX12_ways_110 : decode cX12_ways 110 = .ok (.lconst 1, 1) := by decide +kernel
theorem dX12_ways_111 : decode cX12_ways 111 = .ok (.lastore, 1) := by decide +kernel
theorem dX12_ways_112 : decode cX12_ways 112 = .ok (.iconst 0, 1) := by decide +kernel
theorem dX12_ways_113 : decode cX12_ways 113 = .ok (.istore 5, 2) := by decide +kernel
theorem dX12_ways_115 : decode cX12_ways 115 = .ok (.iload 5, 2) := by decide +kernel
theorem dX12_ways_117 : decode cX12_ways 117 = .ok (.iload_n 3, 1) := by decide +kernel
theorem dX12_ways_118 : decode cX12_ways 118 = .ok (.if_icmp .ge 95, 3) := by decide +kernel
theorem dX12_ways_121 : decode cX12_ways 121 = .ok (.iconst 0, 1) := by decide +kernel
theorem dX12_ways_122 : decode cX12_ways 122 = .ok (.istore 6, 2) := by decide +kernel
theorem dX12_ways_124 : decode cX12_ways 124 = .ok (.iload 6, 2) := by decide +kernel
theorem dX12_ways_126 : decode cX12_ways 126 = .ok (.sipush 4100, 3) := by decide +kernel
theorem dX12_ways_129 : decode cX12_ways 129 = .ok (.if_icmp .ge 17, 3) := by decide +kernel
theorem dX12_ways_132 : decode cX12_ways 132 = .ok (.aload_n 0, 1) := by decide +kernel
theorem dX12_ways_133 : decode cX12_ways 133 = .ok (.getfield 61, 3) := by decide +kernel
theorem dX12_ways_136 : decode cX12_ways 136 = .ok (.iload 6, 2) := by decide +kernel
theorem dX12_ways_138 : decode cX12_ways 138 = .ok (.lconst 0, 1) := by decide +kernel
theorem dX12_ways_139 : decode cX12_ways 139 = .ok (.lastore, 1) := by decide +kernel
theorem dX12_ways_140 : decode cX12_ways 140 = .ok (.iinc 6 1, 3) := by decide +kernel
theorem dX12_ways_143 : decode cX12_ways 143 = .ok (.goto (-19), 3) := by decide +kernel
theorem dX12_ways_146 : decode cX12_ways 146 = .ok (.iconst 0, 1) := by decide +kernel
theorem dX12_ways_147 : decode cX12_ways 147 = .ok (.istore 6, 2) := by decide +kernel
theorem dX12_ways_149 : decode cX12_ways 149 = .ok (.iload 6, 2) := by decide +kernel
theorem dX12_ways_151 : decode cX12_ways 151 = .ok (.iconst 4, 1) := by decide +kernel
theorem dX12_ways_152 : decode cX12_ways 152 = .ok (.aload_n 0, 1) := by decide +kernel
theorem dX12_ways_153 : decode cX12_ways 153 = .ok (.invokevirtual 233, 3) := by decide +kernel
theorem dX12_ways_156 : decode cX12_ways 156 = .ok (.imul, 1) := by decide +kernel
theorem dX12_ways_157 : decode cX12_ways 157 = .ok (.if_icmp .ge 19, 3) := by decide +kernel
theorem dX12_ways_160 : decode cX12_ways 160 = .ok (.aload_n 0, 1) := by decide +kernel
theorem dX12_ways_161 : decode cX12_ways 161 = .ok (.iload 5, 2) := by decide +kernel
theorem dX12_ways_163 : decode cX12_ways 163 = .ok (.iload 6, 2) := by decide +kernel
theorem dX12_ways_165 : decode cX12_ways 165 = .ok (.iload 4, 2) := by decide +kernel
theorem dX12_ways_167 : decode cX12_ways 167 = .ok (.invokevirtual 410, 3) := by decide +kernel
theorem dX12_ways_170 : decode cX12_ways 170 = .ok (.iinc 6 1, 3) := by decide +kernel
theorem dX12_ways_173 : decode cX12_ways 173 = .ok (.goto (-24), 3) := by decide +kernel
theorem dX12_ways_176 : decode cX12_ways 176 = .ok (.iconst 0, 1) := by decide +kernel
theorem dX12_ways_177 : decode cX12_ways 177 = .ok (.istore 6, 2) := by decide +kernel
theorem dX12_ways_179 : decode cX12_ways 179 = .ok (.iload 6, 2) := by decide +kernel
theorem dX12_ways_181 : decode cX12_ways 181 = .ok (.sipush 4100, 3) := by decide +kernel
theorem dX12_ways_184 : decode cX12_ways 184 = .ok (.if_icmp .ge 23, 3) := by decide +kernel
theorem dX12_ways_187 : decode cX12_ways 187 = .ok (.aload_n 0, 1) := by decide +kernel
theorem dX12_ways_188 : decode cX12_ways 188 = .ok (.getfield 57, 3) := by decide +kernel
theorem dX12_ways_191 : decode cX12_ways 191 = .ok (.iload 6, 2) := by decide +kernel
theorem dX12_ways_193 : decode cX12_ways 193 = .ok (.aload_n 0, 1) := by decide +kernel
theorem dX12_ways_194 : decode cX12_ways 194 = .ok (.getfield 61, 3) := by decide +kernel
theorem dX12_ways_197 : decode cX12_ways 197 = .ok (.iload 6, 2) := by decide +kernel
theorem dX12_ways_199 : decode cX12_ways 199 = .ok (.laload, 1) := by decide +kernel
theorem dX12_ways_200 : decode cX12_ways 200 = .ok (.lastore, 1) := by decide +kernel
theorem dX12_ways_201 : decode cX12_ways 201 = .ok (.iinc 6 1, 3) := by decide +kernel
theorem dX12_ways_204 : decode cX12_ways 204 = .ok (.goto (-25), 3) := by decide +kernel
theorem dX12_ways_207 : decode cX12_ways 207 = .ok (.iinc 5 1, 3) := by decide +kernel
theorem dX12_ways_210 : decode cX12_ways 210 = .ok (.goto (-95), 3) := by decide +kernel
theorem dX12_ways_213 : decode cX12_ways 213 = .ok (.lconst 0, 1) := by decide +kernel
theorem dX12_ways_214 : decode cX12_ways 214 = .ok (.lstore 5, 2) := by decide +kernel
theorem dX12_ways_216 : decode cX12_ways 216 = .ok (.iconst 0, 1) := by decide +kernel
theorem dX12_ways_217 : decode cX12_ways 217 = .ok (.istore 7, 2) := by decide +kernel
theorem dX12_ways_219 : decode cX12_ways 219 = .ok (.iload 7, 2) := by decide +kernel
theorem dX12_ways_221 : decode cX12_ways 221 = .ok (.iconst 4, 1) := by decide +kernel
theorem dX12_ways_222 : decode cX12_ways 222 = .ok (.if_icmp .ge 47, 3) := by decide +kernel
theorem dX12_ways_225 : decode cX12_ways 225 = .ok (.iconst 0, 1) := by decide +kernel
theorem dX12_ways_226 : decode cX12_ways 226 = .ok (.istore 8, 2) := by decide +kernel
theorem dX12_ways_228 : decode cX12_ways 228 = .ok (.iload 8, 2) := by decide +kernel
theorem dX12_ways_230 : decode cX12_ways 230 = .ok (.iload 4, 2) := by decide +kernel
theorem dX12_ways_232 : decode cX12_ways 232 = .ok (.if_icmp .gt 31, 3) := by decide +kernel
theorem dX12_ways_235 : decode cX12_ways 235 = .ok (.lload 5, 2) := by decide +kernel
theorem dX12_ways_237 : decode cX12_ways 237 = .ok (.aload_n 0, 1) := by decide +kernel
theorem dX12_ways_238 : decode cX12_ways 238 = .ok (.getfield 57, 3) := by decide +kernel
theorem dX12_ways_241 : decode cX12_ways 241 = .ok (.bipush 41, 2) := by decide +kernel
theorem dX12_ways_243 : decode cX12_ways 243 = .ok (.iconst 4, 1) := by decide +kernel
theorem dX12_ways_244 : decode cX12_ways 244 = .ok (.iload_n 2, 1) := by decide +kernel
theorem dX12_ways_245 : decode cX12_ways 245 = .ok (.imul, 1) := by decide +kernel
theorem dX12_ways_246 : decode cX12_ways 246 = .ok (.iload 7, 2) := by decide +kernel
theorem dX12_ways_248 : decode cX12_ways 248 = .ok (.iadd, 1) := by decide +kernel
theorem dX12_ways_249 : decode cX12_ways 249 = .ok (.imul, 1) := by decide +kernel
theorem dX12_ways_250 : decode cX12_ways 250 = .ok (.iload 8, 2) := by decide +kernel
theorem dX12_ways_252 : decode cX12_ways 252 = .ok (.iadd, 1) := by decide +kernel
theorem dX12_ways_253 : decode cX12_ways 253 = .ok (.laload, 1) := by decide +kernel
theorem dX12_ways_254 : decode cX12_ways 254 = .ok (.ladd, 1) := by decide +kernel
theorem dX12_ways_255 : decode cX12_ways 255 = .ok (.lstore 5, 2) := by decide +kernel
theorem dX12_ways_257 : decode cX12_ways 257 = .ok (.iinc 8 1, 3) := by decide +kernel
theorem dX12_ways_260 : decode cX12_ways 260 = .ok (.goto (-32), 3) := by decide +kernel
theorem dX12_ways_263 : decode cX12_ways 263 = .ok (.iinc 7 1, 3) := by decide +kernel
theorem dX12_ways_266 : decode cX12_ways 266 = .ok (.goto (-47), 3) := by decide +kernel
theorem dX12_ways_269 : decode cX12_ways 269 = .ok (.lload 5, 2) := by decide +kernel
theorem dX12_ways_271 : decode cX12_ways 271 = .ok (.lreturn, 1) := by decide +kernel
theorem o36_1 {x0 : Int} (h0 : 0 ≤ x0) (h1 : x0 ≤ 61) (h2 : 61 - x0 < 0) : False := by omega
theorem o36_2 {x0 : Int} (h0 : 0 ≤ x0) (h1 : x0 ≤ 25) (h2 : 25 - x0 < 0) : False := by omega
theorem o36_3 {x0 x1 : Int} {x2 : Nat} (h0 : 0 ≤ x1) (h1 : x1 ≤ 60) (h2 : 0 ≤ x0) (h3 : x0 ≤ 61) (h4 : 61 - x0 < ((x2 + 1 : Nat) : Int)) (h5 : x0 ≤ x1) (h6 : -2147483648 ≤ x0) (h7 : x0 ≤ 2147483647) (h8 : -2147483648 ≤ x1) (h9 : x1 ≤ 2147483647) : -2147483648 ≤ x0 + 1 := by omega
theorem o36_4 {x0 x1 : Int} {x2 : Nat} (h0 : 0 ≤ x1) (h1 : x1 ≤ 60) (h2 : 0 ≤ x0) (h3 : x0 ≤ 61) (h4 : 61 - x0 < ((x2 + 1 : Nat) : Int)) (h5 : x0 ≤ x1) (h6 : -2147483648 ≤ x0) (h7 : x0 ≤ 2147483647) (h8 : -2147483648 ≤ x1) (h9 : x1 ≤ 2147483647) : x0 + 1 ≤ 2147483647 := by omega
theorem o36_5 {x0 x2 x3 : Int} {x1 : Nat} (h0 : 0 ≤ x2) (h1 : x2 ≤ 60) (h2 : 0 ≤ x3) (h3 : x3 ≤ 61) (h4 : 61 - x3 < ((x1 + 1 : Nat) : Int)) (h5 : x3 ≤ x2) (h6 : x0 = x3 + 1) : 61 - x0 < (x1 : Int) := by omega
theorem o36_6 {x0 x1 x2 : Int} {x3 : Nat} (h0 : 0 ≤ x1) (h1 : x1 ≤ 60) (h2 : 0 ≤ x2) (h3 : x2 ≤ 61) (h4 : 61 - x2 < ((x3 + 1 : Nat) : Int)) (h5 : x2 ≤ x1) (h6 : x0 = x2 + 1) : 0 ≤ x0 := by omega
theorem o36_7 {x0 x1 x2 : Int} {x3 : Nat} (h0 : 0 ≤ x1) (h1 : x1 ≤ 60) (h2 : 0 ≤ x2) (h3 : x2 ≤ 61) (h4 : 61 - x2 < ((x3 + 1 : Nat) : Int)) (h5 : x2 ≤ x1) (h6 : x0 = x2 + 1) : x0 ≤ 61 := by omega
theorem o36_8 {x0 : Int} (h0 : x0 = 25) : x0 = 25 := by omega
theorem o36_9 {x0 x1 : Int} {x2 : Nat} (h0 : 0 ≤ x1) (h1 : x1 ≤ 60) (h2 : 0 ≤ x0) (h3 : x0 ≤ 61) (h4 : 61 - x0 < ((x2 + 1 : Nat) : Int)) (h5 : x0 ≤ x1) (h6 : -2147483648 ≤ x0) (h7 : x0 ≤ 2147483647) (h8 : -2147483648 ≤ x1) (h9 : x1 ≤ 2147483647) : -2147483648 ≤ 25 * x0 := by omega
theorem o36_10 {x0 x1 : Int} {x2 : Nat} (h0 : 0 ≤ x1) (h1 : x1 ≤ 60) (h2 : 0 ≤ x0) (h3 : x0 ≤ 61) (h4 : 61 - x0 < ((x2 + 1 : Nat) : Int)) (h5 : x0 ≤ x1) (h6 : -2147483648 ≤ x0) (h7 : x0 ≤ 2147483647) (h8 : -2147483648 ≤ x1) (h9 : x1 ≤ 2147483647) : 25 * x0 ≤ 2147483647 := by omega
theorem o36_11 {x0 x1 x2 x3 x6 : Int} {x4 x5 : Nat} (h0 : 0 ≤ x2) (h1 : x2 ≤ 60) (h2 : 0 ≤ x3) (h3 : x3 ≤ 61) (h4 : 61 - x3 < ((x4 + 1 : Nat) : Int)) (h5 : x3 ≤ x2) (h6 : 0 ≤ x1) (h7 : x1 ≤ 25) (h8 : 25 - x1 < ((x5 + 1 : Nat) : Int)) (h9 : 0 ≤ x6) (h10 : x6 ≤ 25) (h11 : x1 < x6) (h12 : x0 = 25 * x3) (h13 : -2147483648 ≤ x0) (h14 : x0 ≤ 2147483647) (h15 : -2147483648 ≤ x1) (h16 : x1 ≤ 2147483647) (h17 : -2147483648 ≤ x2) (h18 : x2 ≤ 2147483647) (h19 : -2147483648 ≤ x3) (h20 : x3 ≤ 2147483647) (h21 : -2147483648 ≤ x6) (h22 : x6 ≤ 2147483647) : -2147483648 ≤ x0 + x1 := by omega
theorem o36_12 {x0 x1 x2 x3 x6 : Int} {x4 x5 : Nat} (h0 : 0 ≤ x2) (h1 : x2 ≤ 60) (h2 : 0 ≤ x3) (h3 : x3 ≤ 61) (h4 : 61 - x3 < ((x4 + 1 : Nat) : Int)) (h5 : x3 ≤ x2) (h6 : 0 ≤ x1) (h7 : x1 ≤ 25) (h8 : 25 - x1 < ((x5 + 1 : Nat) : Int)) (h9 : 0 ≤ x6) (h10 : x6 ≤ 25) (h11 : x1 < x6) (h12 : x0 = 25 * x3) (h13 : -2147483648 ≤ x0) (h14 : x0 ≤ 2147483647) (h15 : -2147483648 ≤ x1) (h16 : x1 ≤ 2147483647) (h17 : -2147483648 ≤ x2) (h18 : x2 ≤ 2147483647) (h19 : -2147483648 ≤ x3) (h20 : x3 ≤ 2147483647) (h21 : -2147483648 ≤ x6) (h22 : x6 ≤ 2147483647) : x0 + x1 ≤ 2147483647 := by omega
theorem o36_13 {x0 x1 x2 x5 x6 x7 : Int} {x3 x4 : Nat} (h0 : 0 ≤ x1) (h1 : x1 ≤ 60) (h2 : 0 ≤ x2) (h3 : x2 ≤ 61) (h4 : 61 - x2 < ((x3 + 1 : Nat) : Int)) (h5 : x2 ≤ x1) (h6 : 0 ≤ x0) (h7 : x0 ≤ 25) (h8 : 25 - x0 < ((x4 + 1 : Nat) : Int)) (h9 : 0 ≤ x5) (h10 : x5 ≤ 25) (h11 : x0 < x5) (h12 : x6 = 25 * x2) (h13 : x7 = x6 + x0) : 0 ≤ x0 := by omega
theorem o36_14 {x0 x1 x2 x5 x6 x7 : Int} {x3 x4 : Nat} (h0 : 0 ≤ x1) (h1 : x1 ≤ 60) (h2 : 0 ≤ x2) (h3 : x2 ≤ 61) (h4 : 61 - x2 < ((x3 + 1 : Nat) : Int)) (h5 : x2 ≤ x1) (h6 : 0 ≤ x0) (h7 : x0 ≤ 25) (h8 : 25 - x0 < ((x4 + 1 : Nat) : Int)) (h9 : 0 ≤ x5) (h10 : x5 ≤ 25) (h11 : x0 < x5) (h12 : x6 = 25 * x2) (h13 : x7 = x6 + x0) : x0 ≤ 24 := by omega
theorem o36_15 {x0 x1 x2 x4 x6 x7 : Int} {x3 x5 : Nat} (h0 : 0 ≤ x1) (h1 : x1 ≤ 60) (h2 : 0 ≤ x2) (h3 : x2 ≤ 61) (h4 : 61 - x2 < ((x3 + 1 : Nat) : Int)) (h5 : x2 ≤ x1) (h6 : 0 ≤ x4) (h7 : x4 ≤ 25) (h8 : 25 - x4 < ((x5 + 1 : Nat) : Int)) (h9 : 0 ≤ x6) (h10 : x6 ≤ 25) (h11 : x4 < x6) (h12 : x7 = 25 * x2) (h13 : x0 = x7 + x4) : 0 ≤ x0 := by omega
theorem o36_16 {x0 x1 x2 x4 x6 x7 : Int} {x3 x5 : Nat} (h0 : 0 ≤ x1) (h1 : x1 ≤ 60) (h2 : 0 ≤ x2) (h3 : x2 ≤ 61) (h4 : 61 - x2 < ((x3 + 1 : Nat) : Int)) (h5 : x2 ≤ x1) (h6 : 0 ≤ x4) (h7 : x4 ≤ 25) (h8 : 25 - x4 < ((x5 + 1 : Nat) : Int)) (h9 : 0 ≤ x6) (h10 : x6 ≤ 25) (h11 : x4 < x6) (h12 : x7 = 25 * x2) (h13 : x0 = x7 + x4) : x0 < (1525 : Nat) := by omega
theorem o36_17 {x0 : Int} (h0 : 0 ≤ x0) (h1 : x0 ≤ 1) : 0 ≤ x0 := by omega
theorem o36_18 {x0 : Int} (h0 : 0 ≤ x0) (h1 : x0 ≤ 1) : x0 ≤ 1 := by omega
theorem o36_19 {x0 : Int} (h0 : 0 ≤ x0) (h1 : x0 ≤ 4) (h2 : 4 - x0 < 0) : False := by omega
theorem o36_20 {x0 x1 x2 x5 x6 x7 : Int} {x3 x4 : Nat} (h0 : 0 ≤ x1) (h1 : x1 ≤ 60) (h2 : 0 ≤ x2) (h3 : x2 ≤ 61) (h4 : 61 - x2 < ((x3 + 1 : Nat) : Int)) (h5 : x2 ≤ x1) (h6 : 0 ≤ x0) (h7 : x0 ≤ 25) (h8 : 25 - x0 < ((x4 + 1 : Nat) : Int)) (h9 : 0 ≤ x5) (h10 : x5 ≤ 25) (h11 : x0 < x5) (h12 : x6 = 25 * x2) (h13 : x7 = x6 + x0) (h14 : -2147483648 ≤ x0) (h15 : x0 ≤ 2147483647) (h16 : -2147483648 ≤ x1) (h17 : x1 ≤ 2147483647) (h18 : -2147483648 ≤ x2) (h19 : x2 ≤ 2147483647) (h20 : -2147483648 ≤ x5) (h21 : x5 ≤ 2147483647) (h22 : -2147483648 ≤ x6) (h23 : x6 ≤ 2147483647) (h24 : -2147483648 ≤ x7) (h25 : x7 ≤ 2147483647) : -2147483648 ≤ x0 + 1 := by omega
theorem o36_21 {x0 x1 x2 x5 x6 x7 : Int} {x3 x4 : Nat} (h0 : 0 ≤ x1) (h1 : x1 ≤ 60) (h2 : 0 ≤ x2) (h3 : x2 ≤ 61) (h4 : 61 - x2 < ((x3 + 1 : Nat) : Int)) (h5 : x2 ≤ x1) (h6 : 0 ≤ x0) (h7 : x0 ≤ 25) (h8 : 25 - x0 < ((x4 + 1 : Nat) : Int)) (h9 : 0 ≤ x5) (h10 : x5 ≤ 25) (h11 : x0 < x5) (h12 : x6 = 25 * x2) (h13 : x7 = x6 + x0) (h14 : -2147483648 ≤ x0) (h15 : x0 ≤ 2147483647) (h16 : -2147483648 ≤ x1) (h17 : x1 ≤ 2147483647) (h18 : -2147483648 ≤ x2) (h19 : x2 ≤ 2147483647) (h20 : -2147483648 ≤ x5) (h21 : x5 ≤ 2147483647) (h22 : -2147483648 ≤ x6) (h23 : x6 ≤ 2147483647) (h24 : -2147483648 ≤ x7) (h25 : x7 ≤ 2147483647) : x0 + 1 ≤ 2147483647 := by omega
theorem o36_22 {x0 x2 x3 x5 x6 x7 x8 : Int} {x1 x4 : Nat} (h0 : 0 ≤ x2) (h1 : x2 ≤ 60) (h2 : 0 ≤ x3) (h3 : x3 ≤ 61) (h4 : 61 - x3 < ((x4 + 1 : Nat) : Int)) (h5 : x3 ≤ x2) (h6 : 0 ≤ x5) (h7 : x5 ≤ 25) (h8 : 25 - x5 < ((x1 + 1 : Nat) : Int)) (h9 : 0 ≤ x6) (h10 : x6 ≤ 25) (h11 : x5 < x6) (h12 : x7 = 25 * x3) (h13 : x8 = x7 + x5) (h14 : x0 = x5 + 1) : 25 - x0 < (x1 : Int) := by omega
theorem o36_23 {x0 x1 x2 x4 x6 x7 x8 : Int} {x3 x5 : Nat} (h0 : 0 ≤ x1) (h1 : x1 ≤ 60) (h2 : 0 ≤ x2) (h3 : x2 ≤ 61) (h4 : 61 - x2 < ((x3 + 1 : Nat) : Int)) (h5 : x2 ≤ x1) (h6 : 0 ≤ x4) (h7 : x4 ≤ 25) (h8 : 25 - x4 < ((x5 + 1 : Nat) : Int)) (h9 : 0 ≤ x6) (h10 : x6 ≤ 25) (h11 : x4 < x6) (h12 : x7 = 25 * x2) (h13 : x8 = x7 + x4) (h14 : x0 = x4 + 1) : 0 ≤ x0 := by omega
theorem o36_24 {x0 x1 x2 x4 x6 x7 x8 : Int} {x3 x5 : Nat} (h0 : 0 ≤ x1) (h1 : x1 ≤ 60) (h2 : 0 ≤ x2) (h3 : x2 ≤ 61) (h4 : 61 - x2 < ((x3 + 1 : Nat) : Int)) (h5 : x2 ≤ x1) (h6 : 0 ≤ x4) (h7 : x4 ≤ 25) (h8 : 25 - x4 < ((x5 + 1 : Nat) : Int)) (h9 : 0 ≤ x6) (h10 : x6 ≤ 25) (h11 : x4 < x6) (h12 : x7 = 25 * x2) (h13 : x8 = x7 + x4) (h14 : x0 = x4 + 1) : x0 ≤ 25 := by omega
theorem o36_25 {x0 : Int} (h0 : x0 = 100) : x0 = 100 := by omega
theorem o36_26 {x0 x1 x3 x5 x6 x7 : Int} {x2 x4 : Nat} (h0 : 0 ≤ x1) (h1 : x1 ≤ 60) (h2 : 0 ≤ x0) (h3 : x0 ≤ 61) (h4 : 61 - x0 < ((x2 + 1 : Nat) : Int)) (h5 : x0 ≤ x1) (h6 : 0 ≤ x3) (h7 : x3 ≤ 25) (h8 : 25 - x3 < ((x4 + 1 : Nat) : Int)) (h9 : 0 ≤ x5) (h10 : x5 ≤ 25) (h11 : x3 < x5) (h12 : x6 = 25 * x0) (h13 : x7 = x6 + x3) (h14 : -2147483648 ≤ x0) (h15 : x0 ≤ 2147483647) (h16 : -2147483648 ≤ x1) (h17 : x1 ≤ 2147483647) (h18 : -2147483648 ≤ x3) (h19 : x3 ≤ 2147483647) (h20 : -2147483648 ≤ x5) (h21 : x5 ≤ 2147483647) (h22 : -2147483648 ≤ x6) (h23 : x6 ≤ 2147483647) (h24 : -2147483648 ≤ x7) (h25 : x7 ≤ 2147483647) : -2147483648 ≤ 100 * x0 := by omega
theorem o36_27 {x0 x1 x3 x5 x6 x7 : Int} {x2 x4 : Nat} (h0 : 0 ≤ x1) (h1 : x1 ≤ 60) (h2 : 0 ≤ x0) (h3 : x0 ≤ 61) (h4 : 61 - x0 < ((x2 + 1 : Nat) : Int)) (h5 : x0 ≤ x1) (h6 : 0 ≤ x3) (h7 : x3 ≤ 25) (h8 : 25 - x3 < ((x4 + 1 : Nat) : Int)) (h9 : 0 ≤ x5) (h10 : x5 ≤ 25) (h11 : x3 < x5) (h12 : x6 = 25 * x0) (h13 : x7 = x6 + x3) (h14 : -2147483648 ≤ x0) (h15 : x0 ≤ 2147483647) (h16 : -2147483648 ≤ x1) (h17 : x1 ≤ 2147483647) (h18 : -2147483648 ≤ x3) (h19 : x3 ≤ 2147483647) (h20 : -2147483648 ≤ x5) (h21 : x5 ≤ 2147483647) (h22 : -2147483648 ≤ x6) (h23 : x6 ≤ 2147483647) (h24 : -2147483648 ≤ x7) (h25 : x7 ≤ 2147483647) : 100 * x0 ≤ 2147483647 := by omega
theorem o36_28 {x0 : Int} (h0 : x0 = 4) : x0 = 4 := by omega
theorem o36_29 {x0 x1 x2 x5 x6 x7 x8 : Int} {x3 x4 : Nat} (h0 : 0 ≤ x1) (h1 : x1 ≤ 60) (h2 : 0 ≤ x2) (h3 : x2 ≤ 61) (h4 : 61 - x2 < ((x3 + 1 : Nat) : Int)) (h5 : x2 ≤ x1) (h6 : 0 ≤ x0) (h7 : x0 ≤ 25) (h8 : 25 - x0 < ((x4 + 1 : Nat) : Int)) (h9 : 0 ≤ x5) (h10 : x5 ≤ 25) (h11 : x0 < x5) (h12 : x6 = 25 * x2) (h13 : x7 = x6 + x0) (h14 : x8 = 100 * x2) (h15 : -2147483648 ≤ x0) (h16 : x0 ≤ 2147483647) (h17 : -2147483648 ≤ x1) (h18 : x1 ≤ 2147483647) (h19 : -2147483648 ≤ x2) (h20 : x2 ≤ 2147483647) (h21 : -2147483648 ≤ x5) (h22 : x5 ≤ 2147483647) (h23 : -2147483648 ≤ x6) (h24 : x6 ≤ 2147483647) (h25 : -2147483648 ≤ x7) (h26 : x7 ≤ 2147483647) (h27 : -2147483648 ≤ x8) (h28 : x8 ≤ 2147483647) : -2147483648 ≤ 4 * x0 := by omega
theorem o36_30 {x0 x1 x2 x5 x6 x7 x8 : Int} {x3 x4 : Nat} (h0 : 0 ≤ x1) (h1 : x1 ≤ 60) (h2 : 0 ≤ x2) (h3 : x2 ≤ 61) (h4 : 61 - x2 < ((x3 + 1 : Nat) : Int)) (h5 : x2 ≤ x1) (h6 : 0 ≤ x0) (h7 : x0 ≤ 25) (h8 : 25 - x0 < ((x4 + 1 : Nat) : Int)) (h9 : 0 ≤ x5) (h10 : x5 ≤ 25) (h11 : x0 < x5) (h12 : x6 = 25 * x2) (h13 : x7 = x6 + x0) (h14 : x8 = 100 * x2) (h15 : -2147483648 ≤ x0) (h16 : x0 ≤ 2147483647) (h17 : -2147483648 ≤ x1) (h18 : x1 ≤ 2147483647) (h19 : -2147483648 ≤ x2) (h20 : x2 ≤ 2147483647) (h21 : -2147483648 ≤ x5) (h22 : x5 ≤ 2147483647) (h23 : -2147483648 ≤ x6) (h24 : x6 ≤ 2147483647) (h25 : -2147483648 ≤ x7) (h26 : x7 ≤ 2147483647) (h27 : -2147483648 ≤ x8) (h28 : x8 ≤ 2147483647) : 4 * x0 ≤ 2147483647 := by omega
theorem o36_31 {x0 x1 x2 x3 x5 x7 x8 x9 : Int} {x4 x6 : Nat} (h0 : 0 ≤ x2) (h1 : x2 ≤ 60) (h2 : 0 ≤ x3) (h3 : x3 ≤ 61) (h4 : 61 - x3 < ((x4 + 1 : Nat) : Int)) (h5 : x3 ≤ x2) (h6 : 0 ≤ x5) (h7 : x5 ≤ 25) (h8 : 25 - x5 < ((x6 + 1 : Nat) : Int)) (h9 : 0 ≤ x7) (h10 : x7 ≤ 25) (h11 : x5 < x7) (h12 : x8 = 25 * x3) (h13 : x9 = x8 + x5) (h14 : x0 = 100 * x3) (h15 : x1 = 4 * x5) (h16 : -2147483648 ≤ x0) (h17 : x0 ≤ 2147483647) (h18 : -2147483648 ≤ x1) (h19 : x1 ≤ 2147483647) (h20 : -2147483648 ≤ x2) (h21 : x2 ≤ 2147483647) (h22 : -2147483648 ≤ x3) (h23 : x3 ≤ 2147483647) (h24 : -2147483648 ≤ x5) (h25 : x5 ≤ 2147483647) (h26 : -2147483648 ≤ x7) (h27 : x7 ≤ 2147483647) (h28 : -2147483648 ≤ x8) (h29 : x8 ≤ 2147483647) (h30 : -2147483648 ≤ x9) (h31 : x9 ≤ 2147483647) : -2147483648 ≤ x0 + x1 := by omega
theorem o36_32 {x0 x1 x2 x3 x5 x7 x8 x9 : Int} {x4 x6 : Nat} (h0 : 0 ≤ x2) (h1 : x2 ≤ 60) (h2 : 0 ≤ x3) (h3 : x3 ≤ 61) (h4 : 61 - x3 < ((x4 + 1 : Nat) : Int)) (h5 : x3 ≤ x2) (h6 : 0 ≤ x5) (h7 : x5 ≤ 25) (h8 : 25 - x5 < ((x6 + 1 : Nat) : Int)) (h9 : 0 ≤ x7) (h10 : x7 ≤ 25) (h11 : x5 < x7) (h12 : x8 = 25 * x3) (h13 : x9 = x8 + x5) (h14 : x0 = 100 * x3) (h15 : x1 = 4 * x5) (h16 : -2147483648 ≤ x0) (h17 : x0 ≤ 2147483647) (h18 : -2147483648 ≤ x1) (h19 : x1 ≤ 2147483647) (h20 : -2147483648 ≤ x2) (h21 : x2 ≤ 2147483647) (h22 : -2147483648 ≤ x3) (h23 : x3 ≤ 2147483647) (h24 : -2147483648 ≤ x5) (h25 : x5 ≤ 2147483647) (h26 : -2147483648 ≤ x7) (h27 : x7 ≤ 2147483647) (h28 : -2147483648 ≤ x8) (h29 : x8 ≤ 2147483647) (h30 : -2147483648 ≤ x9) (h31 : x9 ≤ 2147483647) : x0 + x1 ≤ 2147483647 := by omega
theorem o36_33 {x0 x1 x2 x3 x5 x7 x8 x9 x11 x12 x13 : Int} {x4 x6 x10 : Nat} (h0 : 0 ≤ x2) (h1 : x2 ≤ 60) (h2 : 0 ≤ x3) (h3 : x3 ≤ 61) (h4 : 61 - x3 < ((x4 + 1 : Nat) : Int)) (h5 : x3 ≤ x2) (h6 : 0 ≤ x5) (h7 : x5 ≤ 25) (h8 : 25 - x5 < ((x6 + 1 : Nat) : Int)) (h9 : 0 ≤ x7) (h10 : x7 ≤ 25) (h11 : x5 < x7) (h12 : x8 = 25 * x3) (h13 : x9 = x8 + x5) (h14 : 0 ≤ x1) (h15 : x1 ≤ 4) (h16 : 4 - x1 < ((x10 + 1 : Nat) : Int)) (h17 : x11 = 4) (h18 : x1 < x11) (h19 : x12 = 100 * x3) (h20 : x13 = 4 * x5) (h21 : x0 = x12 + x13) (h22 : -2147483648 ≤ x0) (h23 : x0 ≤ 2147483647) (h24 : -2147483648 ≤ x1) (h25 : x1 ≤ 2147483647) (h26 : -2147483648 ≤ x2) (h27 : x2 ≤ 2147483647) (h28 : -2147483648 ≤ x3) (h29 : x3 ≤ 2147483647) (h30 : -2147483648 ≤ x5) (h31 : x5 ≤ 2147483647) (h32 : -2147483648 ≤ x7) (h33 : x7 ≤ 2147483647) (h34 : -2147483648 ≤ x8) (h35 : x8 ≤ 2147483647) (h36 : -2147483648 ≤ x9) (h37 : x9 ≤ 2147483647) (h38 : -2147483648 ≤ x11) (h39 : x11 ≤ 2147483647) (h40 : -2147483648 ≤ x12) (h41 : x12 ≤ 2147483647) (h42 : -2147483648 ≤ x13) (h43 : x13 ≤ 2147483647) : -2147483648 ≤ x0 + x1 := by omega
theorem o36_34 {x0 x1 x2 x3 x5 x7 x8 x9 x11 x12 x13 : Int} {x4 x6 x10 : Nat} (h0 : 0 ≤ x2) (h1 : x2 ≤ 60) (h2 : 0 ≤ x3) (h3 : x3 ≤ 61) (h4 : 61 - x3 < ((x4 + 1 : Nat) : Int)) (h5 : x3 ≤ x2) (h6 : 0 ≤ x5) (h7 : x5 ≤ 25) (h8 : 25 - x5 < ((x6 + 1 : Nat) : Int)) (h9 : 0 ≤ x7) (h10 : x7 ≤ 25) (h11 : x5 < x7) (h12 : x8 = 25 * x3) (h13 : x9 = x8 + x5) (h14 : 0 ≤ x1) (h15 : x1 ≤ 4) (h16 : 4 - x1 < ((x10 + 1 : Nat) : Int)) (h17 : x11 = 4) (h18 : x1 < x11) (h19 : x12 = 100 * x3) (h20 : x13 = 4 * x5) (h21 : x0 = x12 + x13) (h22 : -2147483648 ≤ x0) (h23 : x0 ≤ 2147483647) (h24 : -2147483648 ≤ x1) (h25 : x1 ≤ 2147483647) (h26 : -2147483648 ≤ x2) (h27 : x2 ≤ 2147483647) (h28 : -2147483648 ≤ x3) (h29 : x3 ≤ 2147483647) (h30 : -2147483648 ≤ x5) (h31 : x5 ≤ 2147483647) (h32 : -2147483648 ≤ x7) (h33 : x7 ≤ 2147483647) (h34 : -2147483648 ≤ x8) (h35 : x8 ≤ 2147483647) (h36 : -2147483648 ≤ x9) (h37 : x9 ≤ 2147483647) (h38 : -2147483648 ≤ x11) (h39 : x11 ≤ 2147483647) (h40 : -2147483648 ≤ x12) (h41 : x12 ≤ 2147483647) (h42 : -2147483648 ≤ x13) (h43 : x13 ≤ 2147483647) : x0 + x1 ≤ 2147483647 := by omega
theorem o36_35 {x0 x1 x2 x5 x6 x7 x8 x10 x11 x12 x13 x14 : Int} {x3 x4 x9 : Nat} (h0 : 0 ≤ x1) (h1 : x1 ≤ 60) (h2 : 0 ≤ x2) (h3 : x2 ≤ 61) (h4 : 61 - x2 < ((x3 + 1 : Nat) : Int)) (h5 : x2 ≤ x1) (h6 : 0 ≤ x0) (h7 : x0 ≤ 25) (h8 : 25 - x0 < ((x4 + 1 : Nat) : Int)) (h9 : 0 ≤ x5) (h10 : x5 ≤ 25) (h11 : x0 < x5) (h12 : x6 = 25 * x2) (h13 : x7 = x6 + x0) (h14 : 0 ≤ x8) (h15 : x8 ≤ 4) (h16 : 4 - x8 < ((x9 + 1 : Nat) : Int)) (h17 : x10 = 4) (h18 : x8 < x10) (h19 : x11 = 100 * x2) (h20 : x12 = 4 * x0) (h21 : x13 = x11 + x12) (h22 : x14 = x13 + x8) : 0 ≤ x0 := by omega
theorem o36_36 {x0 x1 x2 x5 x6 x7 x8 x10 x11 x12 x13 x14 : Int} {x3 x4 x9 : Nat} (h0 : 0 ≤ x1) (h1 : x1 ≤ 60) (h2 : 0 ≤ x2) (h3 : x2 ≤ 61) (h4 : 61 - x2 < ((x3 + 1 : Nat) : Int)) (h5 : x2 ≤ x1) (h6 : 0 ≤ x0) (h7 : x0 ≤ 25) (h8 : 25 - x0 < ((x4 + 1 : Nat) : Int)) (h9 : 0 ≤ x5) (h10 : x5 ≤ 25) (h11 : x0 < x5) (h12 : x6 = 25 * x2) (h13 : x7 = x6 + x0) (h14 : 0 ≤ x8) (h15 : x8 ≤ 4) (h16 : 4 - x8 < ((x9 + 1 : Nat) : Int)) (h17 : x10 = 4) (h18 : x8 < x10) (h19 : x11 = 100 * x2) (h20 : x12 = 4 * x0) (h21 : x13 = x11 + x12) (h22 : x14 = x13 + x8) : x0 ≤ 24 := by omega
theorem o36_37 {x0 x1 x2 x4 x6 x7 x8 x10 x11 x12 x13 x14 : Int} {x3 x5 x9 : Nat} (h0 : 0 ≤ x1) (h1 : x1 ≤ 60) (h2 : 0 ≤ x2) (h3 : x2 ≤ 61) (h4 : 61 - x2 < ((x3 + 1 : Nat) : Int)) (h5 : x2 ≤ x1) (h6 : 0 ≤ x4) (h7 : x4 ≤ 25) (h8 : 25 - x4 < ((x5 + 1 : Nat) : Int)) (h9 : 0 ≤ x6) (h10 : x6 ≤ 25) (h11 : x4 < x6) (h12 : x7 = 25 * x2) (h13 : x8 = x7 + x4) (h14 : 0 ≤ x0) (h15 : x0 ≤ 4) (h16 : 4 - x0 < ((x9 + 1 : Nat) : Int)) (h17 : x10 = 4) (h18 : x0 < x10) (h19 : x11 = 100 * x2) (h20 : x12 = 4 * x4) (h21 : x13 = x11 + x12) (h22 : x14 = x13 + x0) : 0 ≤ x0 := by omega
theorem o36_38 {x0 x1 x2 x4 x6 x7 x8 x10 x11 x12 x13 x14 : Int} {x3 x5 x9 : Nat} (h0 : 0 ≤ x1) (h1 : x1 ≤ 60) (h2 : 0 ≤ x2) (h3 : x2 ≤ 61) (h4 : 61 - x2 < ((x3 + 1 : Nat) : Int)) (h5 : x2 ≤ x1) (h6 : 0 ≤ x4) (h7 : x4 ≤ 25) (h8 : 25 - x4 < ((x5 + 1 : Nat) : Int)) (h9 : 0 ≤ x6) (h10 : x6 ≤ 25) (h11 : x4 < x6) (h12 : x7 = 25 * x2) (h13 : x8 = x7 + x4) (h14 : 0 ≤ x0) (h15 : x0 ≤ 4) (h16 : 4 - x0 < ((x9 + 1 : Nat) : Int)) (h17 : x10 = 4) (h18 : x0 < x10) (h19 : x11 = 100 * x2) (h20 : x12 = 4 * x4) (h21 : x13 = x11 + x12) (h22 : x14 = x13 + x0) : x0 ≤ 3 := by omega
theorem o36_39 {x0 x1 x2 x4 x6 x7 x8 x9 x11 x12 x13 x14 : Int} {x3 x5 x10 : Nat} (h0 : 0 ≤ x1) (h1 : x1 ≤ 60) (h2 : 0 ≤ x2) (h3 : x2 ≤ 61) (h4 : 61 - x2 < ((x3 + 1 : Nat) : Int)) (h5 : x2 ≤ x1) (h6 : 0 ≤ x4) (h7 : x4 ≤ 25) (h8 : 25 - x4 < ((x5 + 1 : Nat) : Int)) (h9 : 0 ≤ x6) (h10 : x6 ≤ 25) (h11 : x4 < x6) (h12 : x7 = 25 * x2) (h13 : x8 = x7 + x4) (h14 : 0 ≤ x9) (h15 : x9 ≤ 4) (h16 : 4 - x9 < ((x10 + 1 : Nat) : Int)) (h17 : x11 = 4) (h18 : x9 < x11) (h19 : x12 = 100 * x2) (h20 : x13 = 4 * x4) (h21 : x14 = x12 + x13) (h22 : x0 = x14 + x9) : 0 ≤ x0 := by omega
theorem o36_40 {x0 x1 x2 x4 x6 x7 x8 x9 x11 x12 x13 x14 : Int} {x3 x5 x10 : Nat} (h0 : 0 ≤ x1) (h1 : x1 ≤ 60) (h2 : 0 ≤ x2) (h3 : x2 ≤ 61) (h4 : 61 - x2 < ((x3 + 1 : Nat) : Int)) (h5 : x2 ≤ x1) (h6 : 0 ≤ x4) (h7 : x4 ≤ 25) (h8 : 25 - x4 < ((x5 + 1 : Nat) : Int)) (h9 : 0 ≤ x6) (h10 : x6 ≤ 25) (h11 : x4 < x6) (h12 : x7 = 25 * x2) (h13 : x8 = x7 + x4) (h14 : 0 ≤ x9) (h15 : x9 ≤ 4) (h16 : 4 - x9 < ((x10 + 1 : Nat) : Int)) (h17 : x11 = 4) (h18 : x9 < x11) (h19 : x12 = 100 * x2) (h20 : x13 = 4 * x4) (h21 : x14 = x12 + x13) (h22 : x0 = x14 + x9) : x0 < (6100 : Nat) := by omega
theorem o36_41 {x0 x1 x3 x5 x6 x7 x8 x10 x11 x12 x13 x14 : Int} {x2 x4 x9 : Nat} (h0 : 0 ≤ x1) (h1 : x1 ≤ 60) (h2 : 0 ≤ x0) (h3 : x0 ≤ 61) (h4 : 61 - x0 < ((x2 + 1 : Nat) : Int)) (h5 : x0 ≤ x1) (h6 : 0 ≤ x3) (h7 : x3 ≤ 25) (h8 : 25 - x3 < ((x4 + 1 : Nat) : Int)) (h9 : 0 ≤ x5) (h10 : x5 ≤ 25) (h11 : x3 < x5) (h12 : x6 = 25 * x0) (h13 : x7 = x6 + x3) (h14 : 0 ≤ x8) (h15 : x8 ≤ 4) (h16 : 4 - x8 < ((x9 + 1 : Nat) : Int)) (h17 : x10 = 4) (h18 : x8 < x10) (h19 : x11 = 100 * x0) (h20 : x12 = 4 * x3) (h21 : x13 = x11 + x12) (h22 : x14 = x13 + x8) (h23 : -2147483648 ≤ x0) (h24 : x0 ≤ 2147483647) (h25 : -2147483648 ≤ x1) (h26 : x1 ≤ 2147483647) (h27 : -2147483648 ≤ x3) (h28 : x3 ≤ 2147483647) (h29 : -2147483648 ≤ x5) (h30 : x5 ≤ 2147483647) (h31 : -2147483648 ≤ x6) (h32 : x6 ≤ 2147483647) (h33 : -2147483648 ≤ x7) (h34 : x7 ≤ 2147483647) (h35 : -2147483648 ≤ x8) (h36 : x8 ≤ 2147483647) (h37 : -2147483648 ≤ x10) (h38 : x10 ≤ 2147483647) (h39 : -2147483648 ≤ x11) (h40 : x11 ≤ 2147483647) (h41 : -2147483648 ≤ x12) (h42 : x12 ≤ 2147483647) (h43 : -2147483648 ≤ x13) (h44 : x13 ≤ 2147483647) (h45 : -2147483648 ≤ x14) (h46 : x14 ≤ 2147483647) : -2147483648 ≤ 100 * x0 := by omega
theorem o36_42 {x0 x1 x3 x5 x6 x7 x8 x10 x11 x12 x13 x14 : Int} {x2 x4 x9 : Nat} (h0 : 0 ≤ x1) (h1 : x1 ≤ 60) (h2 : 0 ≤ x0) (h3 : x0 ≤ 61) (h4 : 61 - x0 < ((x2 + 1 : Nat) : Int)) (h5 : x0 ≤ x1) (h6 : 0 ≤ x3) (h7 : x3 ≤ 25) (h8 : 25 - x3 < ((x4 + 1 : Nat) : Int)) (h9 : 0 ≤ x5) (h10 : x5 ≤ 25) (h11 : x3 < x5) (h12 : x6 = 25 * x0) (h13 : x7 = x6 + x3) (h14 : 0 ≤ x8) (h15 : x8 ≤ 4) (h16 : 4 - x8 < ((x9 + 1 : Nat) : Int)) (h17 : x10 = 4) (h18 : x8 < x10) (h19 : x11 = 100 * x0) (h20 : x12 = 4 * x3) (h21 : x13 = x11 + x12) (h22 : x14 = x13 + x8) (h23 : -2147483648 ≤ x0) (h24 : x0 ≤ 2147483647) (h25 : -2147483648 ≤ x1) (h26 : x1 ≤ 2147483647) (h27 : -2147483648 ≤ x3) (h28 : x3 ≤ 2147483647) (h29 : -2147483648 ≤ x5) (h30 : x5 ≤ 2147483647) (h31 : -2147483648 ≤ x6) (h32 : x6 ≤ 2147483647) (h33 : -2147483648 ≤ x7) (h34 : x7 ≤ 2147483647) (h35 : -2147483648 ≤ x8) (h36 : x8 ≤ 2147483647) (h37 : -2147483648 ≤ x10) (h38 : x10 ≤ 2147483647) (h39 : -2147483648 ≤ x11) (h40 : x11 ≤ 2147483647) (h41 : -2147483648 ≤ x12) (h42 : x12 ≤ 2147483647) (h43 : -2147483648 ≤ x13) (h44 : x13 ≤ 2147483647) (h45 : -2147483648 ≤ x14) (h46 : x14 ≤ 2147483647) : 100 * x0 ≤ 2147483647 := by omega
theorem o36_43 {x0 x1 x2 x5 x6 x7 x8 x10 x11 x12 x13 x14 x15 : Int} {x3 x4 x9 : Nat} (h0 : 0 ≤ x1) (h1 : x1 ≤ 60) (h2 : 0 ≤ x2) (h3 : x2 ≤ 61) (h4 : 61 - x2 < ((x3 + 1 : Nat) : Int)) (h5 : x2 ≤ x1) (h6 : 0 ≤ x0) (h7 : x0 ≤ 25) (h8 : 25 - x0 < ((x4 + 1 : Nat) : Int)) (h9 : 0 ≤ x5) (h10 : x5 ≤ 25) (h11 : x0 < x5) (h12 : x6 = 25 * x2) (h13 : x7 = x6 + x0) (h14 : 0 ≤ x8) (h15 : x8 ≤ 4) (h16 : 4 - x8 < ((x9 + 1 : Nat) : Int)) (h17 : x10 = 4) (h18 : x8 < x10) (h19 : x11 = 100 * x2) (h20 : x12 = 4 * x0) (h21 : x13 = x11 + x12) (h22 : x14 = x13 + x8) (h23 : x15 = 100 * x2) (h24 : -2147483648 ≤ x0) (h25 : x0 ≤ 2147483647) (h26 : -2147483648 ≤ x1) (h27 : x1 ≤ 2147483647) (h28 : -2147483648 ≤ x2) (h29 : x2 ≤ 2147483647) (h30 : -2147483648 ≤ x5) (h31 : x5 ≤ 2147483647) (h32 : -2147483648 ≤ x6) (h33 : x6 ≤ 2147483647) (h34 : -2147483648 ≤ x7) (h35 : x7 ≤ 2147483647) (h36 : -2147483648 ≤ x8) (h37 : x8 ≤ 2147483647) (h38 : -2147483648 ≤ x10) (h39 : x10 ≤ 2147483647) (h40 : -2147483648 ≤ x11) (h41 : x11 ≤ 2147483647) (h42 : -2147483648 ≤ x12) (h43 : x12 ≤ 2147483647) (h44 : -2147483648 ≤ x13) (h45 : x13 ≤ 2147483647) (h46 : -2147483648 ≤ x14) (h47 : x14 ≤ 2147483647) (h48 : -2147483648 ≤ x15) (h49 : x15 ≤ 2147483647) : -2147483648 ≤ 4 * x0 := by omega
theorem o36_44 {x0 x1 x2 x5 x6 x7 x8 x10 x11 x12 x13 x14 x15 : Int} {x3 x4 x9 : Nat} (h0 : 0 ≤ x1) (h1 : x1 ≤ 60) (h2 : 0 ≤ x2) (h3 : x2 ≤ 61) (h4 : 61 - x2 < ((x3 + 1 : Nat) : Int)) (h5 : x2 ≤ x1) (h6 : 0 ≤ x0) (h7 : x0 ≤ 25) (h8 : 25 - x0 < ((x4 + 1 : Nat) : Int)) (h9 : 0 ≤ x5) (h10 : x5 ≤ 25) (h11 : x0 < x5) (h12 : x6 = 25 * x2) (h13 : x7 = x6 + x0) (h14 : 0 ≤ x8) (h15 : x8 ≤ 4) (h16 : 4 - x8 < ((x9 + 1 : Nat) : Int)) (h17 : x10 = 4) (h18 : x8 < x10) (h19 : x11 = 100 * x2) (h20 : x12 = 4 * x0) (h21 : x13 = x11 + x12) (h22 : x14 = x13 + x8) (h23 : x15 = 100 * x2) (h24 : -2147483648 ≤ x0) (h25 : x0 ≤ 2147483647) (h26 : -2147483648 ≤ x1) (h27 : x1 ≤ 2147483647) (h28 : -2147483648 ≤ x2) (h29 : x2 ≤ 2147483647) (h30 : -2147483648 ≤ x5) (h31 : x5 ≤ 2147483647) (h32 : -2147483648 ≤ x6) (h33 : x6 ≤ 2147483647) (h34 : -2147483648 ≤ x7) (h35 : x7 ≤ 2147483647) (h36 : -2147483648 ≤ x8) (h37 : x8 ≤ 2147483647) (h38 : -2147483648 ≤ x10) (h39 : x10 ≤ 2147483647) (h40 : -2147483648 ≤ x11) (h41 : x11 ≤ 2147483647) (h42 : -2147483648 ≤ x12) (h43 : x12 ≤ 2147483647) (h44 : -2147483648 ≤ x13) (h45 : x13 ≤ 2147483647) (h46 : -2147483648 ≤ x14) (h47 : x14 ≤ 2147483647) (h48 : -2147483648 ≤ x15) (h49 : x15 ≤ 2147483647) : 4 * x0 ≤ 2147483647 := by omega
theorem o36_45 {x0 x1 x2 x3 x5 x7 x8 x9 x10 x12 x13 x14 x15 x16 : Int} {x4 x6 x11 : Nat} (h0 : 0 ≤ x2) (h1 : x2 ≤ 60) (h2 : 0 ≤ x3) (h3 : x3 ≤ 61) (h4 : 61 - x3 < ((x4 + 1 : Nat) : Int)) (h5 : x3 ≤ x2) (h6 : 0 ≤ x5) (h7 : x5 ≤ 25) (h8 : 25 - x5 < ((x6 + 1 : Nat) : Int)) (h9 : 0 ≤ x7) (h10 : x7 ≤ 25) (h11 : x5 < x7) (h12 : x8 = 25 * x3) (h13 : x9 = x8 + x5) (h14 : 0 ≤ x10) (h15 : x10 ≤ 4) (h16 : 4 - x10 < ((x11 + 1 : Nat) : Int)) (h17 : x12 = 4) (h18 : x10 < x12) (h19 : x13 = 100 * x3) (h20 : x14 = 4 * x5) (h21 : x15 = x13 + x14) (h22 : x16 = x15 + x10) (h23 : x0 = 100 * x3) (h24 : x1 = 4 * x5) (h25 : -2147483648 ≤ x0) (h26 : x0 ≤ 2147483647) (h27 : -2147483648 ≤ x1) (h28 : x1 ≤ 2147483647) (h29 : -2147483648 ≤ x2) (h30 : x2 ≤ 2147483647) (h31 : -2147483648 ≤ x3) (h32 : x3 ≤ 2147483647) (h33 : -2147483648 ≤ x5) (h34 : x5 ≤ 2147483647) (h35 : -2147483648 ≤ x7) (h36 : x7 ≤ 2147483647) (h37 : -2147483648 ≤ x8) (h38 : x8 ≤ 2147483647) (h39 : -2147483648 ≤ x9) (h40 : x9 ≤ 2147483647) (h41 : -2147483648 ≤ x10) (h42 : x10 ≤ 2147483647) (h43 : -2147483648 ≤ x12) (h44 : x12 ≤ 2147483647) (h45 : -2147483648 ≤ x13) (h46 : x13 ≤ 2147483647) (h47 : -2147483648 ≤ x14) (h48 : x14 ≤ 2147483647) (h49 : -2147483648 ≤ x15) (h50 : x15 ≤ 2147483647) (h51 : -2147483648 ≤ x16) (h52 : x16 ≤ 2147483647) : -2147483648 ≤ x0 + x1 := by omega
theorem o36_46 {x0 x1 x2 x3 x5 x7 x8 x9 x10 x12 x13 x14 x15 x16 : Int} {x4 x6 x11 : Nat} (h0 : 0 ≤ x2) (h1 : x2 ≤ 60) (h2 : 0 ≤ x3) (h3 : x3 ≤ 61) (h4 : 61 - x3 < ((x4 + 1 : Nat) : Int)) (h5 : x3 ≤ x2) (h6 : 0 ≤ x5) (h7 : x5 ≤ 25) (h8 : 25 - x5 < ((x6 + 1 : Nat) : Int)) (h9 : 0 ≤ x7) (h10 : x7 ≤ 25) (h11 : x5 < x7) (h12 : x8 = 25 * x3) (h13 : x9 = x8 + x5) (h14 : 0 ≤ x10) (h15 : x10 ≤ 4) (h16 : 4 - x10 < ((x11 + 1 : Nat) : Int)) (h17 : x12 = 4) (h18 : x10 < x12) (h19 : x13 = 100 * x3) (h20 : x14 = 4 * x5) (h21 : x15 = x13 + x14) (h22 : x16 = x15 + x10) (h23 : x0 = 100 * x3) (h24 : x1 = 4 * x5) (h25 : -2147483648 ≤ x0) (h26 : x0 ≤ 2147483647) (h27 : -2147483648 ≤ x1) (h28 : x1 ≤ 2147483647) (h29 : -2147483648 ≤ x2) (h30 : x2 ≤ 2147483647) (h31 : -2147483648 ≤ x3) (h32 : x3 ≤ 2147483647) (h33 : -2147483648 ≤ x5) (h34 : x5 ≤ 2147483647) (h35 : -2147483648 ≤ x7) (h36 : x7 ≤ 2147483647) (h37 : -2147483648 ≤ x8) (h38 : x8 ≤ 2147483647) (h39 : -2147483648 ≤ x9) (h40 : x9 ≤ 2147483647) (h41 : -2147483648 ≤ x10) (h42 : x10 ≤ 2147483647) (h43 : -2147483648 ≤ x12) (h44 : x12 ≤ 2147483647) (h45 : -2147483648 ≤ x13) (h46 : x13 ≤ 2147483647) (h47 : -2147483648 ≤ x14) (h48 : x14 ≤ 2147483647) (h49 : -2147483648 ≤ x15) (h50 : x15 ≤ 2147483647) (h51 : -2147483648 ≤ x16) (h52 : x16 ≤ 2147483647) : x0 + x1 ≤ 2147483647 := by omega
theorem o36_47 {x0 x1 x2 x3 x5 x7 x8 x9 x11 x12 x13 x14 x15 x16 x17 : Int} {x4 x6 x10 : Nat} (h0 : 0 ≤ x2) (h1 : x2 ≤ 60) (h2 : 0 ≤ x3) (h3 : x3 ≤ 61) (h4 : 61 - x3 < ((x4 + 1 : Nat) : Int)) (h5 : x3 ≤ x2) (h6 : 0 ≤ x5) (h7 : x5 ≤ 25) (h8 : 25 - x5 < ((x6 + 1 : Nat) : Int)) (h9 : 0 ≤ x7) (h10 : x7 ≤ 25) (h11 : x5 < x7) (h12 : x8 = 25 * x3) (h13 : x9 = x8 + x5) (h14 : 0 ≤ x1) (h15 : x1 ≤ 4) (h16 : 4 - x1 < ((x10 + 1 : Nat) : Int)) (h17 : x11 = 4) (h18 : x1 < x11) (h19 : x12 = 100 * x3) (h20 : x13 = 4 * x5) (h21 : x14 = x12 + x13) (h22 : x15 = x14 + x1) (h23 : x16 = 100 * x3) (h24 : x17 = 4 * x5) (h25 : x0 = x16 + x17) (h26 : -2147483648 ≤ x0) (h27 : x0 ≤ 2147483647) (h28 : -2147483648 ≤ x1) (h29 : x1 ≤ 2147483647) (h30 : -2147483648 ≤ x2) (h31 : x2 ≤ 2147483647) (h32 : -2147483648 ≤ x3) (h33 : x3 ≤ 2147483647) (h34 : -2147483648 ≤ x5) (h35 : x5 ≤ 2147483647) (h36 : -2147483648 ≤ x7) (h37 : x7 ≤ 2147483647) (h38 : -2147483648 ≤ x8) (h39 : x8 ≤ 2147483647) (h40 : -2147483648 ≤ x9) (h41 : x9 ≤ 2147483647) (h42 : -2147483648 ≤ x11) (h43 : x11 ≤ 2147483647) (h44 : -2147483648 ≤ x12) (h45 : x12 ≤ 2147483647) (h46 : -2147483648 ≤ x13) (h47 : x13 ≤ 2147483647) (h48 : -2147483648 ≤ x14) (h49 : x14 ≤ 2147483647) (h50 : -2147483648 ≤ x15) (h51 : x15 ≤ 2147483647) (h52 : -2147483648 ≤ x16) (h53 : x16 ≤ 2147483647) (h54 : -2147483648 ≤ x17) (h55 : x17 ≤ 2147483647) : -2147483648 ≤ x0 + x1 := by omega
theorem o36_48 {x0 x1 x2 x3 x5 x7 x8 x9 x11 x12 x13 x14 x15 x16 x17 : Int} {x4 x6 x10 : Nat} (h0 : 0 ≤ x2) (h1 : x2 ≤ 60) (h2 : 0 ≤ x3) (h3 : x3 ≤ 61) (h4 : 61 - x3 < ((x4 + 1 : Nat) : Int)) (h5 : x3 ≤ x2) (h6 : 0 ≤ x5) (h7 : x5 ≤ 25) (h8 : 25 - x5 < ((x6 + 1 : Nat) : Int)) (h9 : 0 ≤ x7) (h10 : x7 ≤ 25) (h11 : x5 < x7) (h12 : x8 = 25 * x3) (h13 : x9 = x8 + x5) (h14 : 0 ≤ x1) (h15 : x1 ≤ 4) (h16 : 4 - x1 < ((x10 + 1 : Nat) : Int)) (h17 : x11 = 4) (h18 : x1 < x11) (h19 : x12 = 100 * x3) (h20 : x13 = 4 * x5) (h21 : x14 = x12 + x13) (h22 : x15 = x14 + x1) (h23 : x16 = 100 * x3) (h24 : x17 = 4 * x5) (h25 : x0 = x16 + x17) (h26 : -2147483648 ≤ x0) (h27 : x0 ≤ 2147483647) (h28 : -2147483648 ≤ x1) (h29 : x1 ≤ 2147483647) (h30 : -2147483648 ≤ x2) (h31 : x2 ≤ 2147483647) (h32 : -2147483648 ≤ x3) (h33 : x3 ≤ 2147483647) (h34 : -2147483648 ≤ x5) (h35 : x5 ≤ 2147483647) (h36 : -2147483648 ≤ x7) (h37 : x7 ≤ 2147483647) (h38 : -2147483648 ≤ x8) (h39 : x8 ≤ 2147483647) (h40 : -2147483648 ≤ x9) (h41 : x9 ≤ 2147483647) (h42 : -2147483648 ≤ x11) (h43 : x11 ≤ 2147483647) (h44 : -2147483648 ≤ x12) (h45 : x12 ≤ 2147483647) (h46 : -2147483648 ≤ x13) (h47 : x13 ≤ 2147483647) (h48 : -2147483648 ≤ x14) (h49 : x14 ≤ 2147483647) (h50 : -2147483648 ≤ x15) (h51 : x15 ≤ 2147483647) (h52 : -2147483648 ≤ x16) (h53 : x16 ≤ 2147483647) (h54 : -2147483648 ≤ x17) (h55 : x17 ≤ 2147483647) : x0 + x1 ≤ 2147483647 := by omega
theorem o36_49 {x0 x1 x2 x5 x6 x7 x8 x10 x11 x12 x13 x14 x15 x16 x17 x18 : Int} {x3 x4 x9 : Nat} (h0 : 0 ≤ x1) (h1 : x1 ≤ 60) (h2 : 0 ≤ x2) (h3 : x2 ≤ 61) (h4 : 61 - x2 < ((x3 + 1 : Nat) : Int)) (h5 : x2 ≤ x1) (h6 : 0 ≤ x0) (h7 : x0 ≤ 25) (h8 : 25 - x0 < ((x4 + 1 : Nat) : Int)) (h9 : 0 ≤ x5) (h10 : x5 ≤ 25) (h11 : x0 < x5) (h12 : x6 = 25 * x2) (h13 : x7 = x6 + x0) (h14 : 0 ≤ x8) (h15 : x8 ≤ 4) (h16 : 4 - x8 < ((x9 + 1 : Nat) : Int)) (h17 : x10 = 4) (h18 : x8 < x10) (h19 : x11 = 100 * x2) (h20 : x12 = 4 * x0) (h21 : x13 = x11 + x12) (h22 : x14 = x13 + x8) (h23 : x15 = 100 * x2) (h24 : x16 = 4 * x0) (h25 : x17 = x15 + x16) (h26 : x18 = x17 + x8) : 0 ≤ x0 := by omega
theorem o36_50 {x0 x1 x2 x5 x6 x7 x8 x10 x11 x12 x13 x14 x15 x16 x17 x18 : Int} {x3 x4 x9 : Nat} (h0 : 0 ≤ x1) (h1 : x1 ≤ 60) (h2 : 0 ≤ x2) (h3 : x2 ≤ 61) (h4 : 61 - x2 < ((x3 + 1 : Nat) : Int)) (h5 : x2 ≤ x1) (h6 : 0 ≤ x0) (h7 : x0 ≤ 25) (h8 : 25 - x0 < ((x4 + 1 : Nat) : Int)) (h9 : 0 ≤ x5) (h10 : x5 ≤ 25) (h11 : x0 < x5) (h12 : x6 = 25 * x2) (h13 : x7 = x6 + x0) (h14 : 0 ≤ x8) (h15 : x8 ≤ 4) (h16 : 4 - x8 < ((x9 + 1 : Nat) : Int)) (h17 : x10 = 4) (h18 : x8 < x10) (h19 : x11 = 100 * x2) (h20 : x12 = 4 * x0) (h21 : x13 = x11 + x12) (h22 : x14 = x13 + x8) (h23 : x15 = 100 * x2) (h24 : x16 = 4 * x0) (h25 : x17 = x15 + x16) (h26 : x18 = x17 + x8) : x0 ≤ 24 := by omega
theorem o36_51 {x0 x1 x2 x4 x6 x7 x8 x10 x11 x12 x13 x14 x15 x16 x17 x18 : Int} {x3 x5 x9 : Nat} (h0 : 0 ≤ x1) (h1 : x1 ≤ 60) (h2 : 0 ≤ x2) (h3 : x2 ≤ 61) (h4 : 61 - x2 < ((x3 + 1 : Nat) : Int)) (h5 : x2 ≤ x1) (h6 : 0 ≤ x4) (h7 : x4 ≤ 25) (h8 : 25 - x4 < ((x5 + 1 : Nat) : Int)) (h9 : 0 ≤ x6) (h10 : x6 ≤ 25) (h11 : x4 < x6) (h12 : x7 = 25 * x2) (h13 : x8 = x7 + x4) (h14 : 0 ≤ x0) (h15 : x0 ≤ 4) (h16 : 4 - x0 < ((x9 + 1 : Nat) : Int)) (h17 : x10 = 4) (h18 : x0 < x10) (h19 : x11 = 100 * x2) (h20 : x12 = 4 * x4) (h21 : x13 = x11 + x12) (h22 : x14 = x13 + x0) (h23 : x15 = 100 * x2) (h24 : x16 = 4 * x4) (h25 : x17 = x15 + x16) (h26 : x18 = x17 + x0) : 0 ≤ x0 := by omega
theorem o36_52 {x0 x1 x2 x4 x6 x7 x8 x10 x11 x12 x13 x14 x15 x16 x17 x18 : Int} {x3 x5 x9 : Nat} (h0 : 0 ≤ x1) (h1 : x1 ≤ 60) (h2 : 0 ≤ x2) (h3 : x2 ≤ 61) (h4 : 61 - x2 < ((x3 + 1 : Nat) : Int)) (h5 : x2 ≤ x1) (h6 : 0 ≤ x4) (h7 : x4 ≤ 25) (h8 : 25 - x4 < ((x5 + 1 : Nat) : Int)) (h9 : 0 ≤ x6) (h10 : x6 ≤ 25) (h11 : x4 < x6) (h12 : x7 = 25 * x2) (h13 : x8 = x7 + x4) (h14 : 0 ≤ x0) (h15 : x0 ≤ 4) (h16 : 4 - x0 < ((x9 + 1 : Nat) : Int)) (h17 : x10 = 4) (h18 : x0 < x10) (h19 : x11 = 100 * x2) (h20 : x12 = 4 * x4) (h21 : x13 = x11 + x12) (h22 : x14 = x13 + x0) (h23 : x15 = 100 * x2) (h24 : x16 = 4 * x4) (h25 : x17 = x15 + x16) (h26 : x18 = x17 + x0) : x0 ≤ 3 := by omega
theorem o36_53 {x0 x1 x2 x4 x6 x7 x8 x9 x11 x12 x13 x14 x15 x16 x17 x18 : Int} {x3 x5 x10 : Nat} (h0 : 0 ≤ x1) (h1 : x1 ≤ 60) (h2 : 0 ≤ x2) (h3 : x2 ≤ 61) (h4 : 61 - x2 < ((x3 + 1 : Nat) : Int)) (h5 : x2 ≤ x1) (h6 : 0 ≤ x4) (h7 : x4 ≤ 25) (h8 : 25 - x4 < ((x5 + 1 : Nat) : Int)) (h9 : 0 ≤ x6) (h10 : x6 ≤ 25) (h11 : x4 < x6) (h12 : x7 = 25 * x2) (h13 : x8 = x7 + x4) (h14 : 0 ≤ x9) (h15 : x9 ≤ 4) (h16 : 4 - x9 < ((x10 + 1 : Nat) : Int)) (h17 : x11 = 4) (h18 : x9 < x11) (h19 : x12 = 100 * x2) (h20 : x13 = 4 * x4) (h21 : x14 = x12 + x13) (h22 : x15 = x14 + x9) (h23 : x16 = 100 * x2) (h24 : x17 = 4 * x4) (h25 : x18 = x16 + x17) (h26 : x0 = x18 + x9) : 0 ≤ x0 := by omega
theorem o36_54 {x0 x1 x2 x4 x6 x7 x8 x9 x11 x12 x13 x14 x15 x16 x17 x18 : Int} {x3 x5 x10 : Nat} (h0 : 0 ≤ x1) (h1 : x1 ≤ 60) (h2 : 0 ≤ x2) (h3 : x2 ≤ 61) (h4 : 61 - x2 < ((x3 + 1 : Nat) : Int)) (h5 : x2 ≤ x1) (h6 : 0 ≤ x4) (h7 : x4 ≤ 25) (h8 : 25 - x4 < ((x5 + 1 : Nat) : Int)) (h9 : 0 ≤ x6) (h10 : x6 ≤ 25) (h11 : x4 < x6) (h12 : x7 = 25 * x2) (h13 : x8 = x7 + x4) (h14 : 0 ≤ x9) (h15 : x9 ≤ 4) (h16 : 4 - x9 < ((x10 + 1 : Nat) : Int)) (h17 : x11 = 4) (h18 : x9 < x11) (h19 : x12 = 100 * x2) (h20 : x13 = 4 * x4) (h21 : x14 = x12 + x13) (h22 : x15 = x14 + x9) (h23 : x16 = 100 * x2) (h24 : x17 = 4 * x4) (h25 : x18 = x16 + x17) (h26 : x0 = x18 + x9) : x0 < (6100 : Nat) := by omega
theorem o36_55 {x0 x1 x2 x4 x6 x7 x8 x10 x11 x12 x13 x14 x15 x16 x17 x18 : Int} {x3 x5 x9 : Nat} (h0 : 0 ≤ x1) (h1 : x1 ≤ 60) (h2 : 0 ≤ x2) (h3 : x2 ≤ 61) (h4 : 61 - x2 < ((x3 + 1 : Nat) : Int)) (h5 : x2 ≤ x1) (h6 : 0 ≤ x4) (h7 : x4 ≤ 25) (h8 : 25 - x4 < ((x5 + 1 : Nat) : Int)) (h9 : 0 ≤ x6) (h10 : x6 ≤ 25) (h11 : x4 < x6) (h12 : x7 = 25 * x2) (h13 : x8 = x7 + x4) (h14 : 0 ≤ x0) (h15 : x0 ≤ 4) (h16 : 4 - x0 < ((x9 + 1 : Nat) : Int)) (h17 : x10 = 4) (h18 : x0 < x10) (h19 : x11 = 100 * x2) (h20 : x12 = 4 * x4) (h21 : x13 = x11 + x12) (h22 : x14 = x13 + x0) (h23 : x15 = 100 * x2) (h24 : x16 = 4 * x4) (h25 : x17 = x15 + x16) (h26 : x18 = x17 + x0) (h27 : -2147483648 ≤ x0) (h28 : x0 ≤ 2147483647) (h29 : -2147483648 ≤ x1) (h30 : x1 ≤ 2147483647) (h31 : -2147483648 ≤ x2) (h32 : x2 ≤ 2147483647) (h33 : -2147483648 ≤ x4) (h34 : x4 ≤ 2147483647) (h35 : -2147483648 ≤ x6) (h36 : x6 ≤ 2147483647) (h37 : -2147483648 ≤ x7) (h38 : x7 ≤ 2147483647) (h39 : -2147483648 ≤ x8) (h40 : x8 ≤ 2147483647) (h41 : -2147483648 ≤ x10) (h42 : x10 ≤ 2147483647) (h43 : -2147483648 ≤ x11) (h44 : x11 ≤ 2147483647) (h45 : -2147483648 ≤ x12) (h46 : x12 ≤ 2147483647) (h47 : -2147483648 ≤ x13) (h48 : x13 ≤ 2147483647) (h49 : -2147483648 ≤ x14) (h50 : x14 ≤ 2147483647) (h51 : -2147483648 ≤ x15) (h52 : x15 ≤ 2147483647) (h53 : -2147483648 ≤ x16) (h54 : x16 ≤ 2147483647) (h55 : -2147483648 ≤ x17) (h56 : x17 ≤ 2147483647) (h57 : -2147483648 ≤ x18) (h58 : x18 ≤ 2147483647) : -2147483648 ≤ x0 + 1 := by omega
theorem o36_56 {x0 x1 x2 x4 x6 x7 x8 x10 x11 x12 x13 x14 x15 x16 x17 x18 : Int} {x3 x5 x9 : Nat} (h0 : 0 ≤ x1) (h1 : x1 ≤ 60) (h2 : 0 ≤ x2) (h3 : x2 ≤ 61) (h4 : 61 - x2 < ((x3 + 1 : Nat) : Int)) (h5 : x2 ≤ x1) (h6 : 0 ≤ x4) (h7 : x4 ≤ 25) (h8 : 25 - x4 < ((x5 + 1 : Nat) : Int)) (h9 : 0 ≤ x6) (h10 : x6 ≤ 25) (h11 : x4 < x6) (h12 : x7 = 25 * x2) (h13 : x8 = x7 + x4) (h14 : 0 ≤ x0) (h15 : x0 ≤ 4) (h16 : 4 - x0 < ((x9 + 1 : Nat) : Int)) (h17 : x10 = 4) (h18 : x0 < x10) (h19 : x11 = 100 * x2) (h20 : x12 = 4 * x4) (h21 : x13 = x11 + x12) (h22 : x14 = x13 + x0) (h23 : x15 = 100 * x2) (h24 : x16 = 4 * x4) (h25 : x17 = x15 + x16) (h26 : x18 = x17 + x0) (h27 : -2147483648 ≤ x0) (h28 : x0 ≤ 2147483647) (h29 : -2147483648 ≤ x1) (h30 : x1 ≤ 2147483647) (h31 : -2147483648 ≤ x2) (h32 : x2 ≤ 2147483647) (h33 : -2147483648 ≤ x4) (h34 : x4 ≤ 2147483647) (h35 : -2147483648 ≤ x6) (h36 : x6 ≤ 2147483647) (h37 : -2147483648 ≤ x7) (h38 : x7 ≤ 2147483647) (h39 : -2147483648 ≤ x8) (h40 : x8 ≤ 2147483647) (h41 : -2147483648 ≤ x10) (h42 : x10 ≤ 2147483647) (h43 : -2147483648 ≤ x11) (h44 : x11 ≤ 2147483647) (h45 : -2147483648 ≤ x12) (h46 : x12 ≤ 2147483647) (h47 : -2147483648 ≤ x13) (h48 : x13 ≤ 2147483647) (h49 : -2147483648 ≤ x14) (h50 : x14 ≤ 2147483647) (h51 : -2147483648 ≤ x15) (h52 : x15 ≤ 2147483647) (h53 : -2147483648 ≤ x16) (h54 : x16 ≤ 2147483647) (h55 : -2147483648 ≤ x17) (h56 : x17 ≤ 2147483647) (h57 : -2147483648 ≤ x18) (h58 : x18 ≤ 2147483647) : x0 + 1 ≤ 2147483647 := by omega
theorem o36_57 {x0 x2 x3 x5 x7 x8 x9 x10 x11 x12 x13 x14 x15 x16 x17 x18 x19 : Int} {x1 x4 x6 : Nat} (h0 : 0 ≤ x2) (h1 : x2 ≤ 60) (h2 : 0 ≤ x3) (h3 : x3 ≤ 61) (h4 : 61 - x3 < ((x4 + 1 : Nat) : Int)) (h5 : x3 ≤ x2) (h6 : 0 ≤ x5) (h7 : x5 ≤ 25) (h8 : 25 - x5 < ((x6 + 1 : Nat) : Int)) (h9 : 0 ≤ x7) (h10 : x7 ≤ 25) (h11 : x5 < x7) (h12 : x8 = 25 * x3) (h13 : x9 = x8 + x5) (h14 : 0 ≤ x10) (h15 : x10 ≤ 4) (h16 : 4 - x10 < ((x1 + 1 : Nat) : Int)) (h17 : x11 = 4) (h18 : x10 < x11) (h19 : x12 = 100 * x3) (h20 : x13 = 4 * x5) (h21 : x14 = x12 + x13) (h22 : x15 = x14 + x10) (h23 : x16 = 100 * x3) (h24 : x17 = 4 * x5) (h25 : x18 = x16 + x17) (h26 : x19 = x18 + x10) (h27 : x0 = x10 + 1) : 4 - x0 < (x1 : Int) := by omega
theorem o36_58 {x0 x1 x2 x4 x6 x7 x8 x9 x11 x12 x13 x14 x15 x16 x17 x18 x19 : Int} {x3 x5 x10 : Nat} (h0 : 0 ≤ x1) (h1 : x1 ≤ 60) (h2 : 0 ≤ x2) (h3 : x2 ≤ 61) (h4 : 61 - x2 < ((x3 + 1 : Nat) : Int)) (h5 : x2 ≤ x1) (h6 : 0 ≤ x4) (h7 : x4 ≤ 25) (h8 : 25 - x4 < ((x5 + 1 : Nat) : Int)) (h9 : 0 ≤ x6) (h10 : x6 ≤ 25) (h11 : x4 < x6) (h12 : x7 = 25 * x2) (h13 : x8 = x7 + x4) (h14 : 0 ≤ x9) (h15 : x9 ≤ 4) (h16 : 4 - x9 < ((x10 + 1 : Nat) : Int)) (h17 : x11 = 4) (h18 : x9 < x11) (h19 : x12 = 100 * x2) (h20 : x13 = 4 * x4) (h21 : x14 = x12 + x13) (h22 : x15 = x14 + x9) (h23 : x16 = 100 * x2) (h24 : x17 = 4 * x4) (h25 : x18 = x16 + x17) (h26 : x19 = x18 + x9) (h27 : x0 = x9 + 1) : 0 ≤ x0 := by omega
theorem o36_59 {x0 x1 x2 x4 x6 x7 x8 x9 x11 x12 x13 x14 x15 x16 x17 x18 x19 : Int} {x3 x5 x10 : Nat} (h0 : 0 ≤ x1) (h1 : x1 ≤ 60) (h2 : 0 ≤ x2) (h3 : x2 ≤ 61) (h4 : 61 - x2 < ((x3 + 1 : Nat) : Int)) (h5 : x2 ≤ x1) (h6 : 0 ≤ x4) (h7 : x4 ≤ 25) (h8 : 25 - x4 < ((x5 + 1 : Nat) : Int)) (h9 : 0 ≤ x6) (h10 : x6 ≤ 25) (h11 : x4 < x6) (h12 : x7 = 25 * x2) (h13 : x8 = x7 + x4) (h14 : 0 ≤ x9) (h15 : x9 ≤ 4) (h16 : 4 - x9 < ((x10 + 1 : Nat) : Int)) (h17 : x11 = 4) (h18 : x9 < x11) (h19 : x12 = 100 * x2) (h20 : x13 = 4 * x4) (h21 : x14 = x12 + x13) (h22 : x15 = x14 + x9) (h23 : x16 = 100 * x2) (h24 : x17 = 4 * x4) (h25 : x18 = x16 + x17) (h26 : x19 = x18 + x9) (h27 : x0 = x9 + 1) : x0 ≤ 4 := by omega
theorem o36_60 {x0 : Int} (h0 : x0 = 0) : 4 - x0 < (((4 - x0 + 1).toNat : Nat) : Int) := by omega
theorem o36_61 {x0 : Int} (h0 : x0 = 0) : 0 ≤ x0 := by omega
theorem o36_62 {x0 : Int} (h0 : x0 = 0) : x0 ≤ 4 := by omega
theorem o36_63 {x0 : Int} (h0 : x0 = 0) : 25 - x0 < (((25 - x0 + 1).toNat : Nat) : Int) := by omega
theorem o36_64 {x0 : Int} (h0 : x0 = 0) : x0 ≤ 25 := by omega
theorem o36_65 {x0 : Int} (h0 : x0 = 0) : 61 - x0 < (((61 - x0 + 1).toNat : Nat) : Int) := by omega
theorem o36_66 {x0 : Int} (h0 : x0 = 0) : x0 ≤ 61 := by omega
theorem o36_67 {x0 : Int} (h0 : 0 ≤ x0) (h1 : x0 ≤ 3) : 0 ≤ x0 := by omega
theorem o36_68 {x0 : Int} (h0 : 0 ≤ x0) (h1 : x0 ≤ 3) : x0 ≤ 3 := by omega
theorem o36_69 {x0 : Int} (h0 : 0 ≤ x0) (h1 : x0 ≤ 24) : 0 ≤ x0 := by omega
theorem o36_70 {x0 : Int} (h0 : 0 ≤ x0) (h1 : x0 ≤ 24) : x0 ≤ 24 := by omega
theorem o36_71 {x0 : Int} (h0 : x0 = 1000000000) : 0 ≤ x0 := by omega
theorem o36_72 {x0 : Int} (h0 : x0 = 1000000000) : x0 ≤ 1000000000 := by omega
theorem o36_73 {x0 : Int} (h0 : x0 = 1000000000) : (x0 = 1000000000 ∨ (0 ≤ x0 ∧ x0 ≤ 2)) := by omega
theorem o36_74 {x0 : Int} (h0 : x0 = 1000000000) : x0 = 1000000000 := by omega
theorem o36_75 {x0 x1 x2 : Int} (h0 : 0 ≤ x0) (h1 : x0 ≤ 3) (h2 : x2 = 1) (h3 : x0 ≤ x2) (h4 : x1 = 2) (h5 : x1 ≤ x0) : False := by omega
theorem o36_76 {x0 : Int} (h0 : x0 = 0) : x0 ≤ 1000000000 := by omega
theorem o36_77 {x0 : Int} (h0 : x0 = 0) : (x0 = 1000000000 ∨ (0 ≤ x0 ∧ x0 ≤ 2)) := by omega
theorem o36_78 {x0 x1 : Int} (h0 : (-1) ≤ x0) (h1 : x0 ≤ 24) (h2 : x1 = (-1)) (h3 : ¬ x0 = x1) : 0 ≤ x0 := by omega
theorem o36_79 {x0 : Int} (h0 : 0 ≤ x0) (h1 : x0 ≤ 60) (h2 : -2147483648 ≤ x0) (h3 : x0 ≤ 2147483647) : -2147483648 ≤ 100 * x0 := by omega
theorem o36_80 {x0 : Int} (h0 : 0 ≤ x0) (h1 : x0 ≤ 60) (h2 : -2147483648 ≤ x0) (h3 : x0 ≤ 2147483647) : 100 * x0 ≤ 2147483647 := by omega
theorem o36_81 {x0 : Int} (h0 : 0 ≤ x0) (h1 : x0 ≤ 24) (h2 : -2147483648 ≤ x0) (h3 : x0 ≤ 2147483647) : -2147483648 ≤ 4 * x0 := by omega
theorem o36_82 {x0 : Int} (h0 : 0 ≤ x0) (h1 : x0 ≤ 24) (h2 : -2147483648 ≤ x0) (h3 : x0 ≤ 2147483647) : 4 * x0 ≤ 2147483647 := by omega
theorem o36_83 {x0 x1 x2 x3 : Int} (h0 : 0 ≤ x2) (h1 : x2 ≤ 60) (h2 : 0 ≤ x3) (h3 : x3 ≤ 24) (h4 : x0 = 100 * x2) (h5 : x1 = 4 * x3) (h6 : -2147483648 ≤ x0) (h7 : x0 ≤ 2147483647) (h8 : -2147483648 ≤ x1) (h9 : x1 ≤ 2147483647) (h10 : -2147483648 ≤ x2) (h11 : x2 ≤ 2147483647) (h12 : -2147483648 ≤ x3) (h13 : x3 ≤ 2147483647) : -2147483648 ≤ x0 + x1 := by omega
theorem o36_84 {x0 x1 x2 x3 : Int} (h0 : 0 ≤ x2) (h1 : x2 ≤ 60) (h2 : 0 ≤ x3) (h3 : x3 ≤ 24) (h4 : x0 = 100 * x2) (h5 : x1 = 4 * x3) (h6 : -2147483648 ≤ x0) (h7 : x0 ≤ 2147483647) (h8 : -2147483648 ≤ x1) (h9 : x1 ≤ 2147483647) (h10 : -2147483648 ≤ x2) (h11 : x2 ≤ 2147483647) (h12 : -2147483648 ≤ x3) (h13 : x3 ≤ 2147483647) : x0 + x1 ≤ 2147483647 := by omega
theorem o36_85 {x0 x1 x2 x3 x4 x5 : Int} (h0 : 0 ≤ x2) (h1 : x2 ≤ 60) (h2 : 0 ≤ x3) (h3 : x3 ≤ 24) (h4 : 0 ≤ x1) (h5 : x1 ≤ 3) (h6 : x4 = 100 * x2) (h7 : x5 = 4 * x3) (h8 : x0 = x4 + x5) (h9 : -2147483648 ≤ x0) (h10 : x0 ≤ 2147483647) (h11 : -2147483648 ≤ x1) (h12 : x1 ≤ 2147483647) (h13 : -2147483648 ≤ x2) (h14 : x2 ≤ 2147483647) (h15 : -2147483648 ≤ x3) (h16 : x3 ≤ 2147483647) (h17 : -2147483648 ≤ x4) (h18 : x4 ≤ 2147483647) (h19 : -2147483648 ≤ x5) (h20 : x5 ≤ 2147483647) : -2147483648 ≤ x0 + x1 := by omega
theorem o36_86 {x0 x1 x2 x3 x4 x5 : Int} (h0 : 0 ≤ x2) (h1 : x2 ≤ 60) (h2 : 0 ≤ x3) (h3 : x3 ≤ 24) (h4 : 0 ≤ x1) (h5 : x1 ≤ 3) (h6 : x4 = 100 * x2) (h7 : x5 = 4 * x3) (h8 : x0 = x4 + x5) (h9 : -2147483648 ≤ x0) (h10 : x0 ≤ 2147483647) (h11 : -2147483648 ≤ x1) (h12 : x1 ≤ 2147483647) (h13 : -2147483648 ≤ x2) (h14 : x2 ≤ 2147483647) (h15 : -2147483648 ≤ x3) (h16 : x3 ≤ 2147483647) (h17 : -2147483648 ≤ x4) (h18 : x4 ≤ 2147483647) (h19 : -2147483648 ≤ x5) (h20 : x5 ≤ 2147483647) : x0 + x1 ≤ 2147483647 := by omega
theorem o36_87 {x0 x1 x2 x3 x4 x5 x6 : Int} (h0 : 0 ≤ x1) (h1 : x1 ≤ 60) (h2 : 0 ≤ x2) (h3 : x2 ≤ 24) (h4 : 0 ≤ x3) (h5 : x3 ≤ 3) (h6 : x4 = 100 * x1) (h7 : x5 = 4 * x2) (h8 : x6 = x4 + x5) (h9 : x0 = x6 + x3) : 0 ≤ x0 := by omega
theorem o36_88 {x0 x1 x2 x3 x4 x5 x6 : Int} (h0 : 0 ≤ x1) (h1 : x1 ≤ 60) (h2 : 0 ≤ x2) (h3 : x2 ≤ 24) (h4 : 0 ≤ x3) (h5 : x3 ≤ 3) (h6 : x4 = 100 * x1) (h7 : x5 = 4 * x2) (h8 : x6 = x4 + x5) (h9 : x0 = x6 + x3) : x0 < (6100 : Nat) := by omega
theorem o36_89 {x0 x1 x2 : Int} (h0 : 0 ≤ x0) (h1 : x0 ≤ 3) (h2 : x2 = 1) (h3 : x2 < x0) (h4 : x1 = 2) (h5 : x0 < x1) : False := by omega
theorem o36_90 {x0 x1 x2 x3 x4 x5 x6 : Int} (h0 : 0 ≤ x0) (h1 : x0 ≤ 60) (h2 : 0 ≤ x1) (h3 : x1 ≤ 24) (h4 : 0 ≤ x2) (h5 : x2 ≤ 3) (h6 : x3 = 100 * x0) (h7 : x4 = 4 * x1) (h8 : x5 = x3 + x4) (h9 : x6 = x5 + x2) (h10 : -2147483648 ≤ x0) (h11 : x0 ≤ 2147483647) (h12 : -2147483648 ≤ x1) (h13 : x1 ≤ 2147483647) (h14 : -2147483648 ≤ x2) (h15 : x2 ≤ 2147483647) (h16 : -2147483648 ≤ x3) (h17 : x3 ≤ 2147483647) (h18 : -2147483648 ≤ x4) (h19 : x4 ≤ 2147483647) (h20 : -2147483648 ≤ x5) (h21 : x5 ≤ 2147483647) (h22 : -2147483648 ≤ x6) (h23 : x6 ≤ 2147483647) : -2147483648 ≤ 25 * x0 := by omega
theorem o36_91 {x0 x1 x2 x3 x4 x5 x6 : Int} (h0 : 0 ≤ x0) (h1 : x0 ≤ 60) (h2 : 0 ≤ x1) (h3 : x1 ≤ 24) (h4 : 0 ≤ x2) (h5 : x2 ≤ 3) (h6 : x3 = 100 * x0) (h7 : x4 = 4 * x1) (h8 : x5 = x3 + x4) (h9 : x6 = x5 + x2) (h10 : -2147483648 ≤ x0) (h11 : x0 ≤ 2147483647) (h12 : -2147483648 ≤ x1) (h13 : x1 ≤ 2147483647) (h14 : -2147483648 ≤ x2) (h15 : x2 ≤ 2147483647) (h16 : -2147483648 ≤ x3) (h17 : x3 ≤ 2147483647) (h18 : -2147483648 ≤ x4) (h19 : x4 ≤ 2147483647) (h20 : -2147483648 ≤ x5) (h21 : x5 ≤ 2147483647) (h22 : -2147483648 ≤ x6) (h23 : x6 ≤ 2147483647) : 25 * x0 ≤ 2147483647 := by omega
theorem o36_92 {x0 x1 x2 x3 x4 x5 x6 x7 : Int} (h0 : 0 ≤ x2) (h1 : x2 ≤ 60) (h2 : 0 ≤ x1) (h3 : x1 ≤ 24) (h4 : 0 ≤ x3) (h5 : x3 ≤ 3) (h6 : x4 = 100 * x2) (h7 : x5 = 4 * x1) (h8 : x6 = x4 + x5) (h9 : x7 = x6 + x3) (h10 : x0 = 25 * x2) (h11 : -2147483648 ≤ x0) (h12 : x0 ≤ 2147483647) (h13 : -2147483648 ≤ x1) (h14 : x1 ≤ 2147483647) (h15 : -2147483648 ≤ x2) (h16 : x2 ≤ 2147483647) (h17 : -2147483648 ≤ x3) (h18 : x3 ≤ 2147483647) (h19 : -2147483648 ≤ x4) (h20 : x4 ≤ 2147483647) (h21 : -2147483648 ≤ x5) (h22 : x5 ≤ 2147483647) (h23 : -2147483648 ≤ x6) (h24 : x6 ≤ 2147483647) (h25 : -2147483648 ≤ x7) (h26 : x7 ≤ 2147483647) : -2147483648 ≤ x0 + x1 := by omega
theorem o36_93 {x0 x1 x2 x3 x4 x5 x6 x7 : Int} (h0 : 0 ≤ x2) (h1 : x2 ≤ 60) (h2 : 0 ≤ x1) (h3 : x1 ≤ 24) (h4 : 0 ≤ x3) (h5 : x3 ≤ 3) (h6 : x4 = 100 * x2) (h7 : x5 = 4 * x1) (h8 : x6 = x4 + x5) (h9 : x7 = x6 + x3) (h10 : x0 = 25 * x2) (h11 : -2147483648 ≤ x0) (h12 : x0 ≤ 2147483647) (h13 : -2147483648 ≤ x1) (h14 : x1 ≤ 2147483647) (h15 : -2147483648 ≤ x2) (h16 : x2 ≤ 2147483647) (h17 : -2147483648 ≤ x3) (h18 : x3 ≤ 2147483647) (h19 : -2147483648 ≤ x4) (h20 : x4 ≤ 2147483647) (h21 : -2147483648 ≤ x5) (h22 : x5 ≤ 2147483647) (h23 : -2147483648 ≤ x6) (h24 : x6 ≤ 2147483647) (h25 : -2147483648 ≤ x7) (h26 : x7 ≤ 2147483647) : x0 + x1 ≤ 2147483647 := by omega
theorem o36_94 {x0 x1 x2 x3 x4 x5 x6 x7 x8 : Int} (h0 : 0 ≤ x1) (h1 : x1 ≤ 60) (h2 : 0 ≤ x2) (h3 : x2 ≤ 24) (h4 : 0 ≤ x3) (h5 : x3 ≤ 3) (h6 : x4 = 100 * x1) (h7 : x5 = 4 * x2) (h8 : x6 = x4 + x5) (h9 : x7 = x6 + x3) (h10 : x8 = 25 * x1) (h11 : x0 = x8 + x2) : 0 ≤ x0 := by omega
theorem o36_95 {x0 x1 x2 x3 x4 x5 x6 x7 x8 : Int} (h0 : 0 ≤ x1) (h1 : x1 ≤ 60) (h2 : 0 ≤ x2) (h3 : x2 ≤ 24) (h4 : 0 ≤ x3) (h5 : x3 ≤ 3) (h6 : x4 = 100 * x1) (h7 : x5 = 4 * x2) (h8 : x6 = x4 + x5) (h9 : x7 = x6 + x3) (h10 : x8 = 25 * x1) (h11 : x0 = x8 + x2) : x0 < (1525 : Nat) := by omega
theorem o36_96 {x0 x1 x2 : Int} (h0 : 0 ≤ x0) (h1 : x0 ≤ 3) (h2 : x1 = 1) (h3 : x1 < x0) (h4 : x2 = 2) (h5 : x2 ≤ x0) : 0 ≤ x0 := by omega
theorem o36_97 {x0 x1 x2 : Int} (h0 : 0 ≤ x0) (h1 : x0 ≤ 3) (h2 : x1 = 1) (h3 : x1 < x0) (h4 : x2 = 2) (h5 : x2 ≤ x0) : x0 ≤ 3 := by omega
theorem o36_98 {x0 : Int} (h0 : 0 ≤ x0) (h1 : x0 ≤ 0) (h2 : ¬ x0 = 0) : False := by omega
theorem o36_99 {x0 : Int} (h0 : x0 = 1) : x0 = 1 := by omega
theorem o36_100 {x0 x1 x2 x3 : Int} (h0 : 0 ≤ x1) (h1 : x1 ≤ 3) (h2 : x2 = 1) (h3 : x2 < x1) (h4 : x3 = 2) (h5 : x3 ≤ x1) (h6 : 0 ≤ x0) (h7 : x0 ≤ 2) (h8 : ((x1 < 2 ∧ x0 = 0) ∨ (2 ≤ x1 ∧ x0 = x1 - 1))) (h9 : -2147483648 ≤ x0) (h10 : x0 ≤ 2147483647) (h11 : -2147483648 ≤ x1) (h12 : x1 ≤ 2147483647) (h13 : -2147483648 ≤ x2) (h14 : x2 ≤ 2147483647) (h15 : -2147483648 ≤ x3) (h16 : x3 ≤ 2147483647) : -2147483648 ≤ x0 * 1 := by omega
theorem o36_101 {x0 x1 x2 x3 : Int} (h0 : 0 ≤ x1) (h1 : x1 ≤ 3) (h2 : x2 = 1) (h3 : x2 < x1) (h4 : x3 = 2) (h5 : x3 ≤ x1) (h6 : 0 ≤ x0) (h7 : x0 ≤ 2) (h8 : ((x1 < 2 ∧ x0 = 0) ∨ (2 ≤ x1 ∧ x0 = x1 - 1))) (h9 : -2147483648 ≤ x0) (h10 : x0 ≤ 2147483647) (h11 : -2147483648 ≤ x1) (h12 : x1 ≤ 2147483647) (h13 : -2147483648 ≤ x2) (h14 : x2 ≤ 2147483647) (h15 : -2147483648 ≤ x3) (h16 : x3 ≤ 2147483647) : x0 * 1 ≤ 2147483647 := by omega
theorem o36_102 {x0 x1 x2 x3 x4 : Int} (h0 : 0 ≤ x1) (h1 : x1 ≤ 3) (h2 : x2 = 1) (h3 : x2 < x1) (h4 : x3 = 2) (h5 : x3 ≤ x1) (h6 : 0 ≤ x4) (h7 : x4 ≤ 2) (h8 : ((x1 < 2 ∧ x4 = 0) ∨ (2 ≤ x1 ∧ x4 = x1 - 1))) (h9 : x0 = x4 * 1) : 0 ≤ x0 := by omega
theorem o36_103 {x0 x1 x2 x3 x4 : Int} (h0 : 0 ≤ x1) (h1 : x1 ≤ 3) (h2 : x2 = 1) (h3 : x2 < x1) (h4 : x3 = 2) (h5 : x3 ≤ x1) (h6 : 0 ≤ x4) (h7 : x4 ≤ 2) (h8 : ((x1 < 2 ∧ x4 = 0) ∨ (2 ≤ x1 ∧ x4 = x1 - 1))) (h9 : x0 = x4 * 1) : x0 ≤ 1000000000 := by omega
theorem o36_104 {x0 x1 x2 x3 x4 : Int} (h0 : 0 ≤ x1) (h1 : x1 ≤ 3) (h2 : x2 = 1) (h3 : x2 < x1) (h4 : x3 = 2) (h5 : x3 ≤ x1) (h6 : 0 ≤ x4) (h7 : x4 ≤ 2) (h8 : ((x1 < 2 ∧ x4 = 0) ∨ (2 ≤ x1 ∧ x4 = x1 - 1))) (h9 : x0 = x4 * 1) : (x0 = 1000000000 ∨ (0 ≤ x0 ∧ x0 ≤ 2)) := by omega
theorem o36_105 {x0 x1 x2 x3 x4 x5 x6 x7 x8 : Int} (h0 : 0 ≤ x1) (h1 : x1 ≤ 60) (h2 : 0 ≤ x0) (h3 : x0 ≤ 24) (h4 : 0 ≤ x2) (h5 : x2 ≤ 3) (h6 : x3 = 100 * x1) (h7 : x4 = 4 * x0) (h8 : x5 = x3 + x4) (h9 : x6 = x5 + x2) (h10 : x7 = 25 * x1) (h11 : x8 = x7 + x0) : x0 ≤ 24 := by omega
theorem o36_106 {x0 x1 x2 x3 x4 x5 x6 x7 x8 : Int} (h0 : 0 ≤ x0) (h1 : x0 ≤ 60) (h2 : 0 ≤ x1) (h3 : x1 ≤ 24) (h4 : 0 ≤ x2) (h5 : x2 ≤ 3) (h6 : x3 = 100 * x0) (h7 : x4 = 4 * x1) (h8 : x5 = x3 + x4) (h9 : x6 = x5 + x2) (h10 : x7 = 25 * x0) (h11 : x8 = x7 + x1) (h12 : -2147483648 ≤ x0) (h13 : x0 ≤ 2147483647) (h14 : -2147483648 ≤ x1) (h15 : x1 ≤ 2147483647) (h16 : -2147483648 ≤ x2) (h17 : x2 ≤ 2147483647) (h18 : -2147483648 ≤ x3) (h19 : x3 ≤ 2147483647) (h20 : -2147483648 ≤ x4) (h21 : x4 ≤ 2147483647) (h22 : -2147483648 ≤ x5) (h23 : x5 ≤ 2147483647) (h24 : -2147483648 ≤ x6) (h25 : x6 ≤ 2147483647) (h26 : -2147483648 ≤ x7) (h27 : x7 ≤ 2147483647) (h28 : -2147483648 ≤ x8) (h29 : x8 ≤ 2147483647) : -2147483648 ≤ 100 * x0 := by omega
theorem o36_107 {x0 x1 x2 x3 x4 x5 x6 x7 x8 : Int} (h0 : 0 ≤ x0) (h1 : x0 ≤ 60) (h2 : 0 ≤ x1) (h3 : x1 ≤ 24) (h4 : 0 ≤ x2) (h5 : x2 ≤ 3) (h6 : x3 = 100 * x0) (h7 : x4 = 4 * x1) (h8 : x5 = x3 + x4) (h9 : x6 = x5 + x2) (h10 : x7 = 25 * x0) (h11 : x8 = x7 + x1) (h12 : -2147483648 ≤ x0) (h13 : x0 ≤ 2147483647) (h14 : -2147483648 ≤ x1) (h15 : x1 ≤ 2147483647) (h16 : -2147483648 ≤ x2) (h17 : x2 ≤ 2147483647) (h18 : -2147483648 ≤ x3) (h19 : x3 ≤ 2147483647) (h20 : -2147483648 ≤ x4) (h21 : x4 ≤ 2147483647) (h22 : -2147483648 ≤ x5) (h23 : x5 ≤ 2147483647) (h24 : -2147483648 ≤ x6) (h25 : x6 ≤ 2147483647) (h26 : -2147483648 ≤ x7) (h27 : x7 ≤ 2147483647) (h28 : -2147483648 ≤ x8) (h29 : x8 ≤ 2147483647) : 100 * x0 ≤ 2147483647 := by omega
theorem o36_108 {x0 x1 x2 x3 x4 x5 x6 x7 x8 x9 : Int} (h0 : 0 ≤ x1) (h1 : x1 ≤ 60) (h2 : 0 ≤ x0) (h3 : x0 ≤ 24) (h4 : 0 ≤ x2) (h5 : x2 ≤ 3) (h6 : x3 = 100 * x1) (h7 : x4 = 4 * x0) (h8 : x5 = x3 + x4) (h9 : x6 = x5 + x2) (h10 : x7 = 25 * x1) (h11 : x8 = x7 + x0) (h12 : x9 = 100 * x1) (h13 : -2147483648 ≤ x0) (h14 : x0 ≤ 2147483647) (h15 : -2147483648 ≤ x1) (h16 : x1 ≤ 2147483647) (h17 : -2147483648 ≤ x2) (h18 : x2 ≤ 2147483647) (h19 : -2147483648 ≤ x3) (h20 : x3 ≤ 2147483647) (h21 : -2147483648 ≤ x4) (h22 : x4 ≤ 2147483647) (h23 : -2147483648 ≤ x5) (h24 : x5 ≤ 2147483647) (h25 : -2147483648 ≤ x6) (h26 : x6 ≤ 2147483647) (h27 : -2147483648 ≤ x7) (h28 : x7 ≤ 2147483647) (h29 : -2147483648 ≤ x8) (h30 : x8 ≤ 2147483647) (h31 : -2147483648 ≤ x9) (h32 : x9 ≤ 2147483647) : -2147483648 ≤ 4 * x0 := by omega
theorem o36_109 {x0 x1 x2 x3 x4 x5 x6 x7 x8 x9 : Int} (h0 : 0 ≤ x1) (h1 : x1 ≤ 60) (h2 : 0 ≤ x0) (h3 : x0 ≤ 24) (h4 : 0 ≤ x2) (h5 : x2 ≤ 3) (h6 : x3 = 100 * x1) (h7 : x4 = 4 * x0) (h8 : x5 = x3 + x4) (h9 : x6 = x5 + x2) (h10 : x7 = 25 * x1) (h11 : x8 = x7 + x0) (h12 : x9 = 100 * x1) (h13 : -2147483648 ≤ x0) (h14 : x0 ≤ 2147483647) (h15 : -2147483648 ≤ x1) (h16 : x1 ≤ 2147483647) (h17 : -2147483648 ≤ x2) (h18 : x2 ≤ 2147483647) (h19 : -2147483648 ≤ x3) (h20 : x3 ≤ 2147483647) (h21 : -2147483648 ≤ x4) (h22 : x4 ≤ 2147483647) (h23 : -2147483648 ≤ x5) (h24 : x5 ≤ 2147483647) (h25 : -2147483648 ≤ x6) (h26 : x6 ≤ 2147483647) (h27 : -2147483648 ≤ x7) (h28 : x7 ≤ 2147483647) (h29 : -2147483648 ≤ x8) (h30 : x8 ≤ 2147483647) (h31 : -2147483648 ≤ x9) (h32 : x9 ≤ 2147483647) : 4 * x0 ≤ 2147483647 := by omega
theorem o36_110 {x0 x1 x2 x3 x4 x5 x6 x7 x8 x9 x10 : Int} (h0 : 0 ≤ x2) (h1 : x2 ≤ 60) (h2 : 0 ≤ x3) (h3 : x3 ≤ 24) (h4 : 0 ≤ x4) (h5 : x4 ≤ 3) (h6 : x5 = 100 * x2) (h7 : x6 = 4 * x3) (h8 : x7 = x5 + x6) (h9 : x8 = x7 + x4) (h10 : x9 = 25 * x2) (h11 : x10 = x9 + x3) (h12 : x0 = 100 * x2) (h13 : x1 = 4 * x3) (h14 : -2147483648 ≤ x0) (h15 : x0 ≤ 2147483647) (h16 : -2147483648 ≤ x1) (h17 : x1 ≤ 2147483647) (h18 : -2147483648 ≤ x2) (h19 : x2 ≤ 2147483647) (h20 : -2147483648 ≤ x3) (h21 : x3 ≤ 2147483647) (h22 : -2147483648 ≤ x4) (h23 : x4 ≤ 2147483647) (h24 : -2147483648 ≤ x5) (h25 : x5 ≤ 2147483647) (h26 : -2147483648 ≤ x6) (h27 : x6 ≤ 2147483647) (h28 : -2147483648 ≤ x7) (h29 : x7 ≤ 2147483647) (h30 : -2147483648 ≤ x8) (h31 : x8 ≤ 2147483647) (h32 : -2147483648 ≤ x9) (h33 : x9 ≤ 2147483647) (h34 : -2147483648 ≤ x10) (h35 : x10 ≤ 2147483647) : -2147483648 ≤ x0 + x1 := by omega
theorem o36_111 {x0 x1 x2 x3 x4 x5 x6 x7 x8 x9 x10 : Int} (h0 : 0 ≤ x2) (h1 : x2 ≤ 60) (h2 : 0 ≤ x3) (h3 : x3 ≤ 24) (h4 : 0 ≤ x4) (h5 : x4 ≤ 3) (h6 : x5 = 100 * x2) (h7 : x6 = 4 * x3) (h8 : x7 = x5 + x6) (h9 : x8 = x7 + x4) (h10 : x9 = 25 * x2) (h11 : x10 = x9 + x3) (h12 : x0 = 100 * x2) (h13 : x1 = 4 * x3) (h14 : -2147483648 ≤ x0) (h15 : x0 ≤ 2147483647) (h16 : -2147483648 ≤ x1) (h17 : x1 ≤ 2147483647) (h18 : -2147483648 ≤ x2) (h19 : x2 ≤ 2147483647) (h20 : -2147483648 ≤ x3) (h21 : x3 ≤ 2147483647) (h22 : -2147483648 ≤ x4) (h23 : x4 ≤ 2147483647) (h24 : -2147483648 ≤ x5) (h25 : x5 ≤ 2147483647) (h26 : -2147483648 ≤ x6) (h27 : x6 ≤ 2147483647) (h28 : -2147483648 ≤ x7) (h29 : x7 ≤ 2147483647) (h30 : -2147483648 ≤ x8) (h31 : x8 ≤ 2147483647) (h32 : -2147483648 ≤ x9) (h33 : x9 ≤ 2147483647) (h34 : -2147483648 ≤ x10) (h35 : x10 ≤ 2147483647) : x0 + x1 ≤ 2147483647 := by omega
theorem o36_112 {x0 x1 x2 x3 x4 x5 x6 x7 x8 x9 x10 x11 : Int} (h0 : 0 ≤ x2) (h1 : x2 ≤ 60) (h2 : 0 ≤ x3) (h3 : x3 ≤ 24) (h4 : 0 ≤ x1) (h5 : x1 ≤ 3) (h6 : x4 = 100 * x2) (h7 : x5 = 4 * x3) (h8 : x6 = x4 + x5) (h9 : x7 = x6 + x1) (h10 : x8 = 25 * x2) (h11 : x9 = x8 + x3) (h12 : x10 = 100 * x2) (h13 : x11 = 4 * x3) (h14 : x0 = x10 + x11) (h15 : -2147483648 ≤ x0) (h16 : x0 ≤ 2147483647) (h17 : -2147483648 ≤ x1) (h18 : x1 ≤ 2147483647) (h19 : -2147483648 ≤ x2) (h20 : x2 ≤ 2147483647) (h21 : -2147483648 ≤ x3) (h22 : x3 ≤ 2147483647) (h23 : -2147483648 ≤ x4) (h24 : x4 ≤ 2147483647) (h25 : -2147483648 ≤ x5) (h26 : x5 ≤ 2147483647) (h27 : -2147483648 ≤ x6) (h28 : x6 ≤ 2147483647) (h29 : -2147483648 ≤ x7) (h30 : x7 ≤ 2147483647) (h31 : -2147483648 ≤ x8) (h32 : x8 ≤ 2147483647) (h33 : -2147483648 ≤ x9) (h34 : x9 ≤ 2147483647) (h35 : -2147483648 ≤ x10) (h36 : x10 ≤ 2147483647) (h37 : -2147483648 ≤ x11) (h38 : x11 ≤ 2147483647) : -2147483648 ≤ x0 + x1 := by omega
theorem o36_113 {x0 x1 x2 x3 x4 x5 x6 x7 x8 x9 x10 x11 : Int} (h0 : 0 ≤ x2) (h1 : x2 ≤ 60) (h2 : 0 ≤ x3) (h3 : x3 ≤ 24) (h4 : 0 ≤ x1) (h5 : x1 ≤ 3) (h6 : x4 = 100 * x2) (h7 : x5 = 4 * x3) (h8 : x6 = x4 + x5) (h9 : x7 = x6 + x1) (h10 : x8 = 25 * x2) (h11 : x9 = x8 + x3) (h12 : x10 = 100 * x2) (h13 : x11 = 4 * x3) (h14 : x0 = x10 + x11) (h15 : -2147483648 ≤ x0) (h16 : x0 ≤ 2147483647) (h17 : -2147483648 ≤ x1) (h18 : x1 ≤ 2147483647) (h19 : -2147483648 ≤ x2) (h20 : x2 ≤ 2147483647) (h21 : -2147483648 ≤ x3) (h22 : x3 ≤ 2147483647) (h23 : -2147483648 ≤ x4) (h24 : x4 ≤ 2147483647) (h25 : -2147483648 ≤ x5) (h26 : x5 ≤ 2147483647) (h27 : -2147483648 ≤ x6) (h28 : x6 ≤ 2147483647) (h29 : -2147483648 ≤ x7) (h30 : x7 ≤ 2147483647) (h31 : -2147483648 ≤ x8) (h32 : x8 ≤ 2147483647) (h33 : -2147483648 ≤ x9) (h34 : x9 ≤ 2147483647) (h35 : -2147483648 ≤ x10) (h36 : x10 ≤ 2147483647) (h37 : -2147483648 ≤ x11) (h38 : x11 ≤ 2147483647) : x0 + x1 ≤ 2147483647 := by omega
theorem o36_114 {x0 x1 x2 x3 x4 x5 x6 x7 x8 x9 x10 x11 x12 : Int} (h0 : 0 ≤ x1) (h1 : x1 ≤ 60) (h2 : 0 ≤ x2) (h3 : x2 ≤ 24) (h4 : 0 ≤ x3) (h5 : x3 ≤ 3) (h6 : x4 = 100 * x1) (h7 : x5 = 4 * x2) (h8 : x6 = x4 + x5) (h9 : x7 = x6 + x3) (h10 : x8 = 25 * x1) (h11 : x9 = x8 + x2) (h12 : x10 = 100 * x1) (h13 : x11 = 4 * x2) (h14 : x12 = x10 + x11) (h15 : x0 = x12 + x3) : 0 ≤ x0 := by omega
theorem o36_115 {x0 x1 x2 x3 x4 x5 x6 x7 x8 x9 x10 x11 x12 : Int} (h0 : 0 ≤ x1) (h1 : x1 ≤ 60) (h2 : 0 ≤ x2) (h3 : x2 ≤ 24) (h4 : 0 ≤ x3) (h5 : x3 ≤ 3) (h6 : x4 = 100 * x1) (h7 : x5 = 4 * x2) (h8 : x6 = x4 + x5) (h9 : x7 = x6 + x3) (h10 : x8 = 25 * x1) (h11 : x9 = x8 + x2) (h12 : x10 = 100 * x1) (h13 : x11 = 4 * x2) (h14 : x12 = x10 + x11) (h15 : x0 = x12 + x3) : x0 < (6100 : Nat) := by omega
theorem o36_116 {x0 x1 x2 x3 x4 x5 x6 x7 x8 x9 x10 x11 x12 : Int} (h0 : 0 ≤ x1) (h1 : x1 ≤ 60) (h2 : 0 ≤ x0) (h3 : x0 ≤ 24) (h4 : 0 ≤ x2) (h5 : x2 ≤ 3) (h6 : x3 = 100 * x1) (h7 : x4 = 4 * x0) (h8 : x5 = x3 + x4) (h9 : x6 = x5 + x2) (h10 : x7 = 25 * x1) (h11 : x8 = x7 + x0) (h12 : x9 = 100 * x1) (h13 : x10 = 4 * x0) (h14 : x11 = x9 + x10) (h15 : x12 = x11 + x2) : x0 ≤ 24 := by omega
theorem o36_117 {x0 : Int} (h0 : 0 ≤ x0) (h1 : x0 ≤ 6100) (h2 : 6100 - x0 < 0) : False := by omega
theorem o36_118 {x0 x1 : Int} (h0 : 0 ≤ x0) (h1 : x0 ≤ 60) (h2 : x1 = 1) (h3 : -2147483648 ≤ x0) (h4 : x0 ≤ 2147483647) (h5 : -2147483648 ≤ x1) (h6 : x1 ≤ 2147483647) : -2147483648 ≤ x0 + x1 := by omega
theorem o36_119 {x0 x1 : Int} (h0 : 0 ≤ x0) (h1 : x0 ≤ 60) (h2 : x1 = 1) (h3 : -2147483648 ≤ x0) (h4 : x0 ≤ 2147483647) (h5 : -2147483648 ≤ x1) (h6 : x1 ≤ 2147483647) : x0 + x1 ≤ 2147483647 := by omega
theorem o36_120 {x0 x1 x2 : Int} (h0 : 0 ≤ x1) (h1 : x1 ≤ 60) (h2 : x2 = 1) (h3 : x0 = x1 + x2) (h4 : -2147483648 ≤ x0) (h5 : x0 ≤ 2147483647) (h6 : -2147483648 ≤ x1) (h7 : x1 ≤ 2147483647) (h8 : -2147483648 ≤ x2) (h9 : x2 ≤ 2147483647) : -2147483648 ≤ 100 * x0 := by omega
theorem o36_121 {x0 x1 x2 : Int} (h0 : 0 ≤ x1) (h1 : x1 ≤ 60) (h2 : x2 = 1) (h3 : x0 = x1 + x2) (h4 : -2147483648 ≤ x0) (h5 : x0 ≤ 2147483647) (h6 : -2147483648 ≤ x1) (h7 : x1 ≤ 2147483647) (h8 : -2147483648 ≤ x2) (h9 : x2 ≤ 2147483647) : 100 * x0 ≤ 2147483647 := by omega
theorem o36_122 {x0 x1 x2 : Int} (h0 : 0 ≤ x2) (h1 : x2 ≤ 24) (h2 : 0 ≤ x1) (h3 : x1 ≤ 3) (h4 : x0 = 4 * x2) (h5 : -2147483648 ≤ x0) (h6 : x0 ≤ 2147483647) (h7 : -2147483648 ≤ x1) (h8 : x1 ≤ 2147483647) (h9 : -2147483648 ≤ x2) (h10 : x2 ≤ 2147483647) : -2147483648 ≤ x0 + x1 := by omega
theorem o36_123 {x0 x1 x2 : Int} (h0 : 0 ≤ x2) (h1 : x2 ≤ 24) (h2 : 0 ≤ x1) (h3 : x1 ≤ 3) (h4 : x0 = 4 * x2) (h5 : -2147483648 ≤ x0) (h6 : x0 ≤ 2147483647) (h7 : -2147483648 ≤ x1) (h8 : x1 ≤ 2147483647) (h9 : -2147483648 ≤ x2) (h10 : x2 ≤ 2147483647) : x0 + x1 ≤ 2147483647 := by omega
theorem o36_124 {x0 x1 x2 x3 : Int} (h0 : 0 ≤ x1) (h1 : x1 ≤ 24) (h2 : 0 ≤ x2) (h3 : x2 ≤ 3) (h4 : x3 = 4 * x1) (h5 : x0 = x3 + x2) : 0 ≤ x0 := by omega
theorem o36_125 {x0 x1 x2 x3 : Int} (h0 : 0 ≤ x1) (h1 : x1 ≤ 24) (h2 : 0 ≤ x2) (h3 : x2 ≤ 3) (h4 : x3 = 4 * x1) (h5 : x0 = x3 + x2) : x0 < (6100 : Nat) := by omega
theorem o36_126 {x0 : Int} (h0 : 0 ≤ x0) (h1 : x0 ≤ 60) (h2 : 60 - x0 < 0) : False := by omega
theorem o36_127 {x0 : Int} (h0 : 0 ≤ x0) (h1 : x0 ≤ 100) (h2 : 100 - x0 < 0) : False := by omega
theorem o36_128 {x0 : Int} (h0 : 0 ≤ x0) (h1 : x0 ≤ 25) (h2 : -2147483648 ≤ x0) (h3 : x0 ≤ 2147483647) : -2147483648 ≤ 4 * x0 := by omega
theorem o36_129 {x0 : Int} (h0 : 0 ≤ x0) (h1 : x0 ≤ 25) (h2 : -2147483648 ≤ x0) (h3 : x0 ≤ 2147483647) : 4 * x0 ≤ 2147483647 := by omega
theorem o36_130 {x0 x1 x2 x4 x5 x6 : Int} {x3 x7 : Nat} (h0 : 0 ≤ x1) (h1 : x1 ≤ 60) (h2 : 0 ≤ x2) (h3 : x2 ≤ 6100) (h4 : 6100 - x2 < ((x3 + 1 : Nat) : Int)) (h5 : x4 = 1) (h6 : x5 = x1 + x4) (h7 : x6 = 100 * x5) (h8 : x6 ≤ x2) (h9 : 0 ≤ x0) (h10 : x0 ≤ 60) (h11 : 60 - x0 < ((x7 + 1 : Nat) : Int)) (h12 : x0 < x1) (h13 : -2147483648 ≤ x0) (h14 : x0 ≤ 2147483647) (h15 : -2147483648 ≤ x1) (h16 : x1 ≤ 2147483647) (h17 : -2147483648 ≤ x2) (h18 : x2 ≤ 2147483647) (h19 : -2147483648 ≤ x4) (h20 : x4 ≤ 2147483647) (h21 : -2147483648 ≤ x5) (h22 : x5 ≤ 2147483647) (h23 : -2147483648 ≤ x6) (h24 : x6 ≤ 2147483647) : -2147483648 ≤ x0 + 1 := by omega
theorem o36_131 {x0 x1 x2 x4 x5 x6 : Int} {x3 x7 : Nat} (h0 : 0 ≤ x1) (h1 : x1 ≤ 60) (h2 : 0 ≤ x2) (h3 : x2 ≤ 6100) (h4 : 6100 - x2 < ((x3 + 1 : Nat) : Int)) (h5 : x4 = 1) (h6 : x5 = x1 + x4) (h7 : x6 = 100 * x5) (h8 : x6 ≤ x2) (h9 : 0 ≤ x0) (h10 : x0 ≤ 60) (h11 : 60 - x0 < ((x7 + 1 : Nat) : Int)) (h12 : x0 < x1) (h13 : -2147483648 ≤ x0) (h14 : x0 ≤ 2147483647) (h15 : -2147483648 ≤ x1) (h16 : x1 ≤ 2147483647) (h17 : -2147483648 ≤ x2) (h18 : x2 ≤ 2147483647) (h19 : -2147483648 ≤ x4) (h20 : x4 ≤ 2147483647) (h21 : -2147483648 ≤ x5) (h22 : x5 ≤ 2147483647) (h23 : -2147483648 ≤ x6) (h24 : x6 ≤ 2147483647) : x0 + 1 ≤ 2147483647 := by omega
theorem o36_132 {x0 x2 x3 x5 x6 x7 x8 : Int} {x1 x4 : Nat} (h0 : 0 ≤ x2) (h1 : x2 ≤ 60) (h2 : 0 ≤ x3) (h3 : x3 ≤ 6100) (h4 : 6100 - x3 < ((x4 + 1 : Nat) : Int)) (h5 : x5 = 1) (h6 : x6 = x2 + x5) (h7 : x7 = 100 * x6) (h8 : x7 ≤ x3) (h9 : 0 ≤ x8) (h10 : x8 ≤ 60) (h11 : 60 - x8 < ((x1 + 1 : Nat) : Int)) (h12 : x8 < x2) (h13 : x0 = x8 + 1) : 60 - x0 < (x1 : Int) := by omega
theorem o36_133 {x0 x1 x2 x4 x5 x6 x7 : Int} {x3 x8 : Nat} (h0 : 0 ≤ x1) (h1 : x1 ≤ 60) (h2 : 0 ≤ x2) (h3 : x2 ≤ 6100) (h4 : 6100 - x2 < ((x3 + 1 : Nat) : Int)) (h5 : x4 = 1) (h6 : x5 = x1 + x4) (h7 : x6 = 100 * x5) (h8 : x6 ≤ x2) (h9 : 0 ≤ x7) (h10 : x7 ≤ 60) (h11 : 60 - x7 < ((x8 + 1 : Nat) : Int)) (h12 : x7 < x1) (h13 : x0 = x7 + 1) : 0 ≤ x0 := by omega
theorem o36_134 {x0 x1 x2 x4 x5 x6 x7 : Int} {x3 x8 : Nat} (h0 : 0 ≤ x1) (h1 : x1 ≤ 60) (h2 : 0 ≤ x2) (h3 : x2 ≤ 6100) (h4 : 6100 - x2 < ((x3 + 1 : Nat) : Int)) (h5 : x4 = 1) (h6 : x5 = x1 + x4) (h7 : x6 = 100 * x5) (h8 : x6 ≤ x2) (h9 : 0 ≤ x7) (h10 : x7 ≤ 60) (h11 : 60 - x7 < ((x8 + 1 : Nat) : Int)) (h12 : x7 < x1) (h13 : x0 = x7 + 1) : x0 ≤ 60 := by omega
theorem o36_135 {x0 x1 x2 x4 x5 x6 : Int} {x3 x7 : Nat} (h0 : 0 ≤ x1) (h1 : x1 ≤ 60) (h2 : 0 ≤ x2) (h3 : x2 ≤ 6100) (h4 : 6100 - x2 < ((x3 + 1 : Nat) : Int)) (h5 : x4 = 1) (h6 : x5 = x1 + x4) (h7 : x6 = 100 * x5) (h8 : x6 ≤ x2) (h9 : 0 ≤ x0) (h10 : x0 ≤ 60) (h11 : 60 - x0 < ((x7 + 1 : Nat) : Int)) (h12 : x0 < x1) (h13 : -2147483648 ≤ x0) (h14 : x0 ≤ 2147483647) (h15 : -2147483648 ≤ x1) (h16 : x1 ≤ 2147483647) (h17 : -2147483648 ≤ x2) (h18 : x2 ≤ 2147483647) (h19 : -2147483648 ≤ x4) (h20 : x4 ≤ 2147483647) (h21 : -2147483648 ≤ x5) (h22 : x5 ≤ 2147483647) (h23 : -2147483648 ≤ x6) (h24 : x6 ≤ 2147483647) : -2147483648 ≤ 100 * x0 := by omega
theorem o36_136 {x0 x1 x2 x4 x5 x6 : Int} {x3 x7 : Nat} (h0 : 0 ≤ x1) (h1 : x1 ≤ 60) (h2 : 0 ≤ x2) (h3 : x2 ≤ 6100) (h4 : 6100 - x2 < ((x3 + 1 : Nat) : Int)) (h5 : x4 = 1) (h6 : x5 = x1 + x4) (h7 : x6 = 100 * x5) (h8 : x6 ≤ x2) (h9 : 0 ≤ x0) (h10 : x0 ≤ 60) (h11 : 60 - x0 < ((x7 + 1 : Nat) : Int)) (h12 : x0 < x1) (h13 : -2147483648 ≤ x0) (h14 : x0 ≤ 2147483647) (h15 : -2147483648 ≤ x1) (h16 : x1 ≤ 2147483647) (h17 : -2147483648 ≤ x2) (h18 : x2 ≤ 2147483647) (h19 : -2147483648 ≤ x4) (h20 : x4 ≤ 2147483647) (h21 : -2147483648 ≤ x5) (h22 : x5 ≤ 2147483647) (h23 : -2147483648 ≤ x6) (h24 : x6 ≤ 2147483647) : 100 * x0 ≤ 2147483647 := by omega
theorem o36_137 {x0 x1 x2 x3 x5 x6 x7 x8 x11 x12 : Int} {x4 x9 x10 : Nat} (h0 : 0 ≤ x2) (h1 : x2 ≤ 60) (h2 : 0 ≤ x3) (h3 : x3 ≤ 6100) (h4 : 6100 - x3 < ((x4 + 1 : Nat) : Int)) (h5 : x5 = 1) (h6 : x6 = x2 + x5) (h7 : x7 = 100 * x6) (h8 : x7 ≤ x3) (h9 : 0 ≤ x8) (h10 : x8 ≤ 60) (h11 : 60 - x8 < ((x9 + 1 : Nat) : Int)) (h12 : x8 < x2) (h13 : 0 ≤ x1) (h14 : x1 ≤ 100) (h15 : 100 - x1 < ((x10 + 1 : Nat) : Int)) (h16 : 0 ≤ x11) (h17 : x11 ≤ 25) (h18 : x12 = 4 * x11) (h19 : x1 < x12) (h20 : x0 = 100 * x8) (h21 : -2147483648 ≤ x0) (h22 : x0 ≤ 2147483647) (h23 : -2147483648 ≤ x1) (h24 : x1 ≤ 2147483647) (h25 : -2147483648 ≤ x2) (h26 : x2 ≤ 2147483647) (h27 : -2147483648 ≤ x3) (h28 : x3 ≤ 2147483647) (h29 : -2147483648 ≤ x5) (h30 : x5 ≤ 2147483647) (h31 : -2147483648 ≤ x6) (h32 : x6 ≤ 2147483647) (h33 : -2147483648 ≤ x7) (h34 : x7 ≤ 2147483647) (h35 : -2147483648 ≤ x8) (h36 : x8 ≤ 2147483647) (h37 : -2147483648 ≤ x11) (h38 : x11 ≤ 2147483647) (h39 : -2147483648 ≤ x12) (h40 : x12 ≤ 2147483647) : -2147483648 ≤ x0 + x1 := by omega
theorem o36_138 {x0 x1 x2 x3 x5 x6 x7 x8 x11 x12 : Int} {x4 x9 x10 : Nat} (h0 : 0 ≤ x2) (h1 : x2 ≤ 60) (h2 : 0 ≤ x3) (h3 : x3 ≤ 6100) (h4 : 6100 - x3 < ((x4 + 1 : Nat) : Int)) (h5 : x5 = 1) (h6 : x6 = x2 + x5) (h7 : x7 = 100 * x6) (h8 : x7 ≤ x3) (h9 : 0 ≤ x8) (h10 : x8 ≤ 60) (h11 : 60 - x8 < ((x9 + 1 : Nat) : Int)) (h12 : x8 < x2) (h13 : 0 ≤ x1) (h14 : x1 ≤ 100) (h15 : 100 - x1 < ((x10 + 1 : Nat) : Int)) (h16 : 0 ≤ x11) (h17 : x11 ≤ 25) (h18 : x12 = 4 * x11) (h19 : x1 < x12) (h20 : x0 = 100 * x8) (h21 : -2147483648 ≤ x0) (h22 : x0 ≤ 2147483647) (h23 : -2147483648 ≤ x1) (h24 : x1 ≤ 2147483647) (h25 : -2147483648 ≤ x2) (h26 : x2 ≤ 2147483647) (h27 : -2147483648 ≤ x3) (h28 : x3 ≤ 2147483647) (h29 : -2147483648 ≤ x5) (h30 : x5 ≤ 2147483647) (h31 : -2147483648 ≤ x6) (h32 : x6 ≤ 2147483647) (h33 : -2147483648 ≤ x7) (h34 : x7 ≤ 2147483647) (h35 : -2147483648 ≤ x8) (h36 : x8 ≤ 2147483647) (h37 : -2147483648 ≤ x11) (h38 : x11 ≤ 2147483647) (h39 : -2147483648 ≤ x12) (h40 : x12 ≤ 2147483647) : x0 + x1 ≤ 2147483647 := by omega
theorem o36_139 {x0 x1 x2 x4 x5 x6 x7 x9 x11 x12 x13 : Int} {x3 x8 x10 : Nat} (h0 : 0 ≤ x1) (h1 : x1 ≤ 60) (h2 : 0 ≤ x2) (h3 : x2 ≤ 6100) (h4 : 6100 - x2 < ((x3 + 1 : Nat) : Int)) (h5 : x4 = 1) (h6 : x5 = x1 + x4) (h7 : x6 = 100 * x5) (h8 : x6 ≤ x2) (h9 : 0 ≤ x7) (h10 : x7 ≤ 60) (h11 : 60 - x7 < ((x8 + 1 : Nat) : Int)) (h12 : x7 < x1) (h13 : 0 ≤ x9) (h14 : x9 ≤ 100) (h15 : 100 - x9 < ((x10 + 1 : Nat) : Int)) (h16 : 0 ≤ x11) (h17 : x11 ≤ 25) (h18 : x12 = 4 * x11) (h19 : x9 < x12) (h20 : x13 = 100 * x7) (h21 : x0 = x13 + x9) : 0 ≤ x0 := by omega
theorem o36_140 {x0 x1 x2 x4 x5 x6 x7 x9 x11 x12 x13 : Int} {x3 x8 x10 : Nat} (h0 : 0 ≤ x1) (h1 : x1 ≤ 60) (h2 : 0 ≤ x2) (h3 : x2 ≤ 6100) (h4 : 6100 - x2 < ((x3 + 1 : Nat) : Int)) (h5 : x4 = 1) (h6 : x5 = x1 + x4) (h7 : x6 = 100 * x5) (h8 : x6 ≤ x2) (h9 : 0 ≤ x7) (h10 : x7 ≤ 60) (h11 : 60 - x7 < ((x8 + 1 : Nat) : Int)) (h12 : x7 < x1) (h13 : 0 ≤ x9) (h14 : x9 ≤ 100) (h15 : 100 - x9 < ((x10 + 1 : Nat) : Int)) (h16 : 0 ≤ x11) (h17 : x11 ≤ 25) (h18 : x12 = 4 * x11) (h19 : x9 < x12) (h20 : x13 = 100 * x7) (h21 : x0 = x13 + x9) : x0 < (6100 : Nat) := by omega
theorem o36_141 {x0 x1 x2 x4 x5 x6 x7 x10 x11 x12 x13 : Int} {x3 x8 x9 : Nat} (h0 : 0 ≤ x1) (h1 : x1 ≤ 60) (h2 : 0 ≤ x2) (h3 : x2 ≤ 6100) (h4 : 6100 - x2 < ((x3 + 1 : Nat) : Int)) (h5 : x4 = 1) (h6 : x5 = x1 + x4) (h7 : x6 = 100 * x5) (h8 : x6 ≤ x2) (h9 : 0 ≤ x7) (h10 : x7 ≤ 60) (h11 : 60 - x7 < ((x8 + 1 : Nat) : Int)) (h12 : x7 < x1) (h13 : 0 ≤ x0) (h14 : x0 ≤ 100) (h15 : 100 - x0 < ((x9 + 1 : Nat) : Int)) (h16 : 0 ≤ x10) (h17 : x10 ≤ 25) (h18 : x11 = 4 * x10) (h19 : x0 < x11) (h20 : x12 = 100 * x7) (h21 : x13 = x12 + x0) (h22 : -2147483648 ≤ x0) (h23 : x0 ≤ 2147483647) (h24 : -2147483648 ≤ x1) (h25 : x1 ≤ 2147483647) (h26 : -2147483648 ≤ x2) (h27 : x2 ≤ 2147483647) (h28 : -2147483648 ≤ x4) (h29 : x4 ≤ 2147483647) (h30 : -2147483648 ≤ x5) (h31 : x5 ≤ 2147483647) (h32 : -2147483648 ≤ x6) (h33 : x6 ≤ 2147483647) (h34 : -2147483648 ≤ x7) (h35 : x7 ≤ 2147483647) (h36 : -2147483648 ≤ x10) (h37 : x10 ≤ 2147483647) (h38 : -2147483648 ≤ x11) (h39 : x11 ≤ 2147483647) (h40 : -2147483648 ≤ x12) (h41 : x12 ≤ 2147483647) (h42 : -2147483648 ≤ x13) (h43 : x13 ≤ 2147483647) : -2147483648 ≤ x0 + 1 := by omega
theorem o36_142 {x0 x1 x2 x4 x5 x6 x7 x10 x11 x12 x13 : Int} {x3 x8 x9 : Nat} (h0 : 0 ≤ x1) (h1 : x1 ≤ 60) (h2 : 0 ≤ x2) (h3 : x2 ≤ 6100) (h4 : 6100 - x2 < ((x3 + 1 : Nat) : Int)) (h5 : x4 = 1) (h6 : x5 = x1 + x4) (h7 : x6 = 100 * x5) (h8 : x6 ≤ x2) (h9 : 0 ≤ x7) (h10 : x7 ≤ 60) (h11 : 60 - x7 < ((x8 + 1 : Nat) : Int)) (h12 : x7 < x1) (h13 : 0 ≤ x0) (h14 : x0 ≤ 100) (h15 : 100 - x0 < ((x9 + 1 : Nat) : Int)) (h16 : 0 ≤ x10) (h17 : x10 ≤ 25) (h18 : x11 = 4 * x10) (h19 : x0 < x11) (h20 : x12 = 100 * x7) (h21 : x13 = x12 + x0) (h22 : -2147483648 ≤ x0) (h23 : x0 ≤ 2147483647) (h24 : -2147483648 ≤ x1) (h25 : x1 ≤ 2147483647) (h26 : -2147483648 ≤ x2) (h27 : x2 ≤ 2147483647) (h28 : -2147483648 ≤ x4) (h29 : x4 ≤ 2147483647) (h30 : -2147483648 ≤ x5) (h31 : x5 ≤ 2147483647) (h32 : -2147483648 ≤ x6) (h33 : x6 ≤ 2147483647) (h34 : -2147483648 ≤ x7) (h35 : x7 ≤ 2147483647) (h36 : -2147483648 ≤ x10) (h37 : x10 ≤ 2147483647) (h38 : -2147483648 ≤ x11) (h39 : x11 ≤ 2147483647) (h40 : -2147483648 ≤ x12) (h41 : x12 ≤ 2147483647) (h42 : -2147483648 ≤ x13) (h43 : x13 ≤ 2147483647) : x0 + 1 ≤ 2147483647 := by omega
theorem o36_143 {x0 x2 x3 x5 x6 x7 x8 x10 x11 x12 x13 x14 : Int} {x1 x4 x9 : Nat} (h0 : 0 ≤ x2) (h1 : x2 ≤ 60) (h2 : 0 ≤ x3) (h3 : x3 ≤ 6100) (h4 : 6100 - x3 < ((x4 + 1 : Nat) : Int)) (h5 : x5 = 1) (h6 : x6 = x2 + x5) (h7 : x7 = 100 * x6) (h8 : x7 ≤ x3) (h9 : 0 ≤ x8) (h10 : x8 ≤ 60) (h11 : 60 - x8 < ((x9 + 1 : Nat) : Int)) (h12 : x8 < x2) (h13 : 0 ≤ x10) (h14 : x10 ≤ 100) (h15 : 100 - x10 < ((x1 + 1 : Nat) : Int)) (h16 : 0 ≤ x11) (h17 : x11 ≤ 25) (h18 : x12 = 4 * x11) (h19 : x10 < x12) (h20 : x13 = 100 * x8) (h21 : x14 = x13 + x10) (h22 : x0 = x10 + 1) : 100 - x0 < (x1 : Int) := by omega
theorem o36_144 {x0 x1 x2 x4 x5 x6 x7 x9 x11 x12 x13 x14 : Int} {x3 x8 x10 : Nat} (h0 : 0 ≤ x1) (h1 : x1 ≤ 60) (h2 : 0 ≤ x2) (h3 : x2 ≤ 6100) (h4 : 6100 - x2 < ((x3 + 1 : Nat) : Int)) (h5 : x4 = 1) (h6 : x5 = x1 + x4) (h7 : x6 = 100 * x5) (h8 : x6 ≤ x2) (h9 : 0 ≤ x7) (h10 : x7 ≤ 60) (h11 : 60 - x7 < ((x8 + 1 : Nat) : Int)) (h12 : x7 < x1) (h13 : 0 ≤ x9) (h14 : x9 ≤ 100) (h15 : 100 - x9 < ((x10 + 1 : Nat) : Int)) (h16 : 0 ≤ x11) (h17 : x11 ≤ 25) (h18 : x12 = 4 * x11) (h19 : x9 < x12) (h20 : x13 = 100 * x7) (h21 : x14 = x13 + x9) (h22 : x0 = x9 + 1) : 0 ≤ x0 := by omega
theorem o36_145 {x0 x1 x2 x4 x5 x6 x7 x9 x11 x12 x13 x14 : Int} {x3 x8 x10 : Nat} (h0 : 0 ≤ x1) (h1 : x1 ≤ 60) (h2 : 0 ≤ x2) (h3 : x2 ≤ 6100) (h4 : 6100 - x2 < ((x3 + 1 : Nat) : Int)) (h5 : x4 = 1) (h6 : x5 = x1 + x4) (h7 : x6 = 100 * x5) (h8 : x6 ≤ x2) (h9 : 0 ≤ x7) (h10 : x7 ≤ 60) (h11 : 60 - x7 < ((x8 + 1 : Nat) : Int)) (h12 : x7 < x1) (h13 : 0 ≤ x9) (h14 : x9 ≤ 100) (h15 : 100 - x9 < ((x10 + 1 : Nat) : Int)) (h16 : 0 ≤ x11) (h17 : x11 ≤ 25) (h18 : x12 = 4 * x11) (h19 : x9 < x12) (h20 : x13 = 100 * x7) (h21 : x14 = x13 + x9) (h22 : x0 = x9 + 1) : x0 ≤ 100 := by omega
theorem o36_146 {x0 x1 x2 x4 x5 x6 x7 x10 x11 x12 x13 : Int} {x3 x8 x9 : Nat} (h0 : 0 ≤ x1) (h1 : x1 ≤ 60) (h2 : 0 ≤ x2) (h3 : x2 ≤ 6100) (h4 : 6100 - x2 < ((x3 + 1 : Nat) : Int)) (h5 : x4 = 1) (h6 : x5 = x1 + x4) (h7 : x6 = 100 * x5) (h8 : x6 ≤ x2) (h9 : 0 ≤ x7) (h10 : x7 ≤ 60) (h11 : 60 - x7 < ((x8 + 1 : Nat) : Int)) (h12 : x7 < x1) (h13 : 0 ≤ x0) (h14 : x0 ≤ 100) (h15 : 100 - x0 < ((x9 + 1 : Nat) : Int)) (h16 : 0 ≤ x10) (h17 : x10 ≤ 25) (h18 : x11 = 4 * x10) (h19 : x0 < x11) (h20 : x12 = 100 * x7) (h21 : x13 = x12 + x0) : 0 ≤ x0 := by omega
theorem o36_147 {x0 x1 x2 x4 x5 x6 x7 x10 x11 x12 x13 x14 : Int} {x3 x8 x9 : Nat} (h0 : 0 ≤ x1) (h1 : x1 ≤ 60) (h2 : 0 ≤ x2) (h3 : x2 ≤ 6100) (h4 : 6100 - x2 < ((x3 + 1 : Nat) : Int)) (h5 : x4 = 1) (h6 : x5 = x1 + x4) (h7 : x6 = 100 * x5) (h8 : x6 ≤ x2) (h9 : 0 ≤ x7) (h10 : x7 ≤ 60) (h11 : 60 - x7 < ((x8 + 1 : Nat) : Int)) (h12 : x7 < x1) (h13 : 0 ≤ x0) (h14 : x0 ≤ 100) (h15 : 100 - x0 < ((x9 + 1 : Nat) : Int)) (h16 : 0 ≤ x10) (h17 : x10 ≤ 25) (h18 : x11 = 4 * x10) (h19 : x0 < x11) (h20 : x12 = 100 * x7) (h21 : x13 = x12 + x0) (h22 : x14 = x0 / 4) : 0 ≤ x0 := by omega
theorem o36_148 {x0 x1 x2 x4 x5 x6 x8 x10 x11 x12 x13 x14 x15 : Int} {x3 x7 x9 : Nat} (h0 : 0 ≤ x1) (h1 : x1 ≤ 60) (h2 : 0 ≤ x2) (h3 : x2 ≤ 6100) (h4 : 6100 - x2 < ((x3 + 1 : Nat) : Int)) (h5 : x4 = 1) (h6 : x5 = x1 + x4) (h7 : x6 = 100 * x5) (h8 : x6 ≤ x2) (h9 : 0 ≤ x0) (h10 : x0 ≤ 60) (h11 : 60 - x0 < ((x7 + 1 : Nat) : Int)) (h12 : x0 < x1) (h13 : 0 ≤ x8) (h14 : x8 ≤ 100) (h15 : 100 - x8 < ((x9 + 1 : Nat) : Int)) (h16 : 0 ≤ x10) (h17 : x10 ≤ 25) (h18 : x11 = 4 * x10) (h19 : x8 < x11) (h20 : x12 = 100 * x0) (h21 : x13 = x12 + x8) (h22 : x14 = x8 / 4) (h23 : x15 = x8 % 4) : 0 ≤ x0 := by omega
theorem o36_149 {x0 x1 x2 x4 x5 x6 x8 x10 x11 x12 x13 x14 x15 : Int} {x3 x7 x9 : Nat} (h0 : 0 ≤ x1) (h1 : x1 ≤ 60) (h2 : 0 ≤ x2) (h3 : x2 ≤ 6100) (h4 : 6100 - x2 < ((x3 + 1 : Nat) : Int)) (h5 : x4 = 1) (h6 : x5 = x1 + x4) (h7 : x6 = 100 * x5) (h8 : x6 ≤ x2) (h9 : 0 ≤ x0) (h10 : x0 ≤ 60) (h11 : 60 - x0 < ((x7 + 1 : Nat) : Int)) (h12 : x0 < x1) (h13 : 0 ≤ x8) (h14 : x8 ≤ 100) (h15 : 100 - x8 < ((x9 + 1 : Nat) : Int)) (h16 : 0 ≤ x10) (h17 : x10 ≤ 25) (h18 : x11 = 4 * x10) (h19 : x8 < x11) (h20 : x12 = 100 * x0) (h21 : x13 = x12 + x8) (h22 : x14 = x8 / 4) (h23 : x15 = x8 % 4) : x0 ≤ 60 := by omega
theorem o36_150 {x0 x1 x2 x4 x5 x6 x7 x9 x11 x12 x13 x14 x15 : Int} {x3 x8 x10 : Nat} (h0 : 0 ≤ x1) (h1 : x1 ≤ 60) (h2 : 0 ≤ x2) (h3 : x2 ≤ 6100) (h4 : 6100 - x2 < ((x3 + 1 : Nat) : Int)) (h5 : x4 = 1) (h6 : x5 = x1 + x4) (h7 : x6 = 100 * x5) (h8 : x6 ≤ x2) (h9 : 0 ≤ x7) (h10 : x7 ≤ 60) (h11 : 60 - x7 < ((x8 + 1 : Nat) : Int)) (h12 : x7 < x1) (h13 : 0 ≤ x9) (h14 : x9 ≤ 100) (h15 : 100 - x9 < ((x10 + 1 : Nat) : Int)) (h16 : 0 ≤ x11) (h17 : x11 ≤ 25) (h18 : x12 = 4 * x11) (h19 : x9 < x12) (h20 : x13 = 100 * x7) (h21 : x14 = x13 + x9) (h22 : x0 = x9 / 4) (h23 : x15 = x9 % 4) : 0 ≤ x0 := by omega
theorem o36_151 {x0 x1 x2 x4 x5 x6 x7 x9 x11 x12 x13 x14 x15 : Int} {x3 x8 x10 : Nat} (h0 : 0 ≤ x1) (h1 : x1 ≤ 60) (h2 : 0 ≤ x2) (h3 : x2 ≤ 6100) (h4 : 6100 - x2 < ((x3 + 1 : Nat) : Int)) (h5 : x4 = 1) (h6 : x5 = x1 + x4) (h7 : x6 = 100 * x5) (h8 : x6 ≤ x2) (h9 : 0 ≤ x7) (h10 : x7 ≤ 60) (h11 : 60 - x7 < ((x8 + 1 : Nat) : Int)) (h12 : x7 < x1) (h13 : 0 ≤ x9) (h14 : x9 ≤ 100) (h15 : 100 - x9 < ((x10 + 1 : Nat) : Int)) (h16 : 0 ≤ x11) (h17 : x11 ≤ 25) (h18 : x12 = 4 * x11) (h19 : x9 < x12) (h20 : x13 = 100 * x7) (h21 : x14 = x13 + x9) (h22 : x0 = x9 / 4) (h23 : x15 = x9 % 4) : x0 ≤ 24 := by omega
theorem o36_152 {x0 x1 x2 x4 x5 x6 x7 x9 x11 x12 x13 x14 x15 : Int} {x3 x8 x10 : Nat} (h0 : 0 ≤ x1) (h1 : x1 ≤ 60) (h2 : 0 ≤ x2) (h3 : x2 ≤ 6100) (h4 : 6100 - x2 < ((x3 + 1 : Nat) : Int)) (h5 : x4 = 1) (h6 : x5 = x1 + x4) (h7 : x6 = 100 * x5) (h8 : x6 ≤ x2) (h9 : 0 ≤ x7) (h10 : x7 ≤ 60) (h11 : 60 - x7 < ((x8 + 1 : Nat) : Int)) (h12 : x7 < x1) (h13 : 0 ≤ x9) (h14 : x9 ≤ 100) (h15 : 100 - x9 < ((x10 + 1 : Nat) : Int)) (h16 : 0 ≤ x11) (h17 : x11 ≤ 25) (h18 : x12 = 4 * x11) (h19 : x9 < x12) (h20 : x13 = 100 * x7) (h21 : x14 = x13 + x9) (h22 : x15 = x9 / 4) (h23 : x0 = x9 % 4) : 0 ≤ x0 := by omega
theorem o36_153 {x0 x1 x2 x4 x5 x6 x7 x9 x11 x12 x13 x14 x15 : Int} {x3 x8 x10 : Nat} (h0 : 0 ≤ x1) (h1 : x1 ≤ 60) (h2 : 0 ≤ x2) (h3 : x2 ≤ 6100) (h4 : 6100 - x2 < ((x3 + 1 : Nat) : Int)) (h5 : x4 = 1) (h6 : x5 = x1 + x4) (h7 : x6 = 100 * x5) (h8 : x6 ≤ x2) (h9 : 0 ≤ x7) (h10 : x7 ≤ 60) (h11 : 60 - x7 < ((x8 + 1 : Nat) : Int)) (h12 : x7 < x1) (h13 : 0 ≤ x9) (h14 : x9 ≤ 100) (h15 : 100 - x9 < ((x10 + 1 : Nat) : Int)) (h16 : 0 ≤ x11) (h17 : x11 ≤ 25) (h18 : x12 = 4 * x11) (h19 : x9 < x12) (h20 : x13 = 100 * x7) (h21 : x14 = x13 + x9) (h22 : x15 = x9 / 4) (h23 : x0 = x9 % 4) : x0 ≤ 3 := by omega
theorem o36_154 {x0 x2 : Int} {x1 : Nat} (h0 : 0 ≤ x0) (h1 : x0 ≤ 4) (h2 : 4 - x0 < ((x1 + 1 : Nat) : Int)) (h3 : x2 = 4) (h4 : x0 < x2) : 0 ≤ x0 := by omega
theorem o36_155 {x0 x2 : Int} {x1 : Nat} (h0 : 0 ≤ x0) (h1 : x0 ≤ 4) (h2 : 4 - x0 < ((x1 + 1 : Nat) : Int)) (h3 : x2 = 4) (h4 : x0 < x2) : x0 ≤ 3 := by omega
theorem o36_156 {x0 x1 x2 x4 x5 x6 x7 x10 x11 x12 x13 x14 x15 : Int} {x3 x8 x9 : Nat} (h0 : 0 ≤ x1) (h1 : x1 ≤ 60) (h2 : 0 ≤ x2) (h3 : x2 ≤ 6100) (h4 : 6100 - x2 < ((x3 + 1 : Nat) : Int)) (h5 : x4 = 1) (h6 : x5 = x1 + x4) (h7 : x6 = 100 * x5) (h8 : x6 ≤ x2) (h9 : 0 ≤ x7) (h10 : x7 ≤ 60) (h11 : 60 - x7 < ((x8 + 1 : Nat) : Int)) (h12 : x7 < x1) (h13 : 0 ≤ x0) (h14 : x0 ≤ 100) (h15 : 100 - x0 < ((x9 + 1 : Nat) : Int)) (h16 : 0 ≤ x10) (h17 : x10 ≤ 25) (h18 : x11 = 4 * x10) (h19 : x0 < x11) (h20 : x12 = 100 * x7) (h21 : x13 = x12 + x0) (h22 : x14 = x0 / 4) (h23 : x15 = x0 % 4) : 0 ≤ x0 := by omega
theorem o36_157 {x0 x1 x2 x4 x5 x6 x7 x9 x11 x12 x13 x14 x15 x16 : Int} {x3 x8 x10 : Nat} (h0 : 0 ≤ x1) (h1 : x1 ≤ 60) (h2 : 0 ≤ x2) (h3 : x2 ≤ 6100) (h4 : 6100 - x2 < ((x3 + 1 : Nat) : Int)) (h5 : x4 = 1) (h6 : x5 = x1 + x4) (h7 : x6 = 100 * x5) (h8 : x6 ≤ x2) (h9 : 0 ≤ x7) (h10 : x7 ≤ 60) (h11 : 60 - x7 < ((x8 + 1 : Nat) : Int)) (h12 : x7 < x1) (h13 : 0 ≤ x9) (h14 : x9 ≤ 100) (h15 : 100 - x9 < ((x10 + 1 : Nat) : Int)) (h16 : 0 ≤ x11) (h17 : x11 ≤ 25) (h18 : x12 = 4 * x11) (h19 : x9 < x12) (h20 : x13 = 100 * x7) (h21 : x14 = x13 + x9) (h22 : x15 = x9 / 4) (h23 : x16 = x9 % 4) (h24 : x0 = x9 % 4) : 0 ≤ x0 := by omega
theorem o36_158 {x0 x1 x2 x4 x5 x6 x7 x9 x11 x12 x13 x14 x15 x16 : Int} {x3 x8 x10 : Nat} (h0 : 0 ≤ x1) (h1 : x1 ≤ 60) (h2 : 0 ≤ x2) (h3 : x2 ≤ 6100) (h4 : 6100 - x2 < ((x3 + 1 : Nat) : Int)) (h5 : x4 = 1) (h6 : x5 = x1 + x4) (h7 : x6 = 100 * x5) (h8 : x6 ≤ x2) (h9 : 0 ≤ x7) (h10 : x7 ≤ 60) (h11 : 60 - x7 < ((x8 + 1 : Nat) : Int)) (h12 : x7 < x1) (h13 : 0 ≤ x9) (h14 : x9 ≤ 100) (h15 : 100 - x9 < ((x10 + 1 : Nat) : Int)) (h16 : 0 ≤ x11) (h17 : x11 ≤ 25) (h18 : x12 = 4 * x11) (h19 : x9 < x12) (h20 : x13 = 100 * x7) (h21 : x14 = x13 + x9) (h22 : x15 = x9 / 4) (h23 : x16 = x9 % 4) (h24 : x0 = x9 % 4) : x0 ≤ 3 := by omega
theorem o36_159 {x0 x1 x2 x3 x5 x6 x7 x9 x11 x12 x13 x14 x15 x16 x17 : Int} {x4 x8 x10 : Nat} (h0 : 0 ≤ x2) (h1 : x2 ≤ 60) (h2 : 0 ≤ x3) (h3 : x3 ≤ 6100) (h4 : 6100 - x3 < ((x4 + 1 : Nat) : Int)) (h5 : x5 = 1) (h6 : x6 = x2 + x5) (h7 : x7 = 100 * x6) (h8 : x7 ≤ x3) (h9 : 0 ≤ x0) (h10 : x0 ≤ 60) (h11 : 60 - x0 < ((x8 + 1 : Nat) : Int)) (h12 : x0 < x2) (h13 : 0 ≤ x9) (h14 : x9 ≤ 100) (h15 : 100 - x9 < ((x10 + 1 : Nat) : Int)) (h16 : 0 ≤ x11) (h17 : x11 ≤ 25) (h18 : x12 = 4 * x11) (h19 : x9 < x12) (h20 : x13 = 100 * x0) (h21 : x14 = x13 + x9) (h22 : x15 = x9 / 4) (h23 : x16 = x9 % 4) (h24 : x17 = x9 % 4) (h25 : x1 = 1) (h26 : -2147483648 ≤ x0) (h27 : x0 ≤ 2147483647) (h28 : -2147483648 ≤ x1) (h29 : x1 ≤ 2147483647) (h30 : -2147483648 ≤ x2) (h31 : x2 ≤ 2147483647) (h32 : -2147483648 ≤ x3) (h33 : x3 ≤ 2147483647) (h34 : -2147483648 ≤ x5) (h35 : x5 ≤ 2147483647) (h36 : -2147483648 ≤ x6) (h37 : x6 ≤ 2147483647) (h38 : -2147483648 ≤ x7) (h39 : x7 ≤ 2147483647) (h40 : -2147483648 ≤ x9) (h41 : x9 ≤ 2147483647) (h42 : -2147483648 ≤ x11) (h43 : x11 ≤ 2147483647) (h44 : -2147483648 ≤ x12) (h45 : x12 ≤ 2147483647) (h46 : -2147483648 ≤ x13) (h47 : x13 ≤ 2147483647) (h48 : -2147483648 ≤ x14) (h49 : x14 ≤ 2147483647) (h50 : -2147483648 ≤ x15) (h51 : x15 ≤ 2147483647) (h52 : -2147483648 ≤ x16) (h53 : x16 ≤ 2147483647) (h54 : -2147483648 ≤ x17) (h55 : x17 ≤ 2147483647) : -2147483648 ≤ x0 + x1 := by omega
theorem o36_160 {x0 x1 x2 x3 x5 x6 x7 x9 x11 x12 x13 x14 x15 x16 x17 : Int} {x4 x8 x10 : Nat} (h0 : 0 ≤ x2) (h1 : x2 ≤ 60) (h2 : 0 ≤ x3) (h3 : x3 ≤ 6100) (h4 : 6100 - x3 < ((x4 + 1 : Nat) : Int)) (h5 : x5 = 1) (h6 : x6 = x2 + x5) (h7 : x7 = 100 * x6) (h8 : x7 ≤ x3) (h9 : 0 ≤ x0) (h10 : x0 ≤ 60) (h11 : 60 - x0 < ((x8 + 1 : Nat) : Int)) (h12 : x0 < x2) (h13 : 0 ≤ x9) (h14 : x9 ≤ 100) (h15 : 100 - x9 < ((x10 + 1 : Nat) : Int)) (h16 : 0 ≤ x11) (h17 : x11 ≤ 25) (h18 : x12 = 4 * x11) (h19 : x9 < x12) (h20 : x13 = 100 * x0) (h21 : x14 = x13 + x9) (h22 : x15 = x9 / 4) (h23 : x16 = x9 % 4) (h24 : x17 = x9 % 4) (h25 : x1 = 1) (h26 : -2147483648 ≤ x0) (h27 : x0 ≤ 2147483647) (h28 : -2147483648 ≤ x1) (h29 : x1 ≤ 2147483647) (h30 : -2147483648 ≤ x2) (h31 : x2 ≤ 2147483647) (h32 : -2147483648 ≤ x3) (h33 : x3 ≤ 2147483647) (h34 : -2147483648 ≤ x5) (h35 : x5 ≤ 2147483647) (h36 : -2147483648 ≤ x6) (h37 : x6 ≤ 2147483647) (h38 : -2147483648 ≤ x7) (h39 : x7 ≤ 2147483647) (h40 : -2147483648 ≤ x9) (h41 : x9 ≤ 2147483647) (h42 : -2147483648 ≤ x11) (h43 : x11 ≤ 2147483647) (h44 : -2147483648 ≤ x12) (h45 : x12 ≤ 2147483647) (h46 : -2147483648 ≤ x13) (h47 : x13 ≤ 2147483647) (h48 : -2147483648 ≤ x14) (h49 : x14 ≤ 2147483647) (h50 : -2147483648 ≤ x15) (h51 : x15 ≤ 2147483647) (h52 : -2147483648 ≤ x16) (h53 : x16 ≤ 2147483647) (h54 : -2147483648 ≤ x17) (h55 : x17 ≤ 2147483647) : x0 + x1 ≤ 2147483647 := by omega
theorem o36_161 {x0 x1 x2 x4 x5 x6 x7 x9 x11 x12 x13 x14 x15 x16 x17 x18 : Int} {x3 x8 x10 : Nat} (h0 : 0 ≤ x1) (h1 : x1 ≤ 60) (h2 : 0 ≤ x2) (h3 : x2 ≤ 6100) (h4 : 6100 - x2 < ((x3 + 1 : Nat) : Int)) (h5 : x4 = 1) (h6 : x5 = x1 + x4) (h7 : x6 = 100 * x5) (h8 : x6 ≤ x2) (h9 : 0 ≤ x7) (h10 : x7 ≤ 60) (h11 : 60 - x7 < ((x8 + 1 : Nat) : Int)) (h12 : x7 < x1) (h13 : 0 ≤ x9) (h14 : x9 ≤ 100) (h15 : 100 - x9 < ((x10 + 1 : Nat) : Int)) (h16 : 0 ≤ x11) (h17 : x11 ≤ 25) (h18 : x12 = 4 * x11) (h19 : x9 < x12) (h20 : x13 = 100 * x7) (h21 : x14 = x13 + x9) (h22 : x15 = x9 / 4) (h23 : x16 = x9 % 4) (h24 : x17 = x9 % 4) (h25 : x18 = 1) (h26 : x0 = x7 + x18) (h27 : -2147483648 ≤ x0) (h28 : x0 ≤ 2147483647) (h29 : -2147483648 ≤ x1) (h30 : x1 ≤ 2147483647) (h31 : -2147483648 ≤ x2) (h32 : x2 ≤ 2147483647) (h33 : -2147483648 ≤ x4) (h34 : x4 ≤ 2147483647) (h35 : -2147483648 ≤ x5) (h36 : x5 ≤ 2147483647) (h37 : -2147483648 ≤ x6) (h38 : x6 ≤ 2147483647) (h39 : -2147483648 ≤ x7) (h40 : x7 ≤ 2147483647) (h41 : -2147483648 ≤ x9) (h42 : x9 ≤ 2147483647) (h43 : -2147483648 ≤ x11) (h44 : x11 ≤ 2147483647) (h45 : -2147483648 ≤ x12) (h46 : x12 ≤ 2147483647) (h47 : -2147483648 ≤ x13) (h48 : x13 ≤ 2147483647) (h49 : -2147483648 ≤ x14) (h50 : x14 ≤ 2147483647) (h51 : -2147483648 ≤ x15) (h52 : x15 ≤ 2147483647) (h53 : -2147483648 ≤ x16) (h54 : x16 ≤ 2147483647) (h55 : -2147483648 ≤ x17) (h56 : x17 ≤ 2147483647) (h57 : -2147483648 ≤ x18) (h58 : x18 ≤ 2147483647) : -2147483648 ≤ 100 * x0 := by omega
theorem o36_162 {x0 x1 x2 x4 x5 x6 x7 x9 x11 x12 x13 x14 x15 x16 x17 x18 : Int} {x3 x8 x10 : Nat} (h0 : 0 ≤ x1) (h1 : x1 ≤ 60) (h2 : 0 ≤ x2) (h3 : x2 ≤ 6100) (h4 : 6100 - x2 < ((x3 + 1 : Nat) : Int)) (h5 : x4 = 1) (h6 : x5 = x1 + x4) (h7 : x6 = 100 * x5) (h8 : x6 ≤ x2) (h9 : 0 ≤ x7) (h10 : x7 ≤ 60) (h11 : 60 - x7 < ((x8 + 1 : Nat) : Int)) (h12 : x7 < x1) (h13 : 0 ≤ x9) (h14 : x9 ≤ 100) (h15 : 100 - x9 < ((x10 + 1 : Nat) : Int)) (h16 : 0 ≤ x11) (h17 : x11 ≤ 25) (h18 : x12 = 4 * x11) (h19 : x9 < x12) (h20 : x13 = 100 * x7) (h21 : x14 = x13 + x9) (h22 : x15 = x9 / 4) (h23 : x16 = x9 % 4) (h24 : x17 = x9 % 4) (h25 : x18 = 1) (h26 : x0 = x7 + x18) (h27 : -2147483648 ≤ x0) (h28 : x0 ≤ 2147483647) (h29 : -2147483648 ≤ x1) (h30 : x1 ≤ 2147483647) (h31 : -2147483648 ≤ x2) (h32 : x2 ≤ 2147483647) (h33 : -2147483648 ≤ x4) (h34 : x4 ≤ 2147483647) (h35 : -2147483648 ≤ x5) (h36 : x5 ≤ 2147483647) (h37 : -2147483648 ≤ x6) (h38 : x6 ≤ 2147483647) (h39 : -2147483648 ≤ x7) (h40 : x7 ≤ 2147483647) (h41 : -2147483648 ≤ x9) (h42 : x9 ≤ 2147483647) (h43 : -2147483648 ≤ x11) (h44 : x11 ≤ 2147483647) (h45 : -2147483648 ≤ x12) (h46 : x12 ≤ 2147483647) (h47 : -2147483648 ≤ x13) (h48 : x13 ≤ 2147483647) (h49 : -2147483648 ≤ x14) (h50 : x14 ≤ 2147483647) (h51 : -2147483648 ≤ x15) (h52 : x15 ≤ 2147483647) (h53 : -2147483648 ≤ x16) (h54 : x16 ≤ 2147483647) (h55 : -2147483648 ≤ x17) (h56 : x17 ≤ 2147483647) (h57 : -2147483648 ≤ x18) (h58 : x18 ≤ 2147483647) : 100 * x0 ≤ 2147483647 := by omega
theorem o36_163 {x0 x1 x2 x4 x5 x6 x7 x10 x11 x12 x13 x14 x15 x16 x17 x18 x19 : Int} {x3 x8 x9 : Nat} (h0 : 0 ≤ x1) (h1 : x1 ≤ 60) (h2 : 0 ≤ x2) (h3 : x2 ≤ 6100) (h4 : 6100 - x2 < ((x3 + 1 : Nat) : Int)) (h5 : x4 = 1) (h6 : x5 = x1 + x4) (h7 : x6 = 100 * x5) (h8 : x6 ≤ x2) (h9 : 0 ≤ x7) (h10 : x7 ≤ 60) (h11 : 60 - x7 < ((x8 + 1 : Nat) : Int)) (h12 : x7 < x1) (h13 : 0 ≤ x0) (h14 : x0 ≤ 100) (h15 : 100 - x0 < ((x9 + 1 : Nat) : Int)) (h16 : 0 ≤ x10) (h17 : x10 ≤ 25) (h18 : x11 = 4 * x10) (h19 : x0 < x11) (h20 : x12 = 100 * x7) (h21 : x13 = x12 + x0) (h22 : x14 = x0 / 4) (h23 : x15 = x0 % 4) (h24 : x16 = x0 % 4) (h25 : x17 = 1) (h26 : x18 = x7 + x17) (h27 : x19 = 100 * x18) : 0 ≤ x0 := by omega
theorem o36_164 {x0 x1 x2 x4 x5 x6 x7 x9 x11 x12 x13 x14 x15 x16 x17 x18 x19 x20 : Int} {x3 x8 x10 : Nat} (h0 : 0 ≤ x1) (h1 : x1 ≤ 60) (h2 : 0 ≤ x2) (h3 : x2 ≤ 6100) (h4 : 6100 - x2 < ((x3 + 1 : Nat) : Int)) (h5 : x4 = 1) (h6 : x5 = x1 + x4) (h7 : x6 = 100 * x5) (h8 : x6 ≤ x2) (h9 : 0 ≤ x7) (h10 : x7 ≤ 60) (h11 : 60 - x7 < ((x8 + 1 : Nat) : Int)) (h12 : x7 < x1) (h13 : 0 ≤ x9) (h14 : x9 ≤ 100) (h15 : 100 - x9 < ((x10 + 1 : Nat) : Int)) (h16 : 0 ≤ x11) (h17 : x11 ≤ 25) (h18 : x12 = 4 * x11) (h19 : x9 < x12) (h20 : x13 = 100 * x7) (h21 : x14 = x13 + x9) (h22 : x15 = x9 / 4) (h23 : x16 = x9 % 4) (h24 : x17 = x9 % 4) (h25 : x18 = 1) (h26 : x19 = x7 + x18) (h27 : x20 = 100 * x19) (h28 : x0 = x9 / 4) : 0 ≤ x0 := by omega
theorem o36_165 {x0 x1 x2 x4 x5 x6 x7 x9 x11 x12 x13 x14 x15 x16 x17 x18 x19 x20 : Int} {x3 x8 x10 : Nat} (h0 : 0 ≤ x1) (h1 : x1 ≤ 60) (h2 : 0 ≤ x2) (h3 : x2 ≤ 6100) (h4 : 6100 - x2 < ((x3 + 1 : Nat) : Int)) (h5 : x4 = 1) (h6 : x5 = x1 + x4) (h7 : x6 = 100 * x5) (h8 : x6 ≤ x2) (h9 : 0 ≤ x7) (h10 : x7 ≤ 60) (h11 : 60 - x7 < ((x8 + 1 : Nat) : Int)) (h12 : x7 < x1) (h13 : 0 ≤ x9) (h14 : x9 ≤ 100) (h15 : 100 - x9 < ((x10 + 1 : Nat) : Int)) (h16 : 0 ≤ x11) (h17 : x11 ≤ 25) (h18 : x12 = 4 * x11) (h19 : x9 < x12) (h20 : x13 = 100 * x7) (h21 : x14 = x13 + x9) (h22 : x15 = x9 / 4) (h23 : x16 = x9 % 4) (h24 : x17 = x9 % 4) (h25 : x18 = 1) (h26 : x19 = x7 + x18) (h27 : x20 = 100 * x19) (h28 : x0 = x9 / 4) : x0 ≤ 24 := by omega
theorem o36_166 {x0 x1 : Int} (h0 : x1 = 1000000000) (h1 : ¬ x0 = x1) : ¬ x0 = 1000000000 := by omega
theorem o36_167 {x0 x1 x2 x3 x5 x6 x7 x8 x10 x12 x13 x14 x15 x16 x17 x18 x19 x20 : Int} {x4 x9 x11 : Nat} (h0 : 0 ≤ x2) (h1 : x2 ≤ 60) (h2 : 0 ≤ x3) (h3 : x3 ≤ 6100) (h4 : 6100 - x3 < ((x4 + 1 : Nat) : Int)) (h5 : x5 = 1) (h6 : x6 = x2 + x5) (h7 : x7 = 100 * x6) (h8 : x7 ≤ x3) (h9 : 0 ≤ x8) (h10 : x8 ≤ 60) (h11 : 60 - x8 < ((x9 + 1 : Nat) : Int)) (h12 : x8 < x2) (h13 : 0 ≤ x10) (h14 : x10 ≤ 100) (h15 : 100 - x10 < ((x11 + 1 : Nat) : Int)) (h16 : 0 ≤ x12) (h17 : x12 ≤ 25) (h18 : x13 = 4 * x12) (h19 : x10 < x13) (h20 : x14 = 100 * x8) (h21 : x15 = x14 + x10) (h22 : x1 = x10 / 4) (h23 : x16 = x10 % 4) (h24 : x17 = x10 % 4) (h25 : x18 = 1) (h26 : x19 = x8 + x18) (h27 : x20 = 100 * x19) (h28 : x0 = x10 / 4) : x0 = x1 := by omega
theorem o36_168 {x0 x1 x2 x4 x5 x6 x7 x9 x11 x12 x13 x14 x15 x16 x17 x18 x19 x20 : Int} {x3 x8 x10 : Nat} (h0 : 0 ≤ x1) (h1 : x1 ≤ 60) (h2 : 0 ≤ x2) (h3 : x2 ≤ 6100) (h4 : 6100 - x2 < ((x3 + 1 : Nat) : Int)) (h5 : x4 = 1) (h6 : x5 = x1 + x4) (h7 : x6 = 100 * x5) (h8 : x6 ≤ x2) (h9 : 0 ≤ x7) (h10 : x7 ≤ 60) (h11 : 60 - x7 < ((x8 + 1 : Nat) : Int)) (h12 : x7 < x1) (h13 : 0 ≤ x9) (h14 : x9 ≤ 100) (h15 : 100 - x9 < ((x10 + 1 : Nat) : Int)) (h16 : 0 ≤ x11) (h17 : x11 ≤ 25) (h18 : x12 = 4 * x11) (h19 : x9 < x12) (h20 : x13 = 100 * x7) (h21 : x14 = x13 + x9) (h22 : x0 = x9 / 4) (h23 : x15 = x9 % 4) (h24 : x16 = x9 % 4) (h25 : x17 = 1) (h26 : x18 = x7 + x17) (h27 : x19 = 100 * x18) (h28 : x20 = x9 / 4) : x0 ≤ 24 := by omega
theorem o36_169 {x0 x1 x2 x3 x5 x6 x7 x8 x10 x12 x13 x14 x15 x16 x17 x18 x19 x20 : Int} {x4 x9 x11 : Nat} (h0 : 0 ≤ x2) (h1 : x2 ≤ 60) (h2 : 0 ≤ x3) (h3 : x3 ≤ 6100) (h4 : 6100 - x3 < ((x4 + 1 : Nat) : Int)) (h5 : x5 = 1) (h6 : x6 = x2 + x5) (h7 : x7 = 100 * x6) (h8 : x7 ≤ x3) (h9 : 0 ≤ x8) (h10 : x8 ≤ 60) (h11 : 60 - x8 < ((x9 + 1 : Nat) : Int)) (h12 : x8 < x2) (h13 : 0 ≤ x10) (h14 : x10 ≤ 100) (h15 : 100 - x10 < ((x11 + 1 : Nat) : Int)) (h16 : 0 ≤ x12) (h17 : x12 ≤ 25) (h18 : x13 = 4 * x12) (h19 : x10 < x13) (h20 : x14 = 100 * x8) (h21 : x15 = x14 + x10) (h22 : x16 = x10 / 4) (h23 : x1 = x10 % 4) (h24 : x0 = x10 % 4) (h25 : x17 = 1) (h26 : x18 = x8 + x17) (h27 : x19 = 100 * x18) (h28 : x20 = x10 / 4) : x0 = x1 := by omega
theorem o36_170 {x0 x2 : Int} {x1 : Nat} (h0 : 0 ≤ x0) (h1 : x0 ≤ 4) (h2 : 4 - x0 < ((x1 + 1 : Nat) : Int)) (h3 : x2 = 4) (h4 : x0 < x2) : x0 = x0 := by omega
theorem o36_171 {x0 : Int} (h0 : (-1) ≤ x0) (h1 : x0 ≤ 24) (h2 : 0 ≤ x0) (h3 : -2147483648 ≤ x0) (h4 : x0 ≤ 2147483647) : -2147483648 ≤ 4 * x0 := by omega
theorem o36_172 {x0 : Int} (h0 : (-1) ≤ x0) (h1 : x0 ≤ 24) (h2 : 0 ≤ x0) (h3 : -2147483648 ≤ x0) (h4 : x0 ≤ 2147483647) : 4 * x0 ≤ 2147483647 := by omega
theorem o36_173 {x0 x1 x2 x3 x5 x6 x7 x8 x10 x12 x13 x14 x15 x16 x17 x18 x19 x20 x21 x22 : Int} {x4 x9 x11 : Nat} (h0 : 0 ≤ x2) (h1 : x2 ≤ 60) (h2 : 0 ≤ x3) (h3 : x3 ≤ 6100) (h4 : 6100 - x3 < ((x4 + 1 : Nat) : Int)) (h5 : x5 = 1) (h6 : x6 = x2 + x5) (h7 : x7 = 100 * x6) (h8 : x7 ≤ x3) (h9 : 0 ≤ x8) (h10 : x8 ≤ 60) (h11 : 60 - x8 < ((x9 + 1 : Nat) : Int)) (h12 : x8 < x2) (h13 : 0 ≤ x10) (h14 : x10 ≤ 100) (h15 : 100 - x10 < ((x11 + 1 : Nat) : Int)) (h16 : 0 ≤ x12) (h17 : x12 ≤ 25) (h18 : x13 = 4 * x12) (h19 : x10 < x13) (h20 : x14 = 100 * x8) (h21 : x15 = x14 + x10) (h22 : x16 = x10 / 4) (h23 : x17 = x10 % 4) (h24 : x18 = x10 % 4) (h25 : x19 = 1) (h26 : x20 = x8 + x19) (h27 : x0 = 100 * x20) (h28 : x21 = x10 / 4) (h29 : (-1) ≤ x22) (h30 : x22 ≤ 24) (h31 : 0 ≤ x22) (h32 : x1 = 4 * x22) (h33 : -2147483648 ≤ x0) (h34 : x0 ≤ 2147483647) (h35 : -2147483648 ≤ x1) (h36 : x1 ≤ 2147483647) (h37 : -2147483648 ≤ x2) (h38 : x2 ≤ 2147483647) (h39 : -2147483648 ≤ x3) (h40 : x3 ≤ 2147483647) (h41 : -2147483648 ≤ x5) (h42 : x5 ≤ 2147483647) (h43 : -2147483648 ≤ x6) (h44 : x6 ≤ 2147483647) (h45 : -2147483648 ≤ x7) (h46 : x7 ≤ 2147483647) (h47 : -2147483648 ≤ x8) (h48 : x8 ≤ 2147483647) (h49 : -2147483648 ≤ x10) (h50 : x10 ≤ 2147483647) (h51 : -2147483648 ≤ x12) (h52 : x12 ≤ 2147483647) (h53 : -2147483648 ≤ x13) (h54 : x13 ≤ 2147483647) (h55 : -2147483648 ≤ x14) (h56 : x14 ≤ 2147483647) (h57 : -2147483648 ≤ x15) (h58 : x15 ≤ 2147483647) (h59 : -2147483648 ≤ x16) (h60 : x16 ≤ 2147483647) (h61 : -2147483648 ≤ x17) (h62 : x17 ≤ 2147483647) (h63 : -2147483648 ≤ x18) (h64 : x18 ≤ 2147483647) (h65 : -2147483648 ≤ x19) (h66 : x19 ≤ 2147483647) (h67 : -2147483648 ≤ x20) (h68 : x20 ≤ 2147483647) (h69 : -2147483648 ≤ x21) (h70 : x21 ≤ 2147483647) (h71 : -2147483648 ≤ x22) (h72 : x22 ≤ 2147483647) : -2147483648 ≤ x0 + x1 := by omega
theorem o36_174 {x0 x1 x2 x3 x5 x6 x7 x8 x10 x12 x13 x14 x15 x16 x17 x18 x19 x20 x21 x22 : Int} {x4 x9 x11 : Nat} (h0 : 0 ≤ x2) (h1 : x2 ≤ 60) (h2 : 0 ≤ x3) (h3 : x3 ≤ 6100) (h4 : 6100 - x3 < ((x4 + 1 : Nat) : Int)) (h5 : x5 = 1) (h6 : x6 = x2 + x5) (h7 : x7 = 100 * x6) (h8 : x7 ≤ x3) (h9 : 0 ≤ x8) (h10 : x8 ≤ 60) (h11 : 60 - x8 < ((x9 + 1 : Nat) : Int)) (h12 : x8 < x2) (h13 : 0 ≤ x10) (h14 : x10 ≤ 100) (h15 : 100 - x10 < ((x11 + 1 : Nat) : Int)) (h16 : 0 ≤ x12) (h17 : x12 ≤ 25) (h18 : x13 = 4 * x12) (h19 : x10 < x13) (h20 : x14 = 100 * x8) (h21 : x15 = x14 + x10) (h22 : x16 = x10 / 4) (h23 : x17 = x10 % 4) (h24 : x18 = x10 % 4) (h25 : x19 = 1) (h26 : x20 = x8 + x19) (h27 : x0 = 100 * x20) (h28 : x21 = x10 / 4) (h29 : (-1) ≤ x22) (h30 : x22 ≤ 24) (h31 : 0 ≤ x22) (h32 : x1 = 4 * x22) (h33 : -2147483648 ≤ x0) (h34 : x0 ≤ 2147483647) (h35 : -2147483648 ≤ x1) (h36 : x1 ≤ 2147483647) (h37 : -2147483648 ≤ x2) (h38 : x2 ≤ 2147483647) (h39 : -2147483648 ≤ x3) (h40 : x3 ≤ 2147483647) (h41 : -2147483648 ≤ x5) (h42 : x5 ≤ 2147483647) (h43 : -2147483648 ≤ x6) (h44 : x6 ≤ 2147483647) (h45 : -2147483648 ≤ x7) (h46 : x7 ≤ 2147483647) (h47 : -2147483648 ≤ x8) (h48 : x8 ≤ 2147483647) (h49 : -2147483648 ≤ x10) (h50 : x10 ≤ 2147483647) (h51 : -2147483648 ≤ x12) (h52 : x12 ≤ 2147483647) (h53 : -2147483648 ≤ x13) (h54 : x13 ≤ 2147483647) (h55 : -2147483648 ≤ x14) (h56 : x14 ≤ 2147483647) (h57 : -2147483648 ≤ x15) (h58 : x15 ≤ 2147483647) (h59 : -2147483648 ≤ x16) (h60 : x16 ≤ 2147483647) (h61 : -2147483648 ≤ x17) (h62 : x17 ≤ 2147483647) (h63 : -2147483648 ≤ x18) (h64 : x18 ≤ 2147483647) (h65 : -2147483648 ≤ x19) (h66 : x19 ≤ 2147483647) (h67 : -2147483648 ≤ x20) (h68 : x20 ≤ 2147483647) (h69 : -2147483648 ≤ x21) (h70 : x21 ≤ 2147483647) (h71 : -2147483648 ≤ x22) (h72 : x22 ≤ 2147483647) : x0 + x1 ≤ 2147483647 := by omega
theorem o36_175 {x0 x1 x2 x3 x5 x6 x7 x8 x10 x12 x13 x14 x15 x16 x17 x18 x19 x20 x21 x22 x23 x24 : Int} {x4 x9 x11 : Nat} (h0 : 0 ≤ x2) (h1 : x2 ≤ 60) (h2 : 0 ≤ x3) (h3 : x3 ≤ 6100) (h4 : 6100 - x3 < ((x4 + 1 : Nat) : Int)) (h5 : x5 = 1) (h6 : x6 = x2 + x5) (h7 : x7 = 100 * x6) (h8 : x7 ≤ x3) (h9 : 0 ≤ x8) (h10 : x8 ≤ 60) (h11 : 60 - x8 < ((x9 + 1 : Nat) : Int)) (h12 : x8 < x2) (h13 : 0 ≤ x10) (h14 : x10 ≤ 100) (h15 : 100 - x10 < ((x11 + 1 : Nat) : Int)) (h16 : 0 ≤ x12) (h17 : x12 ≤ 25) (h18 : x13 = 4 * x12) (h19 : x10 < x13) (h20 : x14 = 100 * x8) (h21 : x15 = x14 + x10) (h22 : x16 = x10 / 4) (h23 : x17 = x10 % 4) (h24 : x18 = x10 % 4) (h25 : 0 ≤ x1) (h26 : x1 ≤ 3) (h27 : x19 = 1) (h28 : x20 = x8 + x19) (h29 : x21 = 100 * x20) (h30 : x22 = x10 / 4) (h31 : (-1) ≤ x23) (h32 : x23 ≤ 24) (h33 : 0 ≤ x23) (h34 : x24 = 4 * x23) (h35 : x0 = x21 + x24) (h36 : -2147483648 ≤ x0) (h37 : x0 ≤ 2147483647) (h38 : -2147483648 ≤ x1) (h39 : x1 ≤ 2147483647) (h40 : -2147483648 ≤ x2) (h41 : x2 ≤ 2147483647) (h42 : -2147483648 ≤ x3) (h43 : x3 ≤ 2147483647) (h44 : -2147483648 ≤ x5) (h45 : x5 ≤ 2147483647) (h46 : -2147483648 ≤ x6) (h47 : x6 ≤ 2147483647) (h48 : -2147483648 ≤ x7) (h49 : x7 ≤ 2147483647) (h50 : -2147483648 ≤ x8) (h51 : x8 ≤ 2147483647) (h52 : -2147483648 ≤ x10) (h53 : x10 ≤ 2147483647) (h54 : -2147483648 ≤ x12) (h55 : x12 ≤ 2147483647) (h56 : -2147483648 ≤ x13) (h57 : x13 ≤ 2147483647) (h58 : -2147483648 ≤ x14) (h59 : x14 ≤ 2147483647) (h60 : -2147483648 ≤ x15) (h61 : x15 ≤ 2147483647) (h62 : -2147483648 ≤ x16) (h63 : x16 ≤ 2147483647) (h64 : -2147483648 ≤ x17) (h65 : x17 ≤ 2147483647) (h66 : -2147483648 ≤ x18) (h67 : x18 ≤ 2147483647) (h68 : -2147483648 ≤ x19) (h69 : x19 ≤ 2147483647) (h70 : -2147483648 ≤ x20) (h71 : x20 ≤ 2147483647) (h72 : -2147483648 ≤ x21) (h73 : x21 ≤ 2147483647) (h74 : -2147483648 ≤ x22) (h75 : x22 ≤ 2147483647) (h76 : -2147483648 ≤ x23) (h77 : x23 ≤ 2147483647) (h78 : -2147483648 ≤ x24) (h79 : x24 ≤ 2147483647) : -2147483648 ≤ x0 + x1 := by omega
theorem o36_176 {x0 x1 x2 x3 x5 x6 x7 x8 x10 x12 x13 x14 x15 x16 x17 x18 x19 x20 x21 x22 x23 x24 : Int} {x4 x9 x11 : Nat} (h0 : 0 ≤ x2) (h1 : x2 ≤ 60) (h2 : 0 ≤ x3) (h3 : x3 ≤ 6100) (h4 : 6100 - x3 < ((x4 + 1 : Nat) : Int)) (h5 : x5 = 1) (h6 : x6 = x2 + x5) (h7 : x7 = 100 * x6) (h8 : x7 ≤ x3) (h9 : 0 ≤ x8) (h10 : x8 ≤ 60) (h11 : 60 - x8 < ((x9 + 1 : Nat) : Int)) (h12 : x8 < x2) (h13 : 0 ≤ x10) (h14 : x10 ≤ 100) (h15 : 100 - x10 < ((x11 + 1 : Nat) : Int)) (h16 : 0 ≤ x12) (h17 : x12 ≤ 25) (h18 : x13 = 4 * x12) (h19 : x10 < x13) (h20 : x14 = 100 * x8) (h21 : x15 = x14 + x10) (h22 : x16 = x10 / 4) (h23 : x17 = x10 % 4) (h24 : x18 = x10 % 4) (h25 : 0 ≤ x1) (h26 : x1 ≤ 3) (h27 : x19 = 1) (h28 : x20 = x8 + x19) (h29 : x21 = 100 * x20) (h30 : x22 = x10 / 4) (h31 : (-1) ≤ x23) (h32 : x23 ≤ 24) (h33 : 0 ≤ x23) (h34 : x24 = 4 * x23) (h35 : x0 = x21 + x24) (h36 : -2147483648 ≤ x0) (h37 : x0 ≤ 2147483647) (h38 : -2147483648 ≤ x1) (h39 : x1 ≤ 2147483647) (h40 : -2147483648 ≤ x2) (h41 : x2 ≤ 2147483647) (h42 : -2147483648 ≤ x3) (h43 : x3 ≤ 2147483647) (h44 : -2147483648 ≤ x5) (h45 : x5 ≤ 2147483647) (h46 : -2147483648 ≤ x6) (h47 : x6 ≤ 2147483647) (h48 : -2147483648 ≤ x7) (h49 : x7 ≤ 2147483647) (h50 : -2147483648 ≤ x8) (h51 : x8 ≤ 2147483647) (h52 : -2147483648 ≤ x10) (h53 : x10 ≤ 2147483647) (h54 : -2147483648 ≤ x12) (h55 : x12 ≤ 2147483647) (h56 : -2147483648 ≤ x13) (h57 : x13 ≤ 2147483647) (h58 : -2147483648 ≤ x14) (h59 : x14 ≤ 2147483647) (h60 : -2147483648 ≤ x15) (h61 : x15 ≤ 2147483647) (h62 : -2147483648 ≤ x16) (h63 : x16 ≤ 2147483647) (h64 : -2147483648 ≤ x17) (h65 : x17 ≤ 2147483647) (h66 : -2147483648 ≤ x18) (h67 : x18 ≤ 2147483647) (h68 : -2147483648 ≤ x19) (h69 : x19 ≤ 2147483647) (h70 : -2147483648 ≤ x20) (h71 : x20 ≤ 2147483647) (h72 : -2147483648 ≤ x21) (h73 : x21 ≤ 2147483647) (h74 : -2147483648 ≤ x22) (h75 : x22 ≤ 2147483647) (h76 : -2147483648 ≤ x23) (h77 : x23 ≤ 2147483647) (h78 : -2147483648 ≤ x24) (h79 : x24 ≤ 2147483647) : x0 + x1 ≤ 2147483647 := by omega
theorem o36_177 {x0 x1 x2 x4 x5 x6 x7 x9 x11 x12 x13 x14 x15 x16 x17 x18 x19 x20 x21 x22 x23 x24 x25 : Int} {x3 x8 x10 : Nat} (h0 : 0 ≤ x1) (h1 : x1 ≤ 60) (h2 : 0 ≤ x2) (h3 : x2 ≤ 6100) (h4 : 6100 - x2 < ((x3 + 1 : Nat) : Int)) (h5 : x4 = 1) (h6 : x5 = x1 + x4) (h7 : x6 = 100 * x5) (h8 : x6 ≤ x2) (h9 : 0 ≤ x7) (h10 : x7 ≤ 60) (h11 : 60 - x7 < ((x8 + 1 : Nat) : Int)) (h12 : x7 < x1) (h13 : 0 ≤ x9) (h14 : x9 ≤ 100) (h15 : 100 - x9 < ((x10 + 1 : Nat) : Int)) (h16 : 0 ≤ x11) (h17 : x11 ≤ 25) (h18 : x12 = 4 * x11) (h19 : x9 < x12) (h20 : x13 = 100 * x7) (h21 : x14 = x13 + x9) (h22 : x15 = x9 / 4) (h23 : x16 = x9 % 4) (h24 : x17 = x9 % 4) (h25 : 0 ≤ x18) (h26 : x18 ≤ 3) (h27 : x19 = 1) (h28 : x20 = x7 + x19) (h29 : x21 = 100 * x20) (h30 : x22 = x9 / 4) (h31 : (-1) ≤ x23) (h32 : x23 ≤ 24) (h33 : 0 ≤ x23) (h34 : x24 = 4 * x23) (h35 : x25 = x21 + x24) (h36 : x0 = x25 + x18) : 0 ≤ x0 := by omega
theorem o36_178 {x0 x1 x2 x4 x5 x6 x7 x9 x11 x12 x13 x14 x15 x16 x17 x18 x19 x20 x21 x22 x23 x24 x25 : Int} {x3 x8 x10 : Nat} (h0 : 0 ≤ x1) (h1 : x1 ≤ 60) (h2 : 0 ≤ x2) (h3 : x2 ≤ 6100) (h4 : 6100 - x2 < ((x3 + 1 : Nat) : Int)) (h5 : x4 = 1) (h6 : x5 = x1 + x4) (h7 : x6 = 100 * x5) (h8 : x6 ≤ x2) (h9 : 0 ≤ x7) (h10 : x7 ≤ 60) (h11 : 60 - x7 < ((x8 + 1 : Nat) : Int)) (h12 : x7 < x1) (h13 : 0 ≤ x9) (h14 : x9 ≤ 100) (h15 : 100 - x9 < ((x10 + 1 : Nat) : Int)) (h16 : 0 ≤ x11) (h17 : x11 ≤ 25) (h18 : x12 = 4 * x11) (h19 : x9 < x12) (h20 : x13 = 100 * x7) (h21 : x14 = x13 + x9) (h22 : x15 = x9 / 4) (h23 : x16 = x9 % 4) (h24 : x17 = x9 % 4) (h25 : 0 ≤ x18) (h26 : x18 ≤ 3) (h27 : x19 = 1) (h28 : x20 = x7 + x19) (h29 : x21 = 100 * x20) (h30 : x22 = x9 / 4) (h31 : (-1) ≤ x23) (h32 : x23 ≤ 24) (h33 : 0 ≤ x23) (h34 : x24 = 4 * x23) (h35 : x25 = x21 + x24) (h36 : x0 = x25 + x18) : x0 < (6100 : Nat) := by omega
theorem o36_179 {x0 x1 x2 x4 x5 x6 x8 x10 x11 x12 x13 x14 x15 x16 x17 x18 x19 x20 x21 x22 x23 x24 x25 : Int} {x3 x7 x9 : Nat} (h0 : 0 ≤ x1) (h1 : x1 ≤ 60) (h2 : 0 ≤ x2) (h3 : x2 ≤ 6100) (h4 : 6100 - x2 < ((x3 + 1 : Nat) : Int)) (h5 : x4 = 1) (h6 : x5 = x1 + x4) (h7 : x6 = 100 * x5) (h8 : x6 ≤ x2) (h9 : 0 ≤ x0) (h10 : x0 ≤ 60) (h11 : 60 - x0 < ((x7 + 1 : Nat) : Int)) (h12 : x0 < x1) (h13 : 0 ≤ x8) (h14 : x8 ≤ 100) (h15 : 100 - x8 < ((x9 + 1 : Nat) : Int)) (h16 : 0 ≤ x10) (h17 : x10 ≤ 25) (h18 : x11 = 4 * x10) (h19 : x8 < x11) (h20 : x12 = 100 * x0) (h21 : x13 = x12 + x8) (h22 : x14 = x8 / 4) (h23 : x15 = x8 % 4) (h24 : x16 = x8 % 4) (h25 : 0 ≤ x17) (h26 : x17 ≤ 3) (h27 : x18 = 1) (h28 : x19 = x0 + x18) (h29 : x20 = 100 * x19) (h30 : x21 = x8 / 4) (h31 : (-1) ≤ x22) (h32 : x22 ≤ 24) (h33 : 0 ≤ x22) (h34 : x23 = 4 * x22) (h35 : x24 = x20 + x23) (h36 : x25 = x24 + x17) (h37 : -2147483648 ≤ x0) (h38 : x0 ≤ 2147483647) (h39 : -2147483648 ≤ x1) (h40 : x1 ≤ 2147483647) (h41 : -2147483648 ≤ x2) (h42 : x2 ≤ 2147483647) (h43 : -2147483648 ≤ x4) (h44 : x4 ≤ 2147483647) (h45 : -2147483648 ≤ x5) (h46 : x5 ≤ 2147483647) (h47 : -2147483648 ≤ x6) (h48 : x6 ≤ 2147483647) (h49 : -2147483648 ≤ x8) (h50 : x8 ≤ 2147483647) (h51 : -2147483648 ≤ x10) (h52 : x10 ≤ 2147483647) (h53 : -2147483648 ≤ x11) (h54 : x11 ≤ 2147483647) (h55 : -2147483648 ≤ x12) (h56 : x12 ≤ 2147483647) (h57 : -2147483648 ≤ x13) (h58 : x13 ≤ 2147483647) (h59 : -2147483648 ≤ x14) (h60 : x14 ≤ 2147483647) (h61 : -2147483648 ≤ x15) (h62 : x15 ≤ 2147483647) (h63 : -2147483648 ≤ x16) (h64 : x16 ≤ 2147483647) (h65 : -2147483648 ≤ x17) (h66 : x17 ≤ 2147483647) (h67 : -2147483648 ≤ x18) (h68 : x18 ≤ 2147483647) (h69 : -2147483648 ≤ x19) (h70 : x19 ≤ 2147483647) (h71 : -2147483648 ≤ x20) (h72 : x20 ≤ 2147483647) (h73 : -2147483648 ≤ x21) (h74 : x21 ≤ 2147483647) (h75 : -2147483648 ≤ x22) (h76 : x22 ≤ 2147483647) (h77 : -2147483648 ≤ x23) (h78 : x23 ≤ 2147483647) (h79 : -2147483648 ≤ x24) (h80 : x24 ≤ 2147483647) (h81 : -2147483648 ≤ x25) (h82 : x25 ≤ 2147483647) : -2147483648 ≤ 100 * x0 := by omega
theorem o36_180 {x0 x1 x2 x4 x5 x6 x8 x10 x11 x12 x13 x14 x15 x16 x17 x18 x19 x20 x21 x22 x23 x24 x25 : Int} {x3 x7 x9 : Nat} (h0 : 0 ≤ x1) (h1 : x1 ≤ 60) (h2 : 0 ≤ x2) (h3 : x2 ≤ 6100) (h4 : 6100 - x2 < ((x3 + 1 : Nat) : Int)) (h5 : x4 = 1) (h6 : x5 = x1 + x4) (h7 : x6 = 100 * x5) (h8 : x6 ≤ x2) (h9 : 0 ≤ x0) (h10 : x0 ≤ 60) (h11 : 60 - x0 < ((x7 + 1 : Nat) : Int)) (h12 : x0 < x1) (h13 : 0 ≤ x8) (h14 : x8 ≤ 100) (h15 : 100 - x8 < ((x9 + 1 : Nat) : Int)) (h16 : 0 ≤ x10) (h17 : x10 ≤ 25) (h18 : x11 = 4 * x10) (h19 : x8 < x11) (h20 : x12 = 100 * x0) (h21 : x13 = x12 + x8) (h22 : x14 = x8 / 4) (h23 : x15 = x8 % 4) (h24 : x16 = x8 % 4) (h25 : 0 ≤ x17) (h26 : x17 ≤ 3) (h27 : x18 = 1) (h28 : x19 = x0 + x18) (h29 : x20 = 100 * x19) (h30 : x21 = x8 / 4) (h31 : (-1) ≤ x22) (h32 : x22 ≤ 24) (h33 : 0 ≤ x22) (h34 : x23 = 4 * x22) (h35 : x24 = x20 + x23) (h36 : x25 = x24 + x17) (h37 : -2147483648 ≤ x0) (h38 : x0 ≤ 2147483647) (h39 : -2147483648 ≤ x1) (h40 : x1 ≤ 2147483647) (h41 : -2147483648 ≤ x2) (h42 : x2 ≤ 2147483647) (h43 : -2147483648 ≤ x4) (h44 : x4 ≤ 2147483647) (h45 : -2147483648 ≤ x5) (h46 : x5 ≤ 2147483647) (h47 : -2147483648 ≤ x6) (h48 : x6 ≤ 2147483647) (h49 : -2147483648 ≤ x8) (h50 : x8 ≤ 2147483647) (h51 : -2147483648 ≤ x10) (h52 : x10 ≤ 2147483647) (h53 : -2147483648 ≤ x11) (h54 : x11 ≤ 2147483647) (h55 : -2147483648 ≤ x12) (h56 : x12 ≤ 2147483647) (h57 : -2147483648 ≤ x13) (h58 : x13 ≤ 2147483647) (h59 : -2147483648 ≤ x14) (h60 : x14 ≤ 2147483647) (h61 : -2147483648 ≤ x15) (h62 : x15 ≤ 2147483647) (h63 : -2147483648 ≤ x16) (h64 : x16 ≤ 2147483647) (h65 : -2147483648 ≤ x17) (h66 : x17 ≤ 2147483647) (h67 : -2147483648 ≤ x18) (h68 : x18 ≤ 2147483647) (h69 : -2147483648 ≤ x19) (h70 : x19 ≤ 2147483647) (h71 : -2147483648 ≤ x20) (h72 : x20 ≤ 2147483647) (h73 : -2147483648 ≤ x21) (h74 : x21 ≤ 2147483647) (h75 : -2147483648 ≤ x22) (h76 : x22 ≤ 2147483647) (h77 : -2147483648 ≤ x23) (h78 : x23 ≤ 2147483647) (h79 : -2147483648 ≤ x24) (h80 : x24 ≤ 2147483647) (h81 : -2147483648 ≤ x25) (h82 : x25 ≤ 2147483647) : 100 * x0 ≤ 2147483647 := by omega
theorem o36_181 {x0 x1 x2 x3 x5 x6 x7 x8 x11 x12 x13 x14 x15 x16 x17 x18 x19 x20 x21 x22 x23 x24 x25 x26 : Int} {x4 x9 x10 : Nat} (h0 : 0 ≤ x2) (h1 : x2 ≤ 60) (h2 : 0 ≤ x3) (h3 : x3 ≤ 6100) (h4 : 6100 - x3 < ((x4 + 1 : Nat) : Int)) (h5 : x5 = 1) (h6 : x6 = x2 + x5) (h7 : x7 = 100 * x6) (h8 : x7 ≤ x3) (h9 : 0 ≤ x8) (h10 : x8 ≤ 60) (h11 : 60 - x8 < ((x9 + 1 : Nat) : Int)) (h12 : x8 < x2) (h13 : 0 ≤ x1) (h14 : x1 ≤ 100) (h15 : 100 - x1 < ((x10 + 1 : Nat) : Int)) (h16 : 0 ≤ x11) (h17 : x11 ≤ 25) (h18 : x12 = 4 * x11) (h19 : x1 < x12) (h20 : x13 = 100 * x8) (h21 : x14 = x13 + x1) (h22 : x15 = x1 / 4) (h23 : x16 = x1 % 4) (h24 : x17 = x1 % 4) (h25 : 0 ≤ x18) (h26 : x18 ≤ 3) (h27 : x19 = 1) (h28 : x20 = x8 + x19) (h29 : x21 = 100 * x20) (h30 : x22 = x1 / 4) (h31 : (-1) ≤ x23) (h32 : x23 ≤ 24) (h33 : 0 ≤ x23) (h34 : x24 = 4 * x23) (h35 : x25 = x21 + x24) (h36 : x26 = x25 + x18) (h37 : x0 = 100 * x8) (h38 : -2147483648 ≤ x0) (h39 : x0 ≤ 2147483647) (h40 : -2147483648 ≤ x1) (h41 : x1 ≤ 2147483647) (h42 : -2147483648 ≤ x2) (h43 : x2 ≤ 2147483647) (h44 : -2147483648 ≤ x3) (h45 : x3 ≤ 2147483647) (h46 : -2147483648 ≤ x5) (h47 : x5 ≤ 2147483647) (h48 : -2147483648 ≤ x6) (h49 : x6 ≤ 2147483647) (h50 : -2147483648 ≤ x7) (h51 : x7 ≤ 2147483647) (h52 : -2147483648 ≤ x8) (h53 : x8 ≤ 2147483647) (h54 : -2147483648 ≤ x11) (h55 : x11 ≤ 2147483647) (h56 : -2147483648 ≤ x12) (h57 : x12 ≤ 2147483647) (h58 : -2147483648 ≤ x13) (h59 : x13 ≤ 2147483647) (h60 : -2147483648 ≤ x14) (h61 : x14 ≤ 2147483647) (h62 : -2147483648 ≤ x15) (h63 : x15 ≤ 2147483647) (h64 : -2147483648 ≤ x16) (h65 : x16 ≤ 2147483647) (h66 : -2147483648 ≤ x17) (h67 : x17 ≤ 2147483647) (h68 : -2147483648 ≤ x18) (h69 : x18 ≤ 2147483647) (h70 : -2147483648 ≤ x19) (h71 : x19 ≤ 2147483647) (h72 : -2147483648 ≤ x20) (h73 : x20 ≤ 2147483647) (h74 : -2147483648 ≤ x21) (h75 : x21 ≤ 2147483647) (h76 : -2147483648 ≤ x22) (h77 : x22 ≤ 2147483647) (h78 : -2147483648 ≤ x23) (h79 : x23 ≤ 2147483647) (h80 : -2147483648 ≤ x24) (h81 : x24 ≤ 2147483647) (h82 : -2147483648 ≤ x25) (h83 : x25 ≤ 2147483647) (h84 : -2147483648 ≤ x26) (h85 : x26 ≤ 2147483647) : -2147483648 ≤ x0 + x1 := by omega
theorem o36_182 {x0 x1 x2 x3 x5 x6 x7 x8 x11 x12 x13 x14 x15 x16 x17 x18 x19 x20 x21 x22 x23 x24 x25 x26 : Int} {x4 x9 x10 : Nat} (h0 : 0 ≤ x2) (h1 : x2 ≤ 60) (h2 : 0 ≤ x3) (h3 : x3 ≤ 6100) (h4 : 6100 - x3 < ((x4 + 1 : Nat) : Int)) (h5 : x5 = 1) (h6 : x6 = x2 + x5) (h7 : x7 = 100 * x6) (h8 : x7 ≤ x3) (h9 : 0 ≤ x8) (h10 : x8 ≤ 60) (h11 : 60 - x8 < ((x9 + 1 : Nat) : Int)) (h12 : x8 < x2) (h13 : 0 ≤ x1) (h14 : x1 ≤ 100) (h15 : 100 - x1 < ((x10 + 1 : Nat) : Int)) (h16 : 0 ≤ x11) (h17 : x11 ≤ 25) (h18 : x12 = 4 * x11) (h19 : x1 < x12) (h20 : x13 = 100 * x8) (h21 : x14 = x13 + x1) (h22 : x15 = x1 / 4) (h23 : x16 = x1 % 4) (h24 : x17 = x1 % 4) (h25 : 0 ≤ x18) (h26 : x18 ≤ 3) (h27 : x19 = 1) (h28 : x20 = x8 + x19) (h29 : x21 = 100 * x20) (h30 : x22 = x1 / 4) (h31 : (-1) ≤ x23) (h32 : x23 ≤ 24) (h33 : 0 ≤ x23) (h34 : x24 = 4 * x23) (h35 : x25 = x21 + x24) (h36 : x26 = x25 + x18) (h37 : x0 = 100 * x8) (h38 : -2147483648 ≤ x0) (h39 : x0 ≤ 2147483647) (h40 : -2147483648 ≤ x1) (h41 : x1 ≤ 2147483647) (h42 : -2147483648 ≤ x2) (h43 : x2 ≤ 2147483647) (h44 : -2147483648 ≤ x3) (h45 : x3 ≤ 2147483647) (h46 : -2147483648 ≤ x5) (h47 : x5 ≤ 2147483647) (h48 : -2147483648 ≤ x6) (h49 : x6 ≤ 2147483647) (h50 : -2147483648 ≤ x7) (h51 : x7 ≤ 2147483647) (h52 : -2147483648 ≤ x8) (h53 : x8 ≤ 2147483647) (h54 : -2147483648 ≤ x11) (h55 : x11 ≤ 2147483647) (h56 : -2147483648 ≤ x12) (h57 : x12 ≤ 2147483647) (h58 : -2147483648 ≤ x13) (h59 : x13 ≤ 2147483647) (h60 : -2147483648 ≤ x14) (h61 : x14 ≤ 2147483647) (h62 : -2147483648 ≤ x15) (h63 : x15 ≤ 2147483647) (h64 : -2147483648 ≤ x16) (h65 : x16 ≤ 2147483647) (h66 : -2147483648 ≤ x17) (h67 : x17 ≤ 2147483647) (h68 : -2147483648 ≤ x18) (h69 : x18 ≤ 2147483647) (h70 : -2147483648 ≤ x19) (h71 : x19 ≤ 2147483647) (h72 : -2147483648 ≤ x20) (h73 : x20 ≤ 2147483647) (h74 : -2147483648 ≤ x21) (h75 : x21 ≤ 2147483647) (h76 : -2147483648 ≤ x22) (h77 : x22 ≤ 2147483647) (h78 : -2147483648 ≤ x23) (h79 : x23 ≤ 2147483647) (h80 : -2147483648 ≤ x24) (h81 : x24 ≤ 2147483647) (h82 : -2147483648 ≤ x25) (h83 : x25 ≤ 2147483647) (h84 : -2147483648 ≤ x26) (h85 : x26 ≤ 2147483647) : x0 + x1 ≤ 2147483647 := by omega
theorem o36_183 {x0 x1 x2 x4 x5 x6 x7 x9 x11 x12 x13 x14 x15 x16 x17 x18 x19 x20 x21 x22 x23 x24 x25 x26 x27 : Int} {x3 x8 x10 : Nat} (h0 : 0 ≤ x1) (h1 : x1 ≤ 60) (h2 : 0 ≤ x2) (h3 : x2 ≤ 6100) (h4 : 6100 - x2 < ((x3 + 1 : Nat) : Int)) (h5 : x4 = 1) (h6 : x5 = x1 + x4) (h7 : x6 = 100 * x5) (h8 : x6 ≤ x2) (h9 : 0 ≤ x7) (h10 : x7 ≤ 60) (h11 : 60 - x7 < ((x8 + 1 : Nat) : Int)) (h12 : x7 < x1) (h13 : 0 ≤ x9) (h14 : x9 ≤ 100) (h15 : 100 - x9 < ((x10 + 1 : Nat) : Int)) (h16 : 0 ≤ x11) (h17 : x11 ≤ 25) (h18 : x12 = 4 * x11) (h19 : x9 < x12) (h20 : x13 = 100 * x7) (h21 : x14 = x13 + x9) (h22 : x15 = x9 / 4) (h23 : x16 = x9 % 4) (h24 : x17 = x9 % 4) (h25 : 0 ≤ x18) (h26 : x18 ≤ 3) (h27 : x19 = 1) (h28 : x20 = x7 + x19) (h29 : x21 = 100 * x20) (h30 : x22 = x9 / 4) (h31 : (-1) ≤ x23) (h32 : x23 ≤ 24) (h33 : 0 ≤ x23) (h34 : x24 = 4 * x23) (h35 : x25 = x21 + x24) (h36 : x26 = x25 + x18) (h37 : x27 = 100 * x7) (h38 : x0 = x27 + x9) : 0 ≤ x0 := by omega
theorem o36_184 {x0 x1 x2 x4 x5 x6 x7 x9 x11 x12 x13 x14 x15 x16 x17 x18 x19 x20 x21 x22 x23 x24 x25 x26 x27 : Int} {x3 x8 x10 : Nat} (h0 : 0 ≤ x1) (h1 : x1 ≤ 60) (h2 : 0 ≤ x2) (h3 : x2 ≤ 6100) (h4 : 6100 - x2 < ((x3 + 1 : Nat) : Int)) (h5 : x4 = 1) (h6 : x5 = x1 + x4) (h7 : x6 = 100 * x5) (h8 : x6 ≤ x2) (h9 : 0 ≤ x7) (h10 : x7 ≤ 60) (h11 : 60 - x7 < ((x8 + 1 : Nat) : Int)) (h12 : x7 < x1) (h13 : 0 ≤ x9) (h14 : x9 ≤ 100) (h15 : 100 - x9 < ((x10 + 1 : Nat) : Int)) (h16 : 0 ≤ x11) (h17 : x11 ≤ 25) (h18 : x12 = 4 * x11) (h19 : x9 < x12) (h20 : x13 = 100 * x7) (h21 : x14 = x13 + x9) (h22 : x15 = x9 / 4) (h23 : x16 = x9 % 4) (h24 : x17 = x9 % 4) (h25 : 0 ≤ x18) (h26 : x18 ≤ 3) (h27 : x19 = 1) (h28 : x20 = x7 + x19) (h29 : x21 = 100 * x20) (h30 : x22 = x9 / 4) (h31 : (-1) ≤ x23) (h32 : x23 ≤ 24) (h33 : 0 ≤ x23) (h34 : x24 = 4 * x23) (h35 : x25 = x21 + x24) (h36 : x26 = x25 + x18) (h37 : x27 = 100 * x7) (h38 : x0 = x27 + x9) : x0 < (6100 : Nat) := by omega
theorem o36_185 {x0 x1 x2 x4 x5 x6 x7 x9 x11 x12 x13 x14 x15 x16 x17 x18 x19 x20 x21 x22 x23 x24 x25 x26 x27 : Int} {x3 x8 x10 : Nat} (h0 : 0 ≤ x1) (h1 : x1 ≤ 60) (h2 : 0 ≤ x2) (h3 : x2 ≤ 6100) (h4 : 6100 - x2 < ((x3 + 1 : Nat) : Int)) (h5 : x4 = 1) (h6 : x5 = x1 + x4) (h7 : x6 = 100 * x5) (h8 : x6 ≤ x2) (h9 : 0 ≤ x7) (h10 : x7 ≤ 60) (h11 : 60 - x7 < ((x8 + 1 : Nat) : Int)) (h12 : x7 < x1) (h13 : 0 ≤ x9) (h14 : x9 ≤ 100) (h15 : 100 - x9 < ((x10 + 1 : Nat) : Int)) (h16 : 0 ≤ x11) (h17 : x11 ≤ 25) (h18 : x12 = 4 * x11) (h19 : x9 < x12) (h20 : x13 = 100 * x7) (h21 : x14 = x13 + x9) (h22 : x15 = x9 / 4) (h23 : x16 = x9 % 4) (h24 : x17 = x9 % 4) (h25 : 0 ≤ x18) (h26 : x18 ≤ 3) (h27 : x19 = 1) (h28 : x20 = x7 + x19) (h29 : x21 = 100 * x20) (h30 : x22 = x9 / 4) (h31 : (-1) ≤ x23) (h32 : x23 ≤ 24) (h33 : 0 ≤ x23) (h34 : x24 = 4 * x23) (h35 : x25 = x21 + x24) (h36 : x0 = x25 + x18) (h37 : x26 = 100 * x7) (h38 : x27 = x26 + x9) : 0 ≤ x0 := by omega
theorem o36_186 {x0 x1 x2 x4 x5 x6 x7 x9 x11 x12 x13 x14 x15 x16 x17 x18 x19 x20 x21 x22 x23 x24 x25 x26 x27 : Int} {x3 x8 x10 : Nat} (h0 : 0 ≤ x1) (h1 : x1 ≤ 60) (h2 : 0 ≤ x2) (h3 : x2 ≤ 6100) (h4 : 6100 - x2 < ((x3 + 1 : Nat) : Int)) (h5 : x4 = 1) (h6 : x5 = x1 + x4) (h7 : x6 = 100 * x5) (h8 : x6 ≤ x2) (h9 : 0 ≤ x7) (h10 : x7 ≤ 60) (h11 : 60 - x7 < ((x8 + 1 : Nat) : Int)) (h12 : x7 < x1) (h13 : 0 ≤ x9) (h14 : x9 ≤ 100) (h15 : 100 - x9 < ((x10 + 1 : Nat) : Int)) (h16 : 0 ≤ x11) (h17 : x11 ≤ 25) (h18 : x12 = 4 * x11) (h19 : x9 < x12) (h20 : x13 = 100 * x7) (h21 : x14 = x13 + x9) (h22 : x15 = x9 / 4) (h23 : x16 = x9 % 4) (h24 : x17 = x9 % 4) (h25 : 0 ≤ x18) (h26 : x18 ≤ 3) (h27 : x19 = 1) (h28 : x20 = x7 + x19) (h29 : x21 = 100 * x20) (h30 : x22 = x9 / 4) (h31 : (-1) ≤ x23) (h32 : x23 ≤ 24) (h33 : 0 ≤ x23) (h34 : x24 = 4 * x23) (h35 : x25 = x21 + x24) (h36 : x0 = x25 + x18) (h37 : x26 = 100 * x7) (h38 : x27 = x26 + x9) : x0 < (6100 : Nat) := by omega
theorem o36_187 {x0 x2 : Int} {x1 : Nat} (h0 : 0 ≤ x0) (h1 : x0 ≤ 4) (h2 : 4 - x0 < ((x1 + 1 : Nat) : Int)) (h3 : x2 = 4) (h4 : x0 < x2) (h5 : -2147483648 ≤ x0) (h6 : x0 ≤ 2147483647) (h7 : -2147483648 ≤ x2) (h8 : x2 ≤ 2147483647) : -2147483648 ≤ x0 + 1 := by omega
theorem o36_188 {x0 x2 : Int} {x1 : Nat} (h0 : 0 ≤ x0) (h1 : x0 ≤ 4) (h2 : 4 - x0 < ((x1 + 1 : Nat) : Int)) (h3 : x2 = 4) (h4 : x0 < x2) (h5 : -2147483648 ≤ x0) (h6 : x0 ≤ 2147483647) (h7 : -2147483648 ≤ x2) (h8 : x2 ≤ 2147483647) : x0 + 1 ≤ 2147483647 := by omega
theorem o36_189 {x0 x2 x3 : Int} {x1 : Nat} (h0 : 0 ≤ x2) (h1 : x2 ≤ 4) (h2 : 4 - x2 < ((x1 + 1 : Nat) : Int)) (h3 : x3 = 4) (h4 : x2 < x3) (h5 : x0 = x2 + 1) : 4 - x0 < (x1 : Int) := by omega
theorem o36_190 {x0 x1 x3 : Int} {x2 : Nat} (h0 : 0 ≤ x1) (h1 : x1 ≤ 4) (h2 : 4 - x1 < ((x2 + 1 : Nat) : Int)) (h3 : x3 = 4) (h4 : x1 < x3) (h5 : x0 = x1 + 1) : 0 ≤ x0 := by omega
theorem o36_191 {x0 x1 x3 : Int} {x2 : Nat} (h0 : 0 ≤ x1) (h1 : x1 ≤ 4) (h2 : 4 - x1 < ((x2 + 1 : Nat) : Int)) (h3 : x3 = 4) (h4 : x1 < x3) (h5 : x0 = x1 + 1) : x0 ≤ 4 := by omega
theorem o36_192 {x0 : Int} (h0 : x0 = 0) : 100 - x0 < (((100 - x0 + 1).toNat : Nat) : Int) := by omega
theorem o36_193 {x0 : Int} (h0 : x0 = 0) : x0 ≤ 100 := by omega
theorem o36_194 {x0 : Int} (h0 : x0 = 0) : 60 - x0 < (((60 - x0 + 1).toNat : Nat) : Int) := by omega
theorem o36_195 {x0 : Int} (h0 : x0 = 0) : x0 ≤ 60 := by omega
theorem o36_196 {x0 x1 x3 x4 x5 : Int} {x2 : Nat} (h0 : 0 ≤ x1) (h1 : x1 ≤ 60) (h2 : 0 ≤ x0) (h3 : x0 ≤ 6100) (h4 : 6100 - x0 < ((x2 + 1 : Nat) : Int)) (h5 : x3 = 1) (h6 : x4 = x1 + x3) (h7 : x5 = 100 * x4) (h8 : x0 < x5) : 0 ≤ x0 := by omega
theorem o36_197 {x0 x1 x3 x4 x5 : Int} {x2 : Nat} (h0 : 0 ≤ x1) (h1 : x1 ≤ 60) (h2 : 0 ≤ x0) (h3 : x0 ≤ 6100) (h4 : 6100 - x0 < ((x2 + 1 : Nat) : Int)) (h5 : x3 = 1) (h6 : x4 = x1 + x3) (h7 : x5 = 100 * x4) (h8 : x0 < x5) : x0 < (6100 : Nat) := by omega
theorem o36_198 {x0 x1 x3 x4 x5 : Int} {x2 : Nat} (h0 : 0 ≤ x1) (h1 : x1 ≤ 60) (h2 : 0 ≤ x0) (h3 : x0 ≤ 6100) (h4 : 6100 - x0 < ((x2 + 1 : Nat) : Int)) (h5 : x3 = 1) (h6 : x4 = x1 + x3) (h7 : x5 = 100 * x4) (h8 : x0 < x5) (h9 : -2147483648 ≤ x0) (h10 : x0 ≤ 2147483647) (h11 : -2147483648 ≤ x1) (h12 : x1 ≤ 2147483647) (h13 : -2147483648 ≤ x3) (h14 : x3 ≤ 2147483647) (h15 : -2147483648 ≤ x4) (h16 : x4 ≤ 2147483647) (h17 : -2147483648 ≤ x5) (h18 : x5 ≤ 2147483647) : -2147483648 ≤ x0 + 1 := by omega
theorem o36_199 {x0 x1 x3 x4 x5 : Int} {x2 : Nat} (h0 : 0 ≤ x1) (h1 : x1 ≤ 60) (h2 : 0 ≤ x0) (h3 : x0 ≤ 6100) (h4 : 6100 - x0 < ((x2 + 1 : Nat) : Int)) (h5 : x3 = 1) (h6 : x4 = x1 + x3) (h7 : x5 = 100 * x4) (h8 : x0 < x5) (h9 : -2147483648 ≤ x0) (h10 : x0 ≤ 2147483647) (h11 : -2147483648 ≤ x1) (h12 : x1 ≤ 2147483647) (h13 : -2147483648 ≤ x3) (h14 : x3 ≤ 2147483647) (h15 : -2147483648 ≤ x4) (h16 : x4 ≤ 2147483647) (h17 : -2147483648 ≤ x5) (h18 : x5 ≤ 2147483647) : x0 + 1 ≤ 2147483647 := by omega
theorem o36_200 {x0 x2 x3 x4 x5 x6 : Int} {x1 : Nat} (h0 : 0 ≤ x2) (h1 : x2 ≤ 60) (h2 : 0 ≤ x3) (h3 : x3 ≤ 6100) (h4 : 6100 - x3 < ((x1 + 1 : Nat) : Int)) (h5 : x4 = 1) (h6 : x5 = x2 + x4) (h7 : x6 = 100 * x5) (h8 : x3 < x6) (h9 : x0 = x3 + 1) : 6100 - x0 < (x1 : Int) := by omega
theorem o36_201 {x0 x1 x2 x4 x5 x6 : Int} {x3 : Nat} (h0 : 0 ≤ x1) (h1 : x1 ≤ 60) (h2 : 0 ≤ x2) (h3 : x2 ≤ 6100) (h4 : 6100 - x2 < ((x3 + 1 : Nat) : Int)) (h5 : x4 = 1) (h6 : x5 = x1 + x4) (h7 : x6 = 100 * x5) (h8 : x2 < x6) (h9 : x0 = x2 + 1) : 0 ≤ x0 := by omega
theorem o36_202 {x0 x1 x2 x4 x5 x6 : Int} {x3 : Nat} (h0 : 0 ≤ x1) (h1 : x1 ≤ 60) (h2 : 0 ≤ x2) (h3 : x2 ≤ 6100) (h4 : 6100 - x2 < ((x3 + 1 : Nat) : Int)) (h5 : x4 = 1) (h6 : x5 = x1 + x4) (h7 : x6 = 100 * x5) (h8 : x2 < x6) (h9 : x0 = x2 + 1) : x0 ≤ 6100 := by omega
theorem o36_203 {x0 : Int} (h0 : x0 = 0) : 6100 - x0 < (((6100 - x0 + 1).toNat : Nat) : Int) := by omega
theorem o36_204 {x0 : Int} (h0 : x0 = 0) : x0 ≤ 6100 := by omega
theorem o36_205 {x0 : Int} (h0 : 0 ≤ x0) (h1 : x0 ≤ 99) : 0 ≤ x0 := by omega
theorem o36_206 {x0 x1 : Int} (h0 : 0 ≤ x0) (h1 : x0 ≤ 99) (h2 : x1 = x0 / 4) : 0 ≤ x0 := by omega
theorem o36_207 {x0 : Int} (h0 : 0 ≤ x0) (h1 : x0 ≤ 59) : 0 ≤ x0 := by omega
theorem o36_208 {x0 : Int} (h0 : 0 ≤ x0) (h1 : x0 ≤ 59) : x0 ≤ 60 := by omega
theorem o36_209 {x0 x1 x2 : Int} (h0 : 0 ≤ x1) (h1 : x1 ≤ 99) (h2 : x0 = x1 / 4) (h3 : x2 = x1 % 4) : 0 ≤ x0 := by omega
theorem o36_210 {x0 x1 x2 : Int} (h0 : 0 ≤ x1) (h1 : x1 ≤ 99) (h2 : x0 = x1 / 4) (h3 : x2 = x1 % 4) : x0 ≤ 24 := by omega
theorem o36_211 {x0 x1 x2 : Int} (h0 : 0 ≤ x1) (h1 : x1 ≤ 99) (h2 : x2 = x1 / 4) (h3 : x0 = x1 % 4) : 0 ≤ x0 := by omega
theorem o36_212 {x0 x1 x2 : Int} (h0 : 0 ≤ x1) (h1 : x1 ≤ 99) (h2 : x2 = x1 / 4) (h3 : x0 = x1 % 4) : x0 ≤ 3 := by omega
theorem o36_213 {x0 : Int} (h0 : x0 = 0) : x0 ≤ 0 := by omega
theorem o36_214 {x0 x1 : Int} (h0 : 0 ≤ x0) (h1 : x0 ≤ 59) (h2 : x1 = 1) (h3 : -2147483648 ≤ x0) (h4 : x0 ≤ 2147483647) (h5 : -2147483648 ≤ x1) (h6 : x1 ≤ 2147483647) : -2147483648 ≤ x0 + x1 := by omega
theorem o36_215 {x0 x1 : Int} (h0 : 0 ≤ x0) (h1 : x0 ≤ 59) (h2 : x1 = 1) (h3 : -2147483648 ≤ x0) (h4 : x0 ≤ 2147483647) (h5 : -2147483648 ≤ x1) (h6 : x1 ≤ 2147483647) : x0 + x1 ≤ 2147483647 := by omega
theorem o36_216 {x0 x1 x2 : Int} (h0 : 0 ≤ x1) (h1 : x1 ≤ 59) (h2 : x2 = 1) (h3 : x0 = x1 + x2) (h4 : -2147483648 ≤ x0) (h5 : x0 ≤ 2147483647) (h6 : -2147483648 ≤ x1) (h7 : x1 ≤ 2147483647) (h8 : -2147483648 ≤ x2) (h9 : x2 ≤ 2147483647) : -2147483648 ≤ 100 * x0 := by omega
theorem o36_217 {x0 x1 x2 : Int} (h0 : 0 ≤ x1) (h1 : x1 ≤ 59) (h2 : x2 = 1) (h3 : x0 = x1 + x2) (h4 : -2147483648 ≤ x0) (h5 : x0 ≤ 2147483647) (h6 : -2147483648 ≤ x1) (h7 : x1 ≤ 2147483647) (h8 : -2147483648 ≤ x2) (h9 : x2 ≤ 2147483647) : 100 * x0 ≤ 2147483647 := by omega
theorem o36_218 {x0 x1 x2 : Int} (h0 : 0 ≤ x0) (h1 : x0 ≤ 99) (h2 : x1 = x0 / 4) (h3 : x2 = x0 % 4) : 0 ≤ x0 := by omega
theorem o36_219 {x0 x1 x2 x3 : Int} (h0 : 0 ≤ x0) (h1 : x0 ≤ 99) (h2 : x1 = x0 / 4) (h3 : x2 = x0 % 4) (h4 : x3 = x0 / 4) : 0 ≤ x0 := by omega
theorem o36_220 {x0 x1 x2 x3 x4 : Int} (h0 : 0 ≤ x1) (h1 : x1 ≤ 99) (h2 : x2 = x1 / 4) (h3 : x3 = x1 % 4) (h4 : x4 = x1 / 4) (h5 : x0 = x1 % 4) : 0 ≤ x0 := by omega
theorem o36_221 {x0 x1 x2 x3 x4 : Int} (h0 : 0 ≤ x1) (h1 : x1 ≤ 99) (h2 : x2 = x1 / 4) (h3 : x3 = x1 % 4) (h4 : x4 = x1 / 4) (h5 : x0 = x1 % 4) : x0 ≤ 3 := by omega
theorem o36_222 {x0 x1 x2 x3 x4 : Int} (h0 : 0 ≤ x1) (h1 : x1 ≤ 99) (h2 : x2 = x1 / 4) (h3 : x3 = x1 % 4) (h4 : x0 = x1 / 4) (h5 : x4 = x1 % 4) : 0 ≤ x0 := by omega
theorem o36_223 {x0 x1 x2 x3 x4 : Int} (h0 : 0 ≤ x1) (h1 : x1 ≤ 99) (h2 : x2 = x1 / 4) (h3 : x3 = x1 % 4) (h4 : x0 = x1 / 4) (h5 : x4 = x1 % 4) : x0 ≤ 24 := by omega
theorem o36_224 {x0 x1 : Int} (h0 : 0 ≤ x0) (h1 : x0 ≤ 1000000000) (h2 : (x0 = 1000000000 ∨ (0 ≤ x0 ∧ x0 ≤ 2))) (h3 : x1 = 1000000000) (h4 : ¬ x0 = x1) : ¬ x0 = 1000000000 := by omega
theorem o36_225 {x0 x1 x2 x3 x4 : Int} (h0 : 0 ≤ x2) (h1 : x2 ≤ 99) (h2 : x1 = x2 / 4) (h3 : x3 = x2 % 4) (h4 : x0 = x2 / 4) (h5 : x4 = x2 % 4) : x0 = x1 := by omega
theorem o36_226 {x0 x1 x2 x3 x4 : Int} (h0 : 0 ≤ x1) (h1 : x1 ≤ 99) (h2 : x0 = x1 / 4) (h3 : x2 = x1 % 4) (h4 : x3 = x1 / 4) (h5 : x4 = x1 % 4) : x0 ≤ 24 := by omega
theorem o36_227 {x0 x1 x2 x3 x4 : Int} (h0 : 0 ≤ x2) (h1 : x2 ≤ 99) (h2 : x3 = x2 / 4) (h3 : x1 = x2 % 4) (h4 : x4 = x2 / 4) (h5 : x0 = x2 % 4) : x0 = x1 := by omega
theorem o36_228 {x0 x1 x2 x3 x4 x5 : Int} (h0 : 0 ≤ x2) (h1 : x2 ≤ 59) (h2 : x3 = 1) (h3 : x4 = x2 + x3) (h4 : x0 = 100 * x4) (h5 : (-1) ≤ x5) (h6 : x5 ≤ 24) (h7 : 0 ≤ x5) (h8 : x1 = 4 * x5) (h9 : -2147483648 ≤ x0) (h10 : x0 ≤ 2147483647) (h11 : -2147483648 ≤ x1) (h12 : x1 ≤ 2147483647) (h13 : -2147483648 ≤ x2) (h14 : x2 ≤ 2147483647) (h15 : -2147483648 ≤ x3) (h16 : x3 ≤ 2147483647) (h17 : -2147483648 ≤ x4) (h18 : x4 ≤ 2147483647) (h19 : -2147483648 ≤ x5) (h20 : x5 ≤ 2147483647) : -2147483648 ≤ x0 + x1 := by omega
theorem o36_229 {x0 x1 x2 x3 x4 x5 : Int} (h0 : 0 ≤ x2) (h1 : x2 ≤ 59) (h2 : x3 = 1) (h3 : x4 = x2 + x3) (h4 : x0 = 100 * x4) (h5 : (-1) ≤ x5) (h6 : x5 ≤ 24) (h7 : 0 ≤ x5) (h8 : x1 = 4 * x5) (h9 : -2147483648 ≤ x0) (h10 : x0 ≤ 2147483647) (h11 : -2147483648 ≤ x1) (h12 : x1 ≤ 2147483647) (h13 : -2147483648 ≤ x2) (h14 : x2 ≤ 2147483647) (h15 : -2147483648 ≤ x3) (h16 : x3 ≤ 2147483647) (h17 : -2147483648 ≤ x4) (h18 : x4 ≤ 2147483647) (h19 : -2147483648 ≤ x5) (h20 : x5 ≤ 2147483647) : x0 + x1 ≤ 2147483647 := by omega
theorem o36_230 {x0 x1 x2 x3 x4 : Int} (h0 : 0 ≤ x0) (h1 : x0 ≤ 99) (h2 : x1 = x0 / 4) (h3 : x2 = x0 % 4) (h4 : x3 = x0 / 4) (h5 : x4 = x0 % 4) : 0 ≤ x0 := by omega
theorem o36_231 {x0 x1 x2 x3 x4 x5 : Int} (h0 : 0 ≤ x1) (h1 : x1 ≤ 99) (h2 : x2 = x1 / 4) (h3 : x3 = x1 % 4) (h4 : x4 = x1 / 4) (h5 : x5 = x1 % 4) (h6 : x0 = x1 % 4) : 0 ≤ x0 := by omega
theorem o36_232 {x0 x1 x2 x3 x4 x5 : Int} (h0 : 0 ≤ x1) (h1 : x1 ≤ 99) (h2 : x2 = x1 / 4) (h3 : x3 = x1 % 4) (h4 : x4 = x1 / 4) (h5 : x5 = x1 % 4) (h6 : x0 = x1 % 4) : x0 ≤ 3 := by omega
theorem o36_233 {x0 x1 x2 x3 x4 x5 x6 x7 : Int} (h0 : 0 ≤ x2) (h1 : x2 ≤ 59) (h2 : x3 = 1) (h3 : x4 = x2 + x3) (h4 : x5 = 100 * x4) (h5 : (-1) ≤ x6) (h6 : x6 ≤ 24) (h7 : 0 ≤ x6) (h8 : x7 = 4 * x6) (h9 : x0 = x5 + x7) (h10 : 0 ≤ x1) (h11 : x1 ≤ 3) (h12 : -2147483648 ≤ x0) (h13 : x0 ≤ 2147483647) (h14 : -2147483648 ≤ x1) (h15 : x1 ≤ 2147483647) (h16 : -2147483648 ≤ x2) (h17 : x2 ≤ 2147483647) (h18 : -2147483648 ≤ x3) (h19 : x3 ≤ 2147483647) (h20 : -2147483648 ≤ x4) (h21 : x4 ≤ 2147483647) (h22 : -2147483648 ≤ x5) (h23 : x5 ≤ 2147483647) (h24 : -2147483648 ≤ x6) (h25 : x6 ≤ 2147483647) (h26 : -2147483648 ≤ x7) (h27 : x7 ≤ 2147483647) : -2147483648 ≤ x0 + x1 := by omega
theorem o36_234 {x0 x1 x2 x3 x4 x5 x6 x7 : Int} (h0 : 0 ≤ x2) (h1 : x2 ≤ 59) (h2 : x3 = 1) (h3 : x4 = x2 + x3) (h4 : x5 = 100 * x4) (h5 : (-1) ≤ x6) (h6 : x6 ≤ 24) (h7 : 0 ≤ x6) (h8 : x7 = 4 * x6) (h9 : x0 = x5 + x7) (h10 : 0 ≤ x1) (h11 : x1 ≤ 3) (h12 : -2147483648 ≤ x0) (h13 : x0 ≤ 2147483647) (h14 : -2147483648 ≤ x1) (h15 : x1 ≤ 2147483647) (h16 : -2147483648 ≤ x2) (h17 : x2 ≤ 2147483647) (h18 : -2147483648 ≤ x3) (h19 : x3 ≤ 2147483647) (h20 : -2147483648 ≤ x4) (h21 : x4 ≤ 2147483647) (h22 : -2147483648 ≤ x5) (h23 : x5 ≤ 2147483647) (h24 : -2147483648 ≤ x6) (h25 : x6 ≤ 2147483647) (h26 : -2147483648 ≤ x7) (h27 : x7 ≤ 2147483647) : x0 + x1 ≤ 2147483647 := by omega
theorem o36_235 {x0 x1 x2 x3 x4 x5 x6 x7 x8 : Int} (h0 : 0 ≤ x1) (h1 : x1 ≤ 59) (h2 : x2 = 1) (h3 : x3 = x1 + x2) (h4 : x4 = 100 * x3) (h5 : (-1) ≤ x5) (h6 : x5 ≤ 24) (h7 : 0 ≤ x5) (h8 : x6 = 4 * x5) (h9 : x7 = x4 + x6) (h10 : 0 ≤ x8) (h11 : x8 ≤ 3) (h12 : x0 = x7 + x8) : 0 ≤ x0 := by omega
theorem o36_236 {x0 x1 x2 x3 x4 x5 x6 x7 x8 : Int} (h0 : 0 ≤ x1) (h1 : x1 ≤ 59) (h2 : x2 = 1) (h3 : x3 = x1 + x2) (h4 : x4 = 100 * x3) (h5 : (-1) ≤ x5) (h6 : x5 ≤ 24) (h7 : 0 ≤ x5) (h8 : x6 = 4 * x5) (h9 : x7 = x4 + x6) (h10 : 0 ≤ x8) (h11 : x8 ≤ 3) (h12 : x0 = x7 + x8) : x0 < (6100 : Nat) := by omega
theorem o36_237 {x0 x1 : Int} (h0 : 0 ≤ x0) (h1 : x0 ≤ 60) (h2 : x1 = 1) (h3 : -2147483648 ≤ x0) (h4 : x0 ≤ 2147483647) (h5 : -2147483648 ≤ x1) (h6 : x1 ≤ 2147483647) : -2147483648 ≤ x0 - x1 := by omega
theorem o36_238 {x0 x1 : Int} (h0 : 0 ≤ x0) (h1 : x0 ≤ 60) (h2 : x1 = 1) (h3 : -2147483648 ≤ x0) (h4 : x0 ≤ 2147483647) (h5 : -2147483648 ≤ x1) (h6 : x1 ≤ 2147483647) : x0 - x1 ≤ 2147483647 := by omega
theorem o36_239 {x0 : Int} (h0 : (-1) ≤ x0) (h1 : x0 ≤ 59) (h2 : x0 - (-1) < 0) : False := by omega
theorem o36_240 {x0 : Int} {x1 : Nat} (h0 : (-1) ≤ x0) (h1 : x0 ≤ 59) (h2 : x0 - (-1) < ((x1 + 1 : Nat) : Int)) (h3 : 0 ≤ x0) (h4 : -2147483648 ≤ x0) (h5 : x0 ≤ 2147483647) : -2147483648 ≤ x0 + (-1) := by omega
theorem o36_241 {x0 : Int} {x1 : Nat} (h0 : (-1) ≤ x0) (h1 : x0 ≤ 59) (h2 : x0 - (-1) < ((x1 + 1 : Nat) : Int)) (h3 : 0 ≤ x0) (h4 : -2147483648 ≤ x0) (h5 : x0 ≤ 2147483647) : x0 + (-1) ≤ 2147483647 := by omega
theorem o36_242 {x0 x2 : Int} {x1 : Nat} (h0 : (-1) ≤ x2) (h1 : x2 ≤ 59) (h2 : x2 - (-1) < ((x1 + 1 : Nat) : Int)) (h3 : 0 ≤ x2) (h4 : x0 = x2 + (-1)) : x0 - (-1) < (x1 : Int) := by omega
theorem o36_243 {x0 x1 : Int} {x2 : Nat} (h0 : (-1) ≤ x1) (h1 : x1 ≤ 59) (h2 : x1 - (-1) < ((x2 + 1 : Nat) : Int)) (h3 : 0 ≤ x1) (h4 : x0 = x1 + (-1)) : (-1) ≤ x0 := by omega
theorem o36_244 {x0 x1 : Int} {x2 : Nat} (h0 : (-1) ≤ x1) (h1 : x1 ≤ 59) (h2 : x1 - (-1) < ((x2 + 1 : Nat) : Int)) (h3 : 0 ≤ x1) (h4 : x0 = x1 + (-1)) : x0 ≤ 59 := by omega
theorem o36_245 {x0 : Int} {x1 : Nat} (h0 : (-1) ≤ x0) (h1 : x0 ≤ 59) (h2 : x0 - (-1) < ((x1 + 1 : Nat) : Int)) (h3 : 0 ≤ x0) (h4 : -2147483648 ≤ x0) (h5 : x0 ≤ 2147483647) : -2147483648 ≤ 100 * x0 := by omega
theorem o36_246 {x0 : Int} {x1 : Nat} (h0 : (-1) ≤ x0) (h1 : x0 ≤ 59) (h2 : x0 - (-1) < ((x1 + 1 : Nat) : Int)) (h3 : 0 ≤ x0) (h4 : -2147483648 ≤ x0) (h5 : x0 ≤ 2147483647) : 100 * x0 ≤ 2147483647 := by omega
theorem o36_247 {x0 x1 x2 x5 x6 : Int} {x3 x4 : Nat} (h0 : (-1) ≤ x2) (h1 : x2 ≤ 59) (h2 : x2 - (-1) < ((x3 + 1 : Nat) : Int)) (h3 : 0 ≤ x2) (h4 : 0 ≤ x1) (h5 : x1 ≤ 100) (h6 : 100 - x1 < ((x4 + 1 : Nat) : Int)) (h7 : 0 ≤ x5) (h8 : x5 ≤ 25) (h9 : x6 = 4 * x5) (h10 : x1 < x6) (h11 : x0 = 100 * x2) (h12 : -2147483648 ≤ x0) (h13 : x0 ≤ 2147483647) (h14 : -2147483648 ≤ x1) (h15 : x1 ≤ 2147483647) (h16 : -2147483648 ≤ x2) (h17 : x2 ≤ 2147483647) (h18 : -2147483648 ≤ x5) (h19 : x5 ≤ 2147483647) (h20 : -2147483648 ≤ x6) (h21 : x6 ≤ 2147483647) : -2147483648 ≤ x0 + x1 := by omega
theorem o36_248 {x0 x1 x2 x5 x6 : Int} {x3 x4 : Nat} (h0 : (-1) ≤ x2) (h1 : x2 ≤ 59) (h2 : x2 - (-1) < ((x3 + 1 : Nat) : Int)) (h3 : 0 ≤ x2) (h4 : 0 ≤ x1) (h5 : x1 ≤ 100) (h6 : 100 - x1 < ((x4 + 1 : Nat) : Int)) (h7 : 0 ≤ x5) (h8 : x5 ≤ 25) (h9 : x6 = 4 * x5) (h10 : x1 < x6) (h11 : x0 = 100 * x2) (h12 : -2147483648 ≤ x0) (h13 : x0 ≤ 2147483647) (h14 : -2147483648 ≤ x1) (h15 : x1 ≤ 2147483647) (h16 : -2147483648 ≤ x2) (h17 : x2 ≤ 2147483647) (h18 : -2147483648 ≤ x5) (h19 : x5 ≤ 2147483647) (h20 : -2147483648 ≤ x6) (h21 : x6 ≤ 2147483647) : x0 + x1 ≤ 2147483647 := by omega
theorem o36_249 {x0 x2 x4 x5 x6 x7 : Int} {x1 x3 : Nat} (h0 : (-1) ≤ x0) (h1 : x0 ≤ 59) (h2 : x0 - (-1) < ((x1 + 1 : Nat) : Int)) (h3 : 0 ≤ x0) (h4 : 0 ≤ x2) (h5 : x2 ≤ 100) (h6 : 100 - x2 < ((x3 + 1 : Nat) : Int)) (h7 : 0 ≤ x4) (h8 : x4 ≤ 25) (h9 : x5 = 4 * x4) (h10 : x2 < x5) (h11 : x6 = 100 * x0) (h12 : x7 = x6 + x2) : 0 ≤ x0 := by omega
theorem o36_250 {x0 x2 x4 x5 x6 x7 : Int} {x1 x3 : Nat} (h0 : (-1) ≤ x0) (h1 : x0 ≤ 59) (h2 : x0 - (-1) < ((x1 + 1 : Nat) : Int)) (h3 : 0 ≤ x0) (h4 : 0 ≤ x2) (h5 : x2 ≤ 100) (h6 : 100 - x2 < ((x3 + 1 : Nat) : Int)) (h7 : 0 ≤ x4) (h8 : x4 ≤ 25) (h9 : x5 = 4 * x4) (h10 : x2 < x5) (h11 : x6 = 100 * x0) (h12 : x7 = x6 + x2) : x0 ≤ 59 := by omega
theorem o36_251 {x0 x1 x4 x5 x6 x7 : Int} {x2 x3 : Nat} (h0 : (-1) ≤ x1) (h1 : x1 ≤ 59) (h2 : x1 - (-1) < ((x2 + 1 : Nat) : Int)) (h3 : 0 ≤ x1) (h4 : 0 ≤ x0) (h5 : x0 ≤ 100) (h6 : 100 - x0 < ((x3 + 1 : Nat) : Int)) (h7 : 0 ≤ x4) (h8 : x4 ≤ 25) (h9 : x5 = 4 * x4) (h10 : x0 < x5) (h11 : x6 = 100 * x1) (h12 : x7 = x6 + x0) : 0 ≤ x0 := by omega
theorem o36_252 {x0 x1 x4 x5 x6 x7 : Int} {x2 x3 : Nat} (h0 : (-1) ≤ x1) (h1 : x1 ≤ 59) (h2 : x1 - (-1) < ((x2 + 1 : Nat) : Int)) (h3 : 0 ≤ x1) (h4 : 0 ≤ x0) (h5 : x0 ≤ 100) (h6 : 100 - x0 < ((x3 + 1 : Nat) : Int)) (h7 : 0 ≤ x4) (h8 : x4 ≤ 25) (h9 : x5 = 4 * x4) (h10 : x0 < x5) (h11 : x6 = 100 * x1) (h12 : x7 = x6 + x0) : x0 ≤ 99 := by omega
theorem o36_253 {x0 x1 x3 x5 x6 x7 : Int} {x2 x4 : Nat} (h0 : (-1) ≤ x1) (h1 : x1 ≤ 59) (h2 : x1 - (-1) < ((x2 + 1 : Nat) : Int)) (h3 : 0 ≤ x1) (h4 : 0 ≤ x3) (h5 : x3 ≤ 100) (h6 : 100 - x3 < ((x4 + 1 : Nat) : Int)) (h7 : 0 ≤ x5) (h8 : x5 ≤ 25) (h9 : x6 = 4 * x5) (h10 : x3 < x6) (h11 : x7 = 100 * x1) (h12 : x0 = x7 + x3) : 0 ≤ x0 := by omega
theorem o36_254 {x0 x1 x3 x5 x6 x7 : Int} {x2 x4 : Nat} (h0 : (-1) ≤ x1) (h1 : x1 ≤ 59) (h2 : x1 - (-1) < ((x2 + 1 : Nat) : Int)) (h3 : 0 ≤ x1) (h4 : 0 ≤ x3) (h5 : x3 ≤ 100) (h6 : 100 - x3 < ((x4 + 1 : Nat) : Int)) (h7 : 0 ≤ x5) (h8 : x5 ≤ 25) (h9 : x6 = 4 * x5) (h10 : x3 < x6) (h11 : x7 = 100 * x1) (h12 : x0 = x7 + x3) : x0 < (6100 : Nat) := by omega
theorem o36_255 {x0 x1 x4 x5 x6 x7 : Int} {x2 x3 : Nat} (h0 : (-1) ≤ x1) (h1 : x1 ≤ 59) (h2 : x1 - (-1) < ((x2 + 1 : Nat) : Int)) (h3 : 0 ≤ x1) (h4 : 0 ≤ x0) (h5 : x0 ≤ 100) (h6 : 100 - x0 < ((x3 + 1 : Nat) : Int)) (h7 : 0 ≤ x4) (h8 : x4 ≤ 25) (h9 : x5 = 4 * x4) (h10 : x0 < x5) (h11 : x6 = 100 * x1) (h12 : x7 = x6 + x0) (h13 : -2147483648 ≤ x0) (h14 : x0 ≤ 2147483647) (h15 : -2147483648 ≤ x1) (h16 : x1 ≤ 2147483647) (h17 : -2147483648 ≤ x4) (h18 : x4 ≤ 2147483647) (h19 : -2147483648 ≤ x5) (h20 : x5 ≤ 2147483647) (h21 : -2147483648 ≤ x6) (h22 : x6 ≤ 2147483647) (h23 : -2147483648 ≤ x7) (h24 : x7 ≤ 2147483647) : -2147483648 ≤ x0 + 1 := by omega
theorem o36_256 {x0 x1 x4 x5 x6 x7 : Int} {x2 x3 : Nat} (h0 : (-1) ≤ x1) (h1 : x1 ≤ 59) (h2 : x1 - (-1) < ((x2 + 1 : Nat) : Int)) (h3 : 0 ≤ x1) (h4 : 0 ≤ x0) (h5 : x0 ≤ 100) (h6 : 100 - x0 < ((x3 + 1 : Nat) : Int)) (h7 : 0 ≤ x4) (h8 : x4 ≤ 25) (h9 : x5 = 4 * x4) (h10 : x0 < x5) (h11 : x6 = 100 * x1) (h12 : x7 = x6 + x0) (h13 : -2147483648 ≤ x0) (h14 : x0 ≤ 2147483647) (h15 : -2147483648 ≤ x1) (h16 : x1 ≤ 2147483647) (h17 : -2147483648 ≤ x4) (h18 : x4 ≤ 2147483647) (h19 : -2147483648 ≤ x5) (h20 : x5 ≤ 2147483647) (h21 : -2147483648 ≤ x6) (h22 : x6 ≤ 2147483647) (h23 : -2147483648 ≤ x7) (h24 : x7 ≤ 2147483647) : x0 + 1 ≤ 2147483647 := by omega
theorem o36_257 {x0 x2 x4 x5 x6 x7 x8 : Int} {x1 x3 : Nat} (h0 : (-1) ≤ x2) (h1 : x2 ≤ 59) (h2 : x2 - (-1) < ((x3 + 1 : Nat) : Int)) (h3 : 0 ≤ x2) (h4 : 0 ≤ x4) (h5 : x4 ≤ 100) (h6 : 100 - x4 < ((x1 + 1 : Nat) : Int)) (h7 : 0 ≤ x5) (h8 : x5 ≤ 25) (h9 : x6 = 4 * x5) (h10 : x4 < x6) (h11 : x7 = 100 * x2) (h12 : x8 = x7 + x4) (h13 : x0 = x4 + 1) : 100 - x0 < (x1 : Int) := by omega
theorem o36_258 {x0 x1 x3 x5 x6 x7 x8 : Int} {x2 x4 : Nat} (h0 : (-1) ≤ x1) (h1 : x1 ≤ 59) (h2 : x1 - (-1) < ((x2 + 1 : Nat) : Int)) (h3 : 0 ≤ x1) (h4 : 0 ≤ x3) (h5 : x3 ≤ 100) (h6 : 100 - x3 < ((x4 + 1 : Nat) : Int)) (h7 : 0 ≤ x5) (h8 : x5 ≤ 25) (h9 : x6 = 4 * x5) (h10 : x3 < x6) (h11 : x7 = 100 * x1) (h12 : x8 = x7 + x3) (h13 : x0 = x3 + 1) : 0 ≤ x0 := by omega
theorem o36_259 {x0 x1 x3 x5 x6 x7 x8 : Int} {x2 x4 : Nat} (h0 : (-1) ≤ x1) (h1 : x1 ≤ 59) (h2 : x1 - (-1) < ((x2 + 1 : Nat) : Int)) (h3 : 0 ≤ x1) (h4 : 0 ≤ x3) (h5 : x3 ≤ 100) (h6 : 100 - x3 < ((x4 + 1 : Nat) : Int)) (h7 : 0 ≤ x5) (h8 : x5 ≤ 25) (h9 : x6 = 4 * x5) (h10 : x3 < x6) (h11 : x7 = 100 * x1) (h12 : x8 = x7 + x3) (h13 : x0 = x3 + 1) : x0 ≤ 100 := by omega
theorem o36_260 {x0 x1 x2 : Int} (h0 : 0 ≤ x1) (h1 : x1 ≤ 60) (h2 : x2 = 1) (h3 : x0 = x1 - x2) : x0 - (-1) < (((x0 - (-1) + 1).toNat : Nat) : Int) := by omega
theorem o36_261 {x0 x1 x2 : Int} (h0 : 0 ≤ x1) (h1 : x1 ≤ 60) (h2 : x2 = 1) (h3 : x0 = x1 - x2) : (-1) ≤ x0 := by omega
theorem o36_262 {x0 x1 x2 : Int} (h0 : 0 ≤ x1) (h1 : x1 ≤ 60) (h2 : x2 = 1) (h3 : x0 = x1 - x2) : x0 ≤ 59 := by omega
theorem o36_263 {x0 x1 x2 x4 x5 : Int} {x3 : Nat} (h0 : 0 ≤ x2) (h1 : x2 ≤ 60) (h2 : 0 ≤ x1) (h3 : x1 ≤ 100) (h4 : 100 - x1 < ((x3 + 1 : Nat) : Int)) (h5 : 0 ≤ x4) (h6 : x4 ≤ 25) (h7 : x5 = 4 * x4) (h8 : x1 < x5) (h9 : x0 = 100 * x2) (h10 : -2147483648 ≤ x0) (h11 : x0 ≤ 2147483647) (h12 : -2147483648 ≤ x1) (h13 : x1 ≤ 2147483647) (h14 : -2147483648 ≤ x2) (h15 : x2 ≤ 2147483647) (h16 : -2147483648 ≤ x4) (h17 : x4 ≤ 2147483647) (h18 : -2147483648 ≤ x5) (h19 : x5 ≤ 2147483647) : -2147483648 ≤ x0 + x1 := by omega
theorem o36_264 {x0 x1 x2 x4 x5 : Int} {x3 : Nat} (h0 : 0 ≤ x2) (h1 : x2 ≤ 60) (h2 : 0 ≤ x1) (h3 : x1 ≤ 100) (h4 : 100 - x1 < ((x3 + 1 : Nat) : Int)) (h5 : 0 ≤ x4) (h6 : x4 ≤ 25) (h7 : x5 = 4 * x4) (h8 : x1 < x5) (h9 : x0 = 100 * x2) (h10 : -2147483648 ≤ x0) (h11 : x0 ≤ 2147483647) (h12 : -2147483648 ≤ x1) (h13 : x1 ≤ 2147483647) (h14 : -2147483648 ≤ x2) (h15 : x2 ≤ 2147483647) (h16 : -2147483648 ≤ x4) (h17 : x4 ≤ 2147483647) (h18 : -2147483648 ≤ x5) (h19 : x5 ≤ 2147483647) : x0 + x1 ≤ 2147483647 := by omega
theorem o36_265 {x0 x1 x3 x4 x5 x6 : Int} {x2 : Nat} (h0 : 0 ≤ x1) (h1 : x1 ≤ 60) (h2 : 0 ≤ x0) (h3 : x0 ≤ 100) (h4 : 100 - x0 < ((x2 + 1 : Nat) : Int)) (h5 : 0 ≤ x3) (h6 : x3 ≤ 25) (h7 : x4 = 4 * x3) (h8 : x0 < x4) (h9 : x5 = 100 * x1) (h10 : x6 = x5 + x0) : 0 ≤ x0 := by omega
theorem o36_266 {x0 x1 x2 x4 x5 x6 x7 x8 : Int} {x3 : Nat} (h0 : 0 ≤ x1) (h1 : x1 ≤ 60) (h2 : 0 ≤ x2) (h3 : x2 ≤ 100) (h4 : 100 - x2 < ((x3 + 1 : Nat) : Int)) (h5 : 0 ≤ x4) (h6 : x4 ≤ 25) (h7 : x5 = 4 * x4) (h8 : x2 < x5) (h9 : x6 = 100 * x1) (h10 : x0 = x6 + x2) (h11 : x7 = x2 / 4) (h12 : ¬ x7 = x8) : 0 ≤ x0 := by omega
theorem o36_267 {x0 x1 x2 x4 x5 x6 x7 x8 : Int} {x3 : Nat} (h0 : 0 ≤ x1) (h1 : x1 ≤ 60) (h2 : 0 ≤ x2) (h3 : x2 ≤ 100) (h4 : 100 - x2 < ((x3 + 1 : Nat) : Int)) (h5 : 0 ≤ x4) (h6 : x4 ≤ 25) (h7 : x5 = 4 * x4) (h8 : x2 < x5) (h9 : x6 = 100 * x1) (h10 : x0 = x6 + x2) (h11 : x7 = x2 / 4) (h12 : ¬ x7 = x8) : x0 < (6100 : Nat) := by omega
theorem o36_268 {x0 x1 x3 x4 x5 x6 x7 x8 : Int} {x2 : Nat} (h0 : 0 ≤ x1) (h1 : x1 ≤ 60) (h2 : 0 ≤ x0) (h3 : x0 ≤ 100) (h4 : 100 - x0 < ((x2 + 1 : Nat) : Int)) (h5 : 0 ≤ x3) (h6 : x3 ≤ 25) (h7 : x4 = 4 * x3) (h8 : x0 < x4) (h9 : x5 = 100 * x1) (h10 : x6 = x5 + x0) (h11 : x7 = x0 / 4) (h12 : ¬ x7 = x8) (h13 : -2147483648 ≤ x0) (h14 : x0 ≤ 2147483647) (h15 : -2147483648 ≤ x1) (h16 : x1 ≤ 2147483647) (h17 : -2147483648 ≤ x3) (h18 : x3 ≤ 2147483647) (h19 : -2147483648 ≤ x4) (h20 : x4 ≤ 2147483647) (h21 : -2147483648 ≤ x5) (h22 : x5 ≤ 2147483647) (h23 : -2147483648 ≤ x6) (h24 : x6 ≤ 2147483647) (h25 : -2147483648 ≤ x7) (h26 : x7 ≤ 2147483647) (h27 : -2147483648 ≤ x8) (h28 : x8 ≤ 2147483647) : -2147483648 ≤ x0 + 1 := by omega
theorem o36_269 {x0 x1 x3 x4 x5 x6 x7 x8 : Int} {x2 : Nat} (h0 : 0 ≤ x1) (h1 : x1 ≤ 60) (h2 : 0 ≤ x0) (h3 : x0 ≤ 100) (h4 : 100 - x0 < ((x2 + 1 : Nat) : Int)) (h5 : 0 ≤ x3) (h6 : x3 ≤ 25) (h7 : x4 = 4 * x3) (h8 : x0 < x4) (h9 : x5 = 100 * x1) (h10 : x6 = x5 + x0) (h11 : x7 = x0 / 4) (h12 : ¬ x7 = x8) (h13 : -2147483648 ≤ x0) (h14 : x0 ≤ 2147483647) (h15 : -2147483648 ≤ x1) (h16 : x1 ≤ 2147483647) (h17 : -2147483648 ≤ x3) (h18 : x3 ≤ 2147483647) (h19 : -2147483648 ≤ x4) (h20 : x4 ≤ 2147483647) (h21 : -2147483648 ≤ x5) (h22 : x5 ≤ 2147483647) (h23 : -2147483648 ≤ x6) (h24 : x6 ≤ 2147483647) (h25 : -2147483648 ≤ x7) (h26 : x7 ≤ 2147483647) (h27 : -2147483648 ≤ x8) (h28 : x8 ≤ 2147483647) : x0 + 1 ≤ 2147483647 := by omega
theorem o36_270 {x0 x2 x3 x4 x5 x6 x7 x8 x9 : Int} {x1 : Nat} (h0 : 0 ≤ x2) (h1 : x2 ≤ 60) (h2 : 0 ≤ x3) (h3 : x3 ≤ 100) (h4 : 100 - x3 < ((x1 + 1 : Nat) : Int)) (h5 : 0 ≤ x4) (h6 : x4 ≤ 25) (h7 : x5 = 4 * x4) (h8 : x3 < x5) (h9 : x6 = 100 * x2) (h10 : x7 = x6 + x3) (h11 : x8 = x3 / 4) (h12 : ¬ x8 = x9) (h13 : x0 = x3 + 1) : 100 - x0 < (x1 : Int) := by omega
theorem o36_271 {x0 x1 x2 x4 x5 x6 x7 x8 x9 : Int} {x3 : Nat} (h0 : 0 ≤ x1) (h1 : x1 ≤ 60) (h2 : 0 ≤ x2) (h3 : x2 ≤ 100) (h4 : 100 - x2 < ((x3 + 1 : Nat) : Int)) (h5 : 0 ≤ x4) (h6 : x4 ≤ 25) (h7 : x5 = 4 * x4) (h8 : x2 < x5) (h9 : x6 = 100 * x1) (h10 : x7 = x6 + x2) (h11 : x8 = x2 / 4) (h12 : ¬ x8 = x9) (h13 : x0 = x2 + 1) : 0 ≤ x0 := by omega
theorem o36_272 {x0 x1 x2 x4 x5 x6 x7 x8 x9 : Int} {x3 : Nat} (h0 : 0 ≤ x1) (h1 : x1 ≤ 60) (h2 : 0 ≤ x2) (h3 : x2 ≤ 100) (h4 : 100 - x2 < ((x3 + 1 : Nat) : Int)) (h5 : 0 ≤ x4) (h6 : x4 ≤ 25) (h7 : x5 = 4 * x4) (h8 : x2 < x5) (h9 : x6 = 100 * x1) (h10 : x7 = x6 + x2) (h11 : x8 = x2 / 4) (h12 : ¬ x8 = x9) (h13 : x0 = x2 + 1) : x0 ≤ 100 := by omega
theorem o36_273 {x0 x1 x2 x4 x5 x6 x7 x8 : Int} {x3 : Nat} (h0 : 0 ≤ x1) (h1 : x1 ≤ 60) (h2 : 0 ≤ x2) (h3 : x2 ≤ 100) (h4 : 100 - x2 < ((x3 + 1 : Nat) : Int)) (h5 : 0 ≤ x4) (h6 : x4 ≤ 25) (h7 : x5 = 4 * x4) (h8 : x2 < x5) (h9 : x6 = 100 * x1) (h10 : x0 = x6 + x2) (h11 : x7 = x2 / 4) (h12 : x7 = x8) : 0 ≤ x0 := by omega
theorem o36_274 {x0 x1 x2 x4 x5 x6 x7 x8 : Int} {x3 : Nat} (h0 : 0 ≤ x1) (h1 : x1 ≤ 60) (h2 : 0 ≤ x2) (h3 : x2 ≤ 100) (h4 : 100 - x2 < ((x3 + 1 : Nat) : Int)) (h5 : 0 ≤ x4) (h6 : x4 ≤ 25) (h7 : x5 = 4 * x4) (h8 : x2 < x5) (h9 : x6 = 100 * x1) (h10 : x0 = x6 + x2) (h11 : x7 = x2 / 4) (h12 : x7 = x8) : x0 < (6100 : Nat) := by omega
theorem o36_275 {x0 x1 x3 x4 x5 x6 x7 x8 : Int} {x2 : Nat} (h0 : 0 ≤ x1) (h1 : x1 ≤ 60) (h2 : 0 ≤ x0) (h3 : x0 ≤ 100) (h4 : 100 - x0 < ((x2 + 1 : Nat) : Int)) (h5 : 0 ≤ x3) (h6 : x3 ≤ 25) (h7 : x4 = 4 * x3) (h8 : x0 < x4) (h9 : x5 = 100 * x1) (h10 : x6 = x5 + x0) (h11 : x7 = x0 / 4) (h12 : x7 = x8) (h13 : -2147483648 ≤ x0) (h14 : x0 ≤ 2147483647) (h15 : -2147483648 ≤ x1) (h16 : x1 ≤ 2147483647) (h17 : -2147483648 ≤ x3) (h18 : x3 ≤ 2147483647) (h19 : -2147483648 ≤ x4) (h20 : x4 ≤ 2147483647) (h21 : -2147483648 ≤ x5) (h22 : x5 ≤ 2147483647) (h23 : -2147483648 ≤ x6) (h24 : x6 ≤ 2147483647) (h25 : -2147483648 ≤ x7) (h26 : x7 ≤ 2147483647) (h27 : -2147483648 ≤ x8) (h28 : x8 ≤ 2147483647) : -2147483648 ≤ x0 + 1 := by omega
theorem o36_276 {x0 x1 x3 x4 x5 x6 x7 x8 : Int} {x2 : Nat} (h0 : 0 ≤ x1) (h1 : x1 ≤ 60) (h2 : 0 ≤ x0) (h3 : x0 ≤ 100) (h4 : 100 - x0 < ((x2 + 1 : Nat) : Int)) (h5 : 0 ≤ x3) (h6 : x3 ≤ 25) (h7 : x4 = 4 * x3) (h8 : x0 < x4) (h9 : x5 = 100 * x1) (h10 : x6 = x5 + x0) (h11 : x7 = x0 / 4) (h12 : x7 = x8) (h13 : -2147483648 ≤ x0) (h14 : x0 ≤ 2147483647) (h15 : -2147483648 ≤ x1) (h16 : x1 ≤ 2147483647) (h17 : -2147483648 ≤ x3) (h18 : x3 ≤ 2147483647) (h19 : -2147483648 ≤ x4) (h20 : x4 ≤ 2147483647) (h21 : -2147483648 ≤ x5) (h22 : x5 ≤ 2147483647) (h23 : -2147483648 ≤ x6) (h24 : x6 ≤ 2147483647) (h25 : -2147483648 ≤ x7) (h26 : x7 ≤ 2147483647) (h27 : -2147483648 ≤ x8) (h28 : x8 ≤ 2147483647) : x0 + 1 ≤ 2147483647 := by omega
theorem o36_277 {x0 x2 x3 x4 x5 x6 x7 x8 x9 : Int} {x1 : Nat} (h0 : 0 ≤ x2) (h1 : x2 ≤ 60) (h2 : 0 ≤ x3) (h3 : x3 ≤ 100) (h4 : 100 - x3 < ((x1 + 1 : Nat) : Int)) (h5 : 0 ≤ x4) (h6 : x4 ≤ 25) (h7 : x5 = 4 * x4) (h8 : x3 < x5) (h9 : x6 = 100 * x2) (h10 : x7 = x6 + x3) (h11 : x8 = x3 / 4) (h12 : x8 = x9) (h13 : x0 = x3 + 1) : 100 - x0 < (x1 : Int) := by omega
theorem o36_278 {x0 x1 x2 x4 x5 x6 x7 x8 x9 : Int} {x3 : Nat} (h0 : 0 ≤ x1) (h1 : x1 ≤ 60) (h2 : 0 ≤ x2) (h3 : x2 ≤ 100) (h4 : 100 - x2 < ((x3 + 1 : Nat) : Int)) (h5 : 0 ≤ x4) (h6 : x4 ≤ 25) (h7 : x5 = 4 * x4) (h8 : x2 < x5) (h9 : x6 = 100 * x1) (h10 : x7 = x6 + x2) (h11 : x8 = x2 / 4) (h12 : x8 = x9) (h13 : x0 = x2 + 1) : 0 ≤ x0 := by omega
theorem o36_279 {x0 x1 x2 x4 x5 x6 x7 x8 x9 : Int} {x3 : Nat} (h0 : 0 ≤ x1) (h1 : x1 ≤ 60) (h2 : 0 ≤ x2) (h3 : x2 ≤ 100) (h4 : 100 - x2 < ((x3 + 1 : Nat) : Int)) (h5 : 0 ≤ x4) (h6 : x4 ≤ 25) (h7 : x5 = 4 * x4) (h8 : x2 < x5) (h9 : x6 = 100 * x1) (h10 : x7 = x6 + x2) (h11 : x8 = x2 / 4) (h12 : x8 = x9) (h13 : x0 = x2 + 1) : x0 ≤ 100 := by omega
theorem o36_280 {x0 x2 : Int} {x1 : Nat} (h0 : 0 ≤ x0) (h1 : x0 ≤ 4) (h2 : 4 - x0 < ((x1 + 1 : Nat) : Int)) (h3 : x2 = 4) (h4 : x2 ≤ x0) : x0 = 4 := by omega
theorem o36_281 {x0 x1 x2 x3 x5 x6 x7 : Int} {x4 : Nat} (h0 : 0 ≤ x2) (h1 : x2 ≤ 60) (h2 : 0 ≤ x3) (h3 : x3 ≤ 24) (h4 : 0 ≤ x1) (h5 : x1 ≤ 4) (h6 : 4 - x1 < ((x4 + 1 : Nat) : Int)) (h7 : x5 = 4) (h8 : x1 < x5) (h9 : x6 = 100 * x2) (h10 : x7 = 4 * x3) (h11 : x0 = x6 + x7) (h12 : -2147483648 ≤ x0) (h13 : x0 ≤ 2147483647) (h14 : -2147483648 ≤ x1) (h15 : x1 ≤ 2147483647) (h16 : -2147483648 ≤ x2) (h17 : x2 ≤ 2147483647) (h18 : -2147483648 ≤ x3) (h19 : x3 ≤ 2147483647) (h20 : -2147483648 ≤ x5) (h21 : x5 ≤ 2147483647) (h22 : -2147483648 ≤ x6) (h23 : x6 ≤ 2147483647) (h24 : -2147483648 ≤ x7) (h25 : x7 ≤ 2147483647) : -2147483648 ≤ x0 + x1 := by omega
theorem o36_282 {x0 x1 x2 x3 x5 x6 x7 : Int} {x4 : Nat} (h0 : 0 ≤ x2) (h1 : x2 ≤ 60) (h2 : 0 ≤ x3) (h3 : x3 ≤ 24) (h4 : 0 ≤ x1) (h5 : x1 ≤ 4) (h6 : 4 - x1 < ((x4 + 1 : Nat) : Int)) (h7 : x5 = 4) (h8 : x1 < x5) (h9 : x6 = 100 * x2) (h10 : x7 = 4 * x3) (h11 : x0 = x6 + x7) (h12 : -2147483648 ≤ x0) (h13 : x0 ≤ 2147483647) (h14 : -2147483648 ≤ x1) (h15 : x1 ≤ 2147483647) (h16 : -2147483648 ≤ x2) (h17 : x2 ≤ 2147483647) (h18 : -2147483648 ≤ x3) (h19 : x3 ≤ 2147483647) (h20 : -2147483648 ≤ x5) (h21 : x5 ≤ 2147483647) (h22 : -2147483648 ≤ x6) (h23 : x6 ≤ 2147483647) (h24 : -2147483648 ≤ x7) (h25 : x7 ≤ 2147483647) : x0 + x1 ≤ 2147483647 := by omega
theorem o36_283 {x0 x1 x2 x3 x5 x6 x7 x8 : Int} {x4 : Nat} (h0 : 0 ≤ x1) (h1 : x1 ≤ 60) (h2 : 0 ≤ x2) (h3 : x2 ≤ 24) (h4 : 0 ≤ x3) (h5 : x3 ≤ 4) (h6 : 4 - x3 < ((x4 + 1 : Nat) : Int)) (h7 : x5 = 4) (h8 : x3 < x5) (h9 : x6 = 100 * x1) (h10 : x7 = 4 * x2) (h11 : x8 = x6 + x7) (h12 : x0 = x8 + x3) : 0 ≤ x0 := by omega
theorem o36_284 {x0 x1 x2 x3 x5 x6 x7 x8 : Int} {x4 : Nat} (h0 : 0 ≤ x1) (h1 : x1 ≤ 60) (h2 : 0 ≤ x2) (h3 : x2 ≤ 24) (h4 : 0 ≤ x3) (h5 : x3 ≤ 4) (h6 : 4 - x3 < ((x4 + 1 : Nat) : Int)) (h7 : x5 = 4) (h8 : x3 < x5) (h9 : x6 = 100 * x1) (h10 : x7 = 4 * x2) (h11 : x8 = x6 + x7) (h12 : x0 = x8 + x3) : x0 < (6100 : Nat) := by omega
theorem o36_285 {x0 x1 x2 x4 x5 x6 x7 x8 : Int} {x3 : Nat} (h0 : 0 ≤ x1) (h1 : x1 ≤ 60) (h2 : 0 ≤ x2) (h3 : x2 ≤ 24) (h4 : 0 ≤ x0) (h5 : x0 ≤ 4) (h6 : 4 - x0 < ((x3 + 1 : Nat) : Int)) (h7 : x4 = 4) (h8 : x0 < x4) (h9 : x5 = 100 * x1) (h10 : x6 = 4 * x2) (h11 : x7 = x5 + x6) (h12 : x8 = x7 + x0) (h13 : -2147483648 ≤ x0) (h14 : x0 ≤ 2147483647) (h15 : -2147483648 ≤ x1) (h16 : x1 ≤ 2147483647) (h17 : -2147483648 ≤ x2) (h18 : x2 ≤ 2147483647) (h19 : -2147483648 ≤ x4) (h20 : x4 ≤ 2147483647) (h21 : -2147483648 ≤ x5) (h22 : x5 ≤ 2147483647) (h23 : -2147483648 ≤ x6) (h24 : x6 ≤ 2147483647) (h25 : -2147483648 ≤ x7) (h26 : x7 ≤ 2147483647) (h27 : -2147483648 ≤ x8) (h28 : x8 ≤ 2147483647) : -2147483648 ≤ x0 + 1 := by omega
theorem o36_286 {x0 x1 x2 x4 x5 x6 x7 x8 : Int} {x3 : Nat} (h0 : 0 ≤ x1) (h1 : x1 ≤ 60) (h2 : 0 ≤ x2) (h3 : x2 ≤ 24) (h4 : 0 ≤ x0) (h5 : x0 ≤ 4) (h6 : 4 - x0 < ((x3 + 1 : Nat) : Int)) (h7 : x4 = 4) (h8 : x0 < x4) (h9 : x5 = 100 * x1) (h10 : x6 = 4 * x2) (h11 : x7 = x5 + x6) (h12 : x8 = x7 + x0) (h13 : -2147483648 ≤ x0) (h14 : x0 ≤ 2147483647) (h15 : -2147483648 ≤ x1) (h16 : x1 ≤ 2147483647) (h17 : -2147483648 ≤ x2) (h18 : x2 ≤ 2147483647) (h19 : -2147483648 ≤ x4) (h20 : x4 ≤ 2147483647) (h21 : -2147483648 ≤ x5) (h22 : x5 ≤ 2147483647) (h23 : -2147483648 ≤ x6) (h24 : x6 ≤ 2147483647) (h25 : -2147483648 ≤ x7) (h26 : x7 ≤ 2147483647) (h27 : -2147483648 ≤ x8) (h28 : x8 ≤ 2147483647) : x0 + 1 ≤ 2147483647 := by omega
theorem o36_287 {x0 x2 x3 x4 x5 x6 x7 x8 x9 : Int} {x1 : Nat} (h0 : 0 ≤ x2) (h1 : x2 ≤ 60) (h2 : 0 ≤ x3) (h3 : x3 ≤ 24) (h4 : 0 ≤ x4) (h5 : x4 ≤ 4) (h6 : 4 - x4 < ((x1 + 1 : Nat) : Int)) (h7 : x5 = 4) (h8 : x4 < x5) (h9 : x6 = 100 * x2) (h10 : x7 = 4 * x3) (h11 : x8 = x6 + x7) (h12 : x9 = x8 + x4) (h13 : x0 = x4 + 1) : 4 - x0 < (x1 : Int) := by omega
theorem o36_288 {x0 x1 x2 x3 x5 x6 x7 x8 x9 : Int} {x4 : Nat} (h0 : 0 ≤ x1) (h1 : x1 ≤ 60) (h2 : 0 ≤ x2) (h3 : x2 ≤ 24) (h4 : 0 ≤ x3) (h5 : x3 ≤ 4) (h6 : 4 - x3 < ((x4 + 1 : Nat) : Int)) (h7 : x5 = 4) (h8 : x3 < x5) (h9 : x6 = 100 * x1) (h10 : x7 = 4 * x2) (h11 : x8 = x6 + x7) (h12 : x9 = x8 + x3) (h13 : x0 = x3 + 1) : 0 ≤ x0 := by omega
theorem o36_289 {x0 x1 x2 x3 x5 x6 x7 x8 x9 : Int} {x4 : Nat} (h0 : 0 ≤ x1) (h1 : x1 ≤ 60) (h2 : 0 ≤ x2) (h3 : x2 ≤ 24) (h4 : 0 ≤ x3) (h5 : x3 ≤ 4) (h6 : 4 - x3 < ((x4 + 1 : Nat) : Int)) (h7 : x5 = 4) (h8 : x3 < x5) (h9 : x6 = 100 * x1) (h10 : x7 = 4 * x2) (h11 : x8 = x6 + x7) (h12 : x9 = x8 + x3) (h13 : x0 = x3 + 1) : x0 ≤ 4 := by omega
theorem o36_290 {x0 x1 x2 x3 x5 x6 x7 x8 x9 : Int} {x4 : Nat} (h0 : 0 ≤ x1) (h1 : x1 ≤ 60) (h2 : 0 ≤ x2) (h3 : x2 ≤ 24) (h4 : 0 ≤ x3) (h5 : x3 ≤ 4) (h6 : 4 - x3 < ((x4 + 1 : Nat) : Int)) (h7 : x5 = 4) (h8 : x3 < x5) (h9 : x6 = 100 * x1) (h10 : x7 = 4 * x2) (h11 : x8 = x6 + x7) (h12 : x0 = x8 + x3) (h13 : x9 = x3 + 1) : (x0).toNat = 100 * (x1).toNat + 4 * (x2).toNat + (x3).toNat := by omega
theorem o36_291 {x0 x1 x2 x4 x5 x6 x7 x8 x9 : Int} {x3 : Nat} (h0 : 0 ≤ x1) (h1 : x1 ≤ 60) (h2 : 0 ≤ x2) (h3 : x2 ≤ 24) (h4 : 0 ≤ x0) (h5 : x0 ≤ 4) (h6 : 4 - x0 < ((x3 + 1 : Nat) : Int)) (h7 : x4 = 4) (h8 : x0 < x4) (h9 : x5 = 100 * x1) (h10 : x6 = 4 * x2) (h11 : x7 = x5 + x6) (h12 : x8 = x7 + x0) (h13 : x9 = x0 + 1) : 0 ≤ x0 := by omega
theorem o36_292 {x0 x1 x2 : Int} (h0 : (x0 = x1 ∨ x0 = x2)) (h1 : x0 ≤ x1 ∧ x0 ≤ x2) : (x0 = x1 ∨ x0 = x2) ∧ x0 ≤ x1 ∧ x0 ≤ x2 := by omega
theorem o36_293 {x0 x1 : Int} (h0 : 0 ≤ x1) (h1 : x1 ≤ 60) (h2 : 0 ≤ x0) (h3 : x0 ≤ 61) (h4 : x0 ≤ x1 + 1) (h5 : 61 - x0 < 0) : False := by omega
theorem o36_294 {x0 x1 : Int} {x2 : Nat} (h0 : 0 ≤ x1) (h1 : x1 ≤ 60) (h2 : 0 ≤ x0) (h3 : x0 ≤ 61) (h4 : x0 ≤ x1 + 1) (h5 : 61 - x0 < ((x2 + 1 : Nat) : Int)) (h6 : x1 < x0) : x0 ≤ x1 + 1 := by omega
theorem o36_295 {x0 x1 : Int} {x2 : Nat} (h0 : 0 ≤ x1) (h1 : x1 ≤ 60) (h2 : 0 ≤ x0) (h3 : x0 ≤ 61) (h4 : x0 ≤ x1 + 1) (h5 : 61 - x0 < ((x2 + 1 : Nat) : Int)) (h6 : x0 ≤ x1) : 0 ≤ x0 := by omega
theorem o36_296 {x0 x1 : Int} {x2 : Nat} (h0 : 0 ≤ x1) (h1 : x1 ≤ 60) (h2 : 0 ≤ x0) (h3 : x0 ≤ 61) (h4 : x0 ≤ x1 + 1) (h5 : 61 - x0 < ((x2 + 1 : Nat) : Int)) (h6 : x0 ≤ x1) : x0 ≤ 60 := by omega
theorem o36_297 {x0 x1 : Int} {x2 : Nat} (h0 : 0 ≤ x1) (h1 : x1 ≤ 60) (h2 : 0 ≤ x0) (h3 : x0 ≤ 61) (h4 : x0 ≤ x1 + 1) (h5 : 61 - x0 < ((x2 + 1 : Nat) : Int)) (h6 : x0 ≤ x1) (h7 : -2147483648 ≤ x0) (h8 : x0 ≤ 2147483647) (h9 : -2147483648 ≤ x1) (h10 : x1 ≤ 2147483647) : -2147483648 ≤ x0 + 1 := by omega
theorem o36_298 {x0 x1 : Int} {x2 : Nat} (h0 : 0 ≤ x1) (h1 : x1 ≤ 60) (h2 : 0 ≤ x0) (h3 : x0 ≤ 61) (h4 : x0 ≤ x1 + 1) (h5 : 61 - x0 < ((x2 + 1 : Nat) : Int)) (h6 : x0 ≤ x1) (h7 : -2147483648 ≤ x0) (h8 : x0 ≤ 2147483647) (h9 : -2147483648 ≤ x1) (h10 : x1 ≤ 2147483647) : x0 + 1 ≤ 2147483647 := by omega
theorem o36_299 {x0 x2 x3 : Int} {x1 : Nat} (h0 : 0 ≤ x2) (h1 : x2 ≤ 60) (h2 : 0 ≤ x3) (h3 : x3 ≤ 61) (h4 : x3 ≤ x2 + 1) (h5 : 61 - x3 < ((x1 + 1 : Nat) : Int)) (h6 : x3 ≤ x2) (h7 : x0 = x3 + 1) : 61 - x0 < (x1 : Int) := by omega
theorem o36_300 {x0 x1 x2 : Int} {x3 : Nat} (h0 : 0 ≤ x1) (h1 : x1 ≤ 60) (h2 : 0 ≤ x2) (h3 : x2 ≤ 61) (h4 : x2 ≤ x1 + 1) (h5 : 61 - x2 < ((x3 + 1 : Nat) : Int)) (h6 : x2 ≤ x1) (h7 : x0 = x2 + 1) : 0 ≤ x0 := by omega
theorem o36_301 {x0 x1 x2 : Int} {x3 : Nat} (h0 : 0 ≤ x1) (h1 : x1 ≤ 60) (h2 : 0 ≤ x2) (h3 : x2 ≤ 61) (h4 : x2 ≤ x1 + 1) (h5 : 61 - x2 < ((x3 + 1 : Nat) : Int)) (h6 : x2 ≤ x1) (h7 : x0 = x2 + 1) : x0 ≤ 61 := by omega
theorem o36_302 {x0 x1 x2 : Int} {x3 : Nat} (h0 : 0 ≤ x1) (h1 : x1 ≤ 60) (h2 : 0 ≤ x2) (h3 : x2 ≤ 61) (h4 : x2 ≤ x1 + 1) (h5 : 61 - x2 < ((x3 + 1 : Nat) : Int)) (h6 : x2 ≤ x1) (h7 : x0 = x2 + 1) : x0 ≤ x1 + 1 := by omega
theorem o36_303 {x0 x1 x3 : Int} {x2 : Nat} (h0 : 0 ≤ x1) (h1 : x1 ≤ 60) (h2 : 0 ≤ x0) (h3 : x0 ≤ 61) (h4 : x0 ≤ x1 + 1) (h5 : 61 - x0 < ((x2 + 1 : Nat) : Int)) (h6 : x0 ≤ x1) (h7 : x3 = x0 + 1) : 0 ≤ x0 := by omega
theorem o36_304 {x0 x1 x2 : Int} (h0 : (x0 = x1 ∨ x0 = x2)) (h1 : x0 ≤ x1 ∧ x0 ≤ x2) : x0 = x1 ∨ x0 = x2 := by omega
theorem o36_305 {x0 x1 : Int} (h0 : 0 ≤ x1) (h1 : x1 ≤ 60) (h2 : x0 = 0) : x0 ≤ x1 + 1 := by omega
theorem o36_306 {x0 : Int} (h0 : 0 ≤ x0) (h1 : x0 ≤ 60) : 0 ≤ x0 := by omega
theorem o36_307 {x0 : Int} (h0 : 0 ≤ x0) (h1 : x0 ≤ 60) : x0 ≤ 60 := by omega
theorem o36_308 {x0 x1 : Int} (h0 : 0 ≤ x1) (h1 : x1 ≤ 4) (h2 : x0 = 36) (h3 : -2147483648 ≤ x0) (h4 : x0 ≤ 2147483647) (h5 : -2147483648 ≤ x1) (h6 : x1 ≤ 2147483647) : -2147483648 ≤ x0 + x1 := by omega
theorem o36_309 {x0 x1 : Int} (h0 : 0 ≤ x1) (h1 : x1 ≤ 4) (h2 : x0 = 36) (h3 : -2147483648 ≤ x0) (h4 : x0 ≤ 2147483647) (h5 : -2147483648 ≤ x1) (h6 : x1 ≤ 2147483647) : x0 + x1 ≤ 2147483647 := by omega
theorem o36_310 {x0 x1 x2 : Int} (h0 : 0 ≤ x1) (h1 : x1 ≤ 4) (h2 : x2 = 36) (h3 : x0 = x2 + x1) : 0 ≤ x0 := by omega
theorem o36_311 {x0 x1 x2 : Int} (h0 : 0 ≤ x1) (h1 : x1 ≤ 4) (h2 : x2 = 36) (h3 : x0 = x2 + x1) : x0 < (5322 : Nat) := by omega
theorem o36_312 : ∀ p, p < 41 → 36 ≤ p → 0 ≤ (elAll p).1 ∧ (elAll p).2 ≤ 24 := by decide +kernel
theorem o36_313 {x0 x1 x2 : Int} (h0 : 0 ≤ x1) (h1 : x1 ≤ 4) (h2 : x2 = 36) (h3 : x0 = x2 + x1) : (x0).toNat < 41 := by omega
theorem o36_314 {x0 x1 x2 : Int} (h0 : 0 ≤ x1) (h1 : x1 ≤ 4) (h2 : x2 = 36) (h3 : x0 = x2 + x1) : 36 ≤ (x0).toNat := by omega
theorem o36_315 {x0 x1 x2 x3 : Int} (h0 : 0 ≤ x1) (h1 : x1 ≤ 4) (h2 : x2 = 36) (h3 : x3 = x2 + x1) (h4 : x0 = 41) (h5 : -2147483648 ≤ x0) (h6 : x0 ≤ 2147483647) (h7 : -2147483648 ≤ x1) (h8 : x1 ≤ 2147483647) (h9 : -2147483648 ≤ x2) (h10 : x2 ≤ 2147483647) (h11 : -2147483648 ≤ x3) (h12 : x3 ≤ 2147483647) : -2147483648 ≤ x0 + x1 := by omega
theorem o36_316 {x0 x1 x2 x3 : Int} (h0 : 0 ≤ x1) (h1 : x1 ≤ 4) (h2 : x2 = 36) (h3 : x3 = x2 + x1) (h4 : x0 = 41) (h5 : -2147483648 ≤ x0) (h6 : x0 ≤ 2147483647) (h7 : -2147483648 ≤ x1) (h8 : x1 ≤ 2147483647) (h9 : -2147483648 ≤ x2) (h10 : x2 ≤ 2147483647) (h11 : -2147483648 ≤ x3) (h12 : x3 ≤ 2147483647) : x0 + x1 ≤ 2147483647 := by omega
theorem o36_317 {x0 x1 x2 x3 x4 : Int} (h0 : 0 ≤ x1) (h1 : x1 ≤ 4) (h2 : x2 = 36) (h3 : x3 = x2 + x1) (h4 : x4 = 41) (h5 : x0 = x4 + x1) : 0 ≤ x0 := by omega
theorem o36_318 {x0 x1 x2 x3 x4 : Int} (h0 : 0 ≤ x1) (h1 : x1 ≤ 4) (h2 : x2 = 36) (h3 : x3 = x2 + x1) (h4 : x4 = 41) (h5 : x0 = x4 + x1) : x0 < (5322 : Nat) := by omega
theorem o36_319 : ∀ p, p < 46 → 41 ≤ p → 0 ≤ (elAll p).1 ∧ (elAll p).2 ≤ 3 := by decide +kernel
theorem o36_320 {x0 x1 x2 x3 x4 : Int} (h0 : 0 ≤ x1) (h1 : x1 ≤ 4) (h2 : x2 = 36) (h3 : x3 = x2 + x1) (h4 : x4 = 41) (h5 : x0 = x4 + x1) : (x0).toNat < 46 := by omega
theorem o36_321 {x0 x1 x2 x3 x4 : Int} (h0 : 0 ≤ x1) (h1 : x1 ≤ 4) (h2 : x2 = 36) (h3 : x3 = x2 + x1) (h4 : x4 = 41) (h5 : x0 = x4 + x1) : 41 ≤ (x0).toNat := by omega
theorem o36_322 {x0 : Int} (h0 : x0 = (-1)) : (-1) ≤ x0 := by omega
theorem o36_323 {x0 : Int} (h0 : x0 = (-1)) : x0 ≤ 60 := by omega
theorem o36_324 {x0 x2 : Int} {x1 : Nat} (h0 : 0 ≤ x0) (h1 : x0 ≤ 61) (h2 : 61 - x0 < ((x1 + 1 : Nat) : Int)) (h3 : x2 = 60) (h4 : x2 < x0) : 60 < x0 := by omega
theorem o36_325 {x0 x2 : Int} {x1 : Nat} (h0 : 0 ≤ x0) (h1 : x0 ≤ 61) (h2 : 61 - x0 < ((x1 + 1 : Nat) : Int)) (h3 : x2 = 60) (h4 : x0 ≤ x2) : 0 ≤ x0 := by omega
theorem o36_326 {x0 x2 : Int} {x1 : Nat} (h0 : 0 ≤ x0) (h1 : x0 ≤ 61) (h2 : 61 - x0 < ((x1 + 1 : Nat) : Int)) (h3 : x2 = 60) (h4 : x0 ≤ x2) : x0 ≤ 60 := by omega
theorem o36_327 {x0 x2 : Int} {x1 : Nat} (h0 : 0 ≤ x0) (h1 : x0 ≤ 61) (h2 : 61 - x0 < ((x1 + 1 : Nat) : Int)) (h3 : x2 = 60) (h4 : x0 ≤ x2) (h5 : -2147483648 ≤ x0) (h6 : x0 ≤ 2147483647) (h7 : -2147483648 ≤ x2) (h8 : x2 ≤ 2147483647) : -2147483648 ≤ x0 + 1 := by omega
theorem o36_328 {x0 x2 : Int} {x1 : Nat} (h0 : 0 ≤ x0) (h1 : x0 ≤ 61) (h2 : 61 - x0 < ((x1 + 1 : Nat) : Int)) (h3 : x2 = 60) (h4 : x0 ≤ x2) (h5 : -2147483648 ≤ x0) (h6 : x0 ≤ 2147483647) (h7 : -2147483648 ≤ x2) (h8 : x2 ≤ 2147483647) : x0 + 1 ≤ 2147483647 := by omega
theorem o36_329 {x0 x2 x3 : Int} {x1 : Nat} (h0 : 0 ≤ x2) (h1 : x2 ≤ 61) (h2 : 61 - x2 < ((x1 + 1 : Nat) : Int)) (h3 : x3 = 60) (h4 : x2 ≤ x3) (h5 : x0 = x2 + 1) : 61 - x0 < (x1 : Int) := by omega
theorem o36_330 {x0 x1 x3 : Int} {x2 : Nat} (h0 : 0 ≤ x1) (h1 : x1 ≤ 61) (h2 : 61 - x1 < ((x2 + 1 : Nat) : Int)) (h3 : x3 = 60) (h4 : x1 ≤ x3) (h5 : x0 = x1 + 1) : 0 ≤ x0 := by omega
theorem o36_331 {x0 x1 x3 : Int} {x2 : Nat} (h0 : 0 ≤ x1) (h1 : x1 ≤ 61) (h2 : 61 - x1 < ((x2 + 1 : Nat) : Int)) (h3 : x3 = 60) (h4 : x1 ≤ x3) (h5 : x0 = x1 + 1) : x0 ≤ 61 := by omega
theorem o36_332 {x0 x1 : Int} (h0 : x0 < x1) : x0 < x1 := by omega
theorem o36_333 {x0 x2 : Int} {x1 : Nat} (h0 : 0 ≤ x0) (h1 : x0 ≤ 61) (h2 : 61 - x0 < ((x1 + 1 : Nat) : Int)) (h3 : x2 = 60) (h4 : x0 ≤ x2) : (-1) ≤ x0 := by omega
theorem o36_334 {x0 : Int} (h0 : 0 ≤ x0) (h1 : x0 ≤ 4) : 0 ≤ x0 := by omega
theorem o36_335 {x0 : Int} (h0 : 0 ≤ x0) (h1 : x0 ≤ 4) : x0 ≤ 4 := by omega
theorem o36_336 {x0 : Int} (h0 : x0 = 60) : 0 ≤ x0 := by omega
theorem o36_337 {x0 : Int} (h0 : x0 = 60) : x0 ≤ 60 := by omega
theorem o36_338 {x0 : Int} (h0 : x0 = 0) : x0 ≤ 1 := by omega
theorem o36_339 {x0 : Int} (h0 : (-1) ≤ x0) (h1 : x0 ≤ 60) : (-1) ≤ x0 := by omega
theorem o36_340 {x0 : Int} (h0 : (-1) ≤ x0) (h1 : x0 ≤ 60) : x0 ≤ 60 := by omega
theorem o36_341 {x0 : Int} (h0 : x0 = (-3)) : (-3) ≤ x0 := by omega
theorem o36_342 {x0 : Int} (h0 : x0 = (-3)) : x0 ≤ 60 := by omega
theorem o36_343 {x0 x1 x2 : Int} (h0 : 0 ≤ x1) (h1 : x1 ≤ 1) (h2 : (x1 = 0 ∨ (0 ≤ x0 ∧ x0 ≤ 4 ∧ 0 ≤ x2 ∧ x2 ≤ 24))) (h3 : ¬ x1 = 0) : 0 ≤ x0 := by omega
theorem o36_344 {x0 x1 x2 : Int} (h0 : 0 ≤ x1) (h1 : x1 ≤ 1) (h2 : (x1 = 0 ∨ (0 ≤ x0 ∧ x0 ≤ 4 ∧ 0 ≤ x2 ∧ x2 ≤ 24))) (h3 : ¬ x1 = 0) : x0 ≤ 4 := by omega
theorem o36_345 {x0 x1 x2 : Int} (h0 : 0 ≤ x1) (h1 : x1 ≤ 1) (h2 : (x1 = 0 ∨ (0 ≤ x2 ∧ x2 ≤ 4 ∧ 0 ≤ x0 ∧ x0 ≤ 24))) (h3 : ¬ x1 = 0) : 0 ≤ x0 := by omega
theorem o36_346 {x0 x1 x2 : Int} (h0 : 0 ≤ x1) (h1 : x1 ≤ 1) (h2 : (x1 = 0 ∨ (0 ≤ x2 ∧ x2 ≤ 4 ∧ 0 ≤ x0 ∧ x0 ≤ 24))) (h3 : ¬ x1 = 0) : x0 ≤ 24 := by omega
theorem o36_347 {x0 x1 x2 : Int} (h0 : 0 ≤ x0) (h1 : x0 ≤ 1) (h2 : (x0 = 0 ∨ (0 ≤ x1 ∧ x1 ≤ 4 ∧ 0 ≤ x2 ∧ x2 ≤ 24))) (h3 : ¬ x0 = 0) : ¬ x0 = 0 := by omega
theorem o36_348 {x0 : Int} (h0 : (-1) ≤ x0) (h1 : x0 ≤ 60) : (-3) ≤ x0 := by omega
theorem o36_349 {x0 : Int} (h0 : x0 = (-2)) : (-3) ≤ x0 := by omega
theorem o36_350 {x0 : Int} (h0 : x0 = (-2)) : x0 ≤ 60 := by omega
theorem o36_351 {x0 : Int} (h0 : 0 ≤ x0) (h1 : x0 ≤ 99) : x0 ≤ 99 := by omega
theorem o36_352 {x0 x1 : Int} {x2 : Nat} (h0 : 0 ≤ x1) (h1 : x1 ≤ 60) (h2 : 0 ≤ x0) (h3 : x0 ≤ 60) (h4 : 60 - x0 < ((x2 + 1 : Nat) : Int)) (h5 : x0 < x1) (h6 : -2147483648 ≤ x0) (h7 : x0 ≤ 2147483647) (h8 : -2147483648 ≤ x1) (h9 : x1 ≤ 2147483647) : -2147483648 ≤ x0 + 1 := by omega
theorem o36_353 {x0 x1 : Int} {x2 : Nat} (h0 : 0 ≤ x1) (h1 : x1 ≤ 60) (h2 : 0 ≤ x0) (h3 : x0 ≤ 60) (h4 : 60 - x0 < ((x2 + 1 : Nat) : Int)) (h5 : x0 < x1) (h6 : -2147483648 ≤ x0) (h7 : x0 ≤ 2147483647) (h8 : -2147483648 ≤ x1) (h9 : x1 ≤ 2147483647) : x0 + 1 ≤ 2147483647 := by omega
theorem o36_354 {x0 x2 x3 : Int} {x1 : Nat} (h0 : 0 ≤ x2) (h1 : x2 ≤ 60) (h2 : 0 ≤ x3) (h3 : x3 ≤ 60) (h4 : 60 - x3 < ((x1 + 1 : Nat) : Int)) (h5 : x3 < x2) (h6 : x0 = x3 + 1) : 60 - x0 < (x1 : Int) := by omega
theorem o36_355 {x0 x1 x2 : Int} {x3 : Nat} (h0 : 0 ≤ x1) (h1 : x1 ≤ 60) (h2 : 0 ≤ x2) (h3 : x2 ≤ 60) (h4 : 60 - x2 < ((x3 + 1 : Nat) : Int)) (h5 : x2 < x1) (h6 : x0 = x2 + 1) : 0 ≤ x0 := by omega
theorem o36_356 {x0 x1 x2 : Int} {x3 : Nat} (h0 : 0 ≤ x1) (h1 : x1 ≤ 60) (h2 : 0 ≤ x2) (h3 : x2 ≤ 60) (h4 : 60 - x2 < ((x3 + 1 : Nat) : Int)) (h5 : x2 < x1) (h6 : x0 = x2 + 1) : x0 ≤ 60 := by omega
theorem o36_357 {x0 x1 : Int} {x2 : Nat} (h0 : 0 ≤ x1) (h1 : x1 ≤ 60) (h2 : 0 ≤ x0) (h3 : x0 ≤ 60) (h4 : 60 - x0 < ((x2 + 1 : Nat) : Int)) (h5 : x0 < x1) : 0 ≤ x0 := by omega
theorem o36_358 {x0 x1 : Int} {x2 : Nat} (h0 : 0 ≤ x1) (h1 : x1 ≤ 60) (h2 : 0 ≤ x0) (h3 : x0 ≤ 60) (h4 : 60 - x0 < ((x2 + 1 : Nat) : Int)) (h5 : x0 < x1) : x0 ≤ 60 := by omega
theorem o36_359 {x0 x1 x2 x3 : Int} (h0 : 0 ≤ x1) (h1 : x1 ≤ 99) (h2 : x2 = x1 / 4) (h3 : x3 = x1 % 4) (h4 : x0 = x1 % 4) : 0 ≤ x0 := by omega
theorem o36_360 {x0 x1 x2 x3 : Int} (h0 : 0 ≤ x1) (h1 : x1 ≤ 99) (h2 : x2 = x1 / 4) (h3 : x3 = x1 % 4) (h4 : x0 = x1 % 4) : x0 ≤ 3 := by omega
theorem o36_361 {x0 x1 x2 x3 : Int} (h0 : 0 ≤ x0) (h1 : x0 ≤ 99) (h2 : x1 = x0 / 4) (h3 : x2 = x0 % 4) (h4 : x3 = x0 % 4) : 0 ≤ x0 := by omega
theorem o36_362 {x0 x1 x2 x3 x4 : Int} (h0 : 0 ≤ x1) (h1 : x1 ≤ 99) (h2 : x2 = x1 / 4) (h3 : x3 = x1 % 4) (h4 : x4 = x1 % 4) (h5 : x0 = x1 / 4) : 0 ≤ x0 := by omega
theorem o36_363 {x0 x1 x2 x3 x4 : Int} (h0 : 0 ≤ x1) (h1 : x1 ≤ 99) (h2 : x2 = x1 / 4) (h3 : x3 = x1 % 4) (h4 : x4 = x1 % 4) (h5 : x0 = x1 / 4) : x0 ≤ 24 := by omega
theorem o36_364 {x0 x1 x2 x3 x4 : Int} (h0 : 0 ≤ x2) (h1 : x2 ≤ 99) (h2 : x1 = x2 / 4) (h3 : x3 = x2 % 4) (h4 : x4 = x2 % 4) (h5 : x0 = x2 / 4) : x0 = x1 := by omega
theorem o36_365 {x0 x1 x2 x3 x4 : Int} (h0 : 0 ≤ x1) (h1 : x1 ≤ 99) (h2 : x0 = x1 / 4) (h3 : x2 = x1 % 4) (h4 : x3 = x1 % 4) (h5 : x4 = x1 / 4) : x0 ≤ 24 := by omega
theorem o36_366 {x0 x1 x2 x3 x4 : Int} (h0 : 0 ≤ x2) (h1 : x2 ≤ 99) (h2 : x3 = x2 / 4) (h3 : x1 = x2 % 4) (h4 : x0 = x2 % 4) (h5 : x4 = x2 / 4) : x0 = x1 := by omega
theorem o36_367 {x0 x1 x2 : Int} (h0 : 0 ≤ x1) (h1 : x1 ≤ 3) (h2 : (-1) ≤ x2) (h3 : x2 ≤ 24) (h4 : 0 ≤ x2) (h5 : x0 = 4 * x2) (h6 : -2147483648 ≤ x0) (h7 : x0 ≤ 2147483647) (h8 : -2147483648 ≤ x1) (h9 : x1 ≤ 2147483647) (h10 : -2147483648 ≤ x2) (h11 : x2 ≤ 2147483647) : -2147483648 ≤ x0 + x1 := by omega
theorem o36_368 {x0 x1 x2 : Int} (h0 : 0 ≤ x1) (h1 : x1 ≤ 3) (h2 : (-1) ≤ x2) (h3 : x2 ≤ 24) (h4 : 0 ≤ x2) (h5 : x0 = 4 * x2) (h6 : -2147483648 ≤ x0) (h7 : x0 ≤ 2147483647) (h8 : -2147483648 ≤ x1) (h9 : x1 ≤ 2147483647) (h10 : -2147483648 ≤ x2) (h11 : x2 ≤ 2147483647) : x0 + x1 ≤ 2147483647 := by omega
theorem o36_369 {x0 x1 x2 : Int} {x3 : Nat} (h0 : 0 ≤ x2) (h1 : x2 ≤ 60) (h2 : 0 ≤ x0) (h3 : x0 ≤ 60) (h4 : 60 - x0 < ((x3 + 1 : Nat) : Int)) (h5 : x0 < x2) (h6 : x1 = 1) (h7 : -2147483648 ≤ x0) (h8 : x0 ≤ 2147483647) (h9 : -2147483648 ≤ x1) (h10 : x1 ≤ 2147483647) (h11 : -2147483648 ≤ x2) (h12 : x2 ≤ 2147483647) : -2147483648 ≤ x0 + x1 := by omega
theorem o36_370 {x0 x1 x2 : Int} {x3 : Nat} (h0 : 0 ≤ x2) (h1 : x2 ≤ 60) (h2 : 0 ≤ x0) (h3 : x0 ≤ 60) (h4 : 60 - x0 < ((x3 + 1 : Nat) : Int)) (h5 : x0 < x2) (h6 : x1 = 1) (h7 : -2147483648 ≤ x0) (h8 : x0 ≤ 2147483647) (h9 : -2147483648 ≤ x1) (h10 : x1 ≤ 2147483647) (h11 : -2147483648 ≤ x2) (h12 : x2 ≤ 2147483647) : x0 + x1 ≤ 2147483647 := by omega
theorem o36_371 {x0 x1 x2 x4 : Int} {x3 : Nat} (h0 : 0 ≤ x1) (h1 : x1 ≤ 60) (h2 : 0 ≤ x2) (h3 : x2 ≤ 60) (h4 : 60 - x2 < ((x3 + 1 : Nat) : Int)) (h5 : x2 < x1) (h6 : x4 = 1) (h7 : x0 = x2 + x4) (h8 : -2147483648 ≤ x0) (h9 : x0 ≤ 2147483647) (h10 : -2147483648 ≤ x1) (h11 : x1 ≤ 2147483647) (h12 : -2147483648 ≤ x2) (h13 : x2 ≤ 2147483647) (h14 : -2147483648 ≤ x4) (h15 : x4 ≤ 2147483647) : -2147483648 ≤ 100 * x0 := by omega
theorem o36_372 {x0 x1 x2 x4 : Int} {x3 : Nat} (h0 : 0 ≤ x1) (h1 : x1 ≤ 60) (h2 : 0 ≤ x2) (h3 : x2 ≤ 60) (h4 : 60 - x2 < ((x3 + 1 : Nat) : Int)) (h5 : x2 < x1) (h6 : x4 = 1) (h7 : x0 = x2 + x4) (h8 : -2147483648 ≤ x0) (h9 : x0 ≤ 2147483647) (h10 : -2147483648 ≤ x1) (h11 : x1 ≤ 2147483647) (h12 : -2147483648 ≤ x2) (h13 : x2 ≤ 2147483647) (h14 : -2147483648 ≤ x4) (h15 : x4 ≤ 2147483647) : 100 * x0 ≤ 2147483647 := by omega
theorem o36_373 {x0 x1 x2 x3 x5 x6 x7 x8 x9 : Int} {x4 : Nat} (h0 : 0 ≤ x2) (h1 : x2 ≤ 60) (h2 : 0 ≤ x3) (h3 : x3 ≤ 60) (h4 : 60 - x3 < ((x4 + 1 : Nat) : Int)) (h5 : x3 < x2) (h6 : 0 ≤ x5) (h7 : x5 ≤ 3) (h8 : (-1) ≤ x6) (h9 : x6 ≤ 24) (h10 : 0 ≤ x6) (h11 : x7 = 4 * x6) (h12 : x1 = x7 + x5) (h13 : x8 = 1) (h14 : x9 = x3 + x8) (h15 : x0 = 100 * x9) (h16 : -2147483648 ≤ x0) (h17 : x0 ≤ 2147483647) (h18 : -2147483648 ≤ x1) (h19 : x1 ≤ 2147483647) (h20 : -2147483648 ≤ x2) (h21 : x2 ≤ 2147483647) (h22 : -2147483648 ≤ x3) (h23 : x3 ≤ 2147483647) (h24 : -2147483648 ≤ x5) (h25 : x5 ≤ 2147483647) (h26 : -2147483648 ≤ x6) (h27 : x6 ≤ 2147483647) (h28 : -2147483648 ≤ x7) (h29 : x7 ≤ 2147483647) (h30 : -2147483648 ≤ x8) (h31 : x8 ≤ 2147483647) (h32 : -2147483648 ≤ x9) (h33 : x9 ≤ 2147483647) : -2147483648 ≤ x0 + x1 := by omega
theorem o36_374 {x0 x1 x2 x3 x5 x6 x7 x8 x9 : Int} {x4 : Nat} (h0 : 0 ≤ x2) (h1 : x2 ≤ 60) (h2 : 0 ≤ x3) (h3 : x3 ≤ 60) (h4 : 60 - x3 < ((x4 + 1 : Nat) : Int)) (h5 : x3 < x2) (h6 : 0 ≤ x5) (h7 : x5 ≤ 3) (h8 : (-1) ≤ x6) (h9 : x6 ≤ 24) (h10 : 0 ≤ x6) (h11 : x7 = 4 * x6) (h12 : x1 = x7 + x5) (h13 : x8 = 1) (h14 : x9 = x3 + x8) (h15 : x0 = 100 * x9) (h16 : -2147483648 ≤ x0) (h17 : x0 ≤ 2147483647) (h18 : -2147483648 ≤ x1) (h19 : x1 ≤ 2147483647) (h20 : -2147483648 ≤ x2) (h21 : x2 ≤ 2147483647) (h22 : -2147483648 ≤ x3) (h23 : x3 ≤ 2147483647) (h24 : -2147483648 ≤ x5) (h25 : x5 ≤ 2147483647) (h26 : -2147483648 ≤ x6) (h27 : x6 ≤ 2147483647) (h28 : -2147483648 ≤ x7) (h29 : x7 ≤ 2147483647) (h30 : -2147483648 ≤ x8) (h31 : x8 ≤ 2147483647) (h32 : -2147483648 ≤ x9) (h33 : x9 ≤ 2147483647) : x0 + x1 ≤ 2147483647 := by omega
theorem o36_375 {x0 x1 x2 x4 x5 x6 x7 x8 x9 x10 : Int} {x3 : Nat} (h0 : 0 ≤ x1) (h1 : x1 ≤ 60) (h2 : 0 ≤ x2) (h3 : x2 ≤ 60) (h4 : 60 - x2 < ((x3 + 1 : Nat) : Int)) (h5 : x2 < x1) (h6 : 0 ≤ x4) (h7 : x4 ≤ 3) (h8 : (-1) ≤ x5) (h9 : x5 ≤ 24) (h10 : 0 ≤ x5) (h11 : x6 = 4 * x5) (h12 : x7 = x6 + x4) (h13 : x8 = 1) (h14 : x9 = x2 + x8) (h15 : x10 = 100 * x9) (h16 : x0 = x10 + x7) : 0 ≤ x0 := by omega
theorem o36_376 {x0 x1 x2 x4 x5 x6 x7 x8 x9 x10 : Int} {x3 : Nat} (h0 : 0 ≤ x1) (h1 : x1 ≤ 60) (h2 : 0 ≤ x2) (h3 : x2 ≤ 60) (h4 : 60 - x2 < ((x3 + 1 : Nat) : Int)) (h5 : x2 < x1) (h6 : 0 ≤ x4) (h7 : x4 ≤ 3) (h8 : (-1) ≤ x5) (h9 : x5 ≤ 24) (h10 : 0 ≤ x5) (h11 : x6 = 4 * x5) (h12 : x7 = x6 + x4) (h13 : x8 = 1) (h14 : x9 = x2 + x8) (h15 : x10 = 100 * x9) (h16 : x0 = x10 + x7) : x0 < (6100 : Nat) := by omega
theorem o36_377 {x0 x1 x3 x4 x5 x6 x7 x8 x9 x10 : Int} {x2 : Nat} (h0 : 0 ≤ x1) (h1 : x1 ≤ 60) (h2 : 0 ≤ x0) (h3 : x0 ≤ 60) (h4 : 60 - x0 < ((x2 + 1 : Nat) : Int)) (h5 : x0 < x1) (h6 : 0 ≤ x3) (h7 : x3 ≤ 3) (h8 : (-1) ≤ x4) (h9 : x4 ≤ 24) (h10 : 0 ≤ x4) (h11 : x5 = 4 * x4) (h12 : x6 = x5 + x3) (h13 : x7 = 1) (h14 : x8 = x0 + x7) (h15 : x9 = 100 * x8) (h16 : x10 = x9 + x6) : 0 ≤ x0 := by omega
theorem o36_378 {x0 x1 x3 x4 x5 x6 x7 x8 x9 x10 : Int} {x2 : Nat} (h0 : 0 ≤ x1) (h1 : x1 ≤ 60) (h2 : 0 ≤ x0) (h3 : x0 ≤ 60) (h4 : 60 - x0 < ((x2 + 1 : Nat) : Int)) (h5 : x0 < x1) (h6 : 0 ≤ x3) (h7 : x3 ≤ 3) (h8 : (-1) ≤ x4) (h9 : x4 ≤ 24) (h10 : 0 ≤ x4) (h11 : x5 = 4 * x4) (h12 : x6 = x5 + x3) (h13 : x7 = 1) (h14 : x8 = x0 + x7) (h15 : x9 = 100 * x8) (h16 : x10 = x9 + x6) : x0 < (60 : Nat) := by omega
theorem o36_379 {x0 x1 x3 x4 x5 x6 x7 x8 x9 x10 : Int} {x2 : Nat} (h0 : 0 ≤ x1) (h1 : x1 ≤ 60) (h2 : 0 ≤ x0) (h3 : x0 ≤ 60) (h4 : 60 - x0 < ((x2 + 1 : Nat) : Int)) (h5 : x0 < x1) (h6 : 0 ≤ x3) (h7 : x3 ≤ 3) (h8 : (-1) ≤ x4) (h9 : x4 ≤ 24) (h10 : 0 ≤ x4) (h11 : x5 = 4 * x4) (h12 : x6 = x5 + x3) (h13 : x7 = 1) (h14 : x8 = x0 + x7) (h15 : x9 = 100 * x8) (h16 : x10 = x9 + x6) (h17 : -2147483648 ≤ x0) (h18 : x0 ≤ 2147483647) (h19 : -2147483648 ≤ x1) (h20 : x1 ≤ 2147483647) (h21 : -2147483648 ≤ x3) (h22 : x3 ≤ 2147483647) (h23 : -2147483648 ≤ x4) (h24 : x4 ≤ 2147483647) (h25 : -2147483648 ≤ x5) (h26 : x5 ≤ 2147483647) (h27 : -2147483648 ≤ x6) (h28 : x6 ≤ 2147483647) (h29 : -2147483648 ≤ x7) (h30 : x7 ≤ 2147483647) (h31 : -2147483648 ≤ x8) (h32 : x8 ≤ 2147483647) (h33 : -2147483648 ≤ x9) (h34 : x9 ≤ 2147483647) (h35 : -2147483648 ≤ x10) (h36 : x10 ≤ 2147483647) : -2147483648 ≤ x0 + 1 := by omega
theorem o36_380 {x0 x1 x3 x4 x5 x6 x7 x8 x9 x10 : Int} {x2 : Nat} (h0 : 0 ≤ x1) (h1 : x1 ≤ 60) (h2 : 0 ≤ x0) (h3 : x0 ≤ 60) (h4 : 60 - x0 < ((x2 + 1 : Nat) : Int)) (h5 : x0 < x1) (h6 : 0 ≤ x3) (h7 : x3 ≤ 3) (h8 : (-1) ≤ x4) (h9 : x4 ≤ 24) (h10 : 0 ≤ x4) (h11 : x5 = 4 * x4) (h12 : x6 = x5 + x3) (h13 : x7 = 1) (h14 : x8 = x0 + x7) (h15 : x9 = 100 * x8) (h16 : x10 = x9 + x6) (h17 : -2147483648 ≤ x0) (h18 : x0 ≤ 2147483647) (h19 : -2147483648 ≤ x1) (h20 : x1 ≤ 2147483647) (h21 : -2147483648 ≤ x3) (h22 : x3 ≤ 2147483647) (h23 : -2147483648 ≤ x4) (h24 : x4 ≤ 2147483647) (h25 : -2147483648 ≤ x5) (h26 : x5 ≤ 2147483647) (h27 : -2147483648 ≤ x6) (h28 : x6 ≤ 2147483647) (h29 : -2147483648 ≤ x7) (h30 : x7 ≤ 2147483647) (h31 : -2147483648 ≤ x8) (h32 : x8 ≤ 2147483647) (h33 : -2147483648 ≤ x9) (h34 : x9 ≤ 2147483647) (h35 : -2147483648 ≤ x10) (h36 : x10 ≤ 2147483647) : x0 + 1 ≤ 2147483647 := by omega
theorem o36_381 {x0 x2 x3 x4 x5 x6 x7 x8 x9 x10 x11 : Int} {x1 : Nat} (h0 : 0 ≤ x2) (h1 : x2 ≤ 60) (h2 : 0 ≤ x3) (h3 : x3 ≤ 60) (h4 : 60 - x3 < ((x1 + 1 : Nat) : Int)) (h5 : x3 < x2) (h6 : 0 ≤ x4) (h7 : x4 ≤ 3) (h8 : (-1) ≤ x5) (h9 : x5 ≤ 24) (h10 : 0 ≤ x5) (h11 : x6 = 4 * x5) (h12 : x7 = x6 + x4) (h13 : x8 = 1) (h14 : x9 = x3 + x8) (h15 : x10 = 100 * x9) (h16 : x11 = x10 + x7) (h17 : x0 = x3 + 1) : 60 - x0 < (x1 : Int) := by omega
theorem o36_382 {x0 x1 x2 x4 x5 x6 x7 x8 x9 x10 x11 : Int} {x3 : Nat} (h0 : 0 ≤ x1) (h1 : x1 ≤ 60) (h2 : 0 ≤ x2) (h3 : x2 ≤ 60) (h4 : 60 - x2 < ((x3 + 1 : Nat) : Int)) (h5 : x2 < x1) (h6 : 0 ≤ x4) (h7 : x4 ≤ 3) (h8 : (-1) ≤ x5) (h9 : x5 ≤ 24) (h10 : 0 ≤ x5) (h11 : x6 = 4 * x5) (h12 : x7 = x6 + x4) (h13 : x8 = 1) (h14 : x9 = x2 + x8) (h15 : x10 = 100 * x9) (h16 : x11 = x10 + x7) (h17 : x0 = x2 + 1) : 0 ≤ x0 := by omega
theorem o36_383 {x0 x1 x2 x4 x5 x6 x7 x8 x9 x10 x11 : Int} {x3 : Nat} (h0 : 0 ≤ x1) (h1 : x1 ≤ 60) (h2 : 0 ≤ x2) (h3 : x2 ≤ 60) (h4 : 60 - x2 < ((x3 + 1 : Nat) : Int)) (h5 : x2 < x1) (h6 : 0 ≤ x4) (h7 : x4 ≤ 3) (h8 : (-1) ≤ x5) (h9 : x5 ≤ 24) (h10 : 0 ≤ x5) (h11 : x6 = 4 * x5) (h12 : x7 = x6 + x4) (h13 : x8 = 1) (h14 : x9 = x2 + x8) (h15 : x10 = 100 * x9) (h16 : x11 = x10 + x7) (h17 : x0 = x2 + 1) : x0 ≤ 60 := by omega
theorem o36_384 {x0 x1 x2 x4 x5 x6 x7 x8 x9 x10 x11 : Int} {x3 : Nat} (h0 : 0 ≤ x1) (h1 : x1 ≤ 60) (h2 : 0 ≤ x2) (h3 : x2 ≤ 60) (h4 : 60 - x2 < ((x3 + 1 : Nat) : Int)) (h5 : x2 < x1) (h6 : 0 ≤ x4) (h7 : x4 ≤ 3) (h8 : (-1) ≤ x5) (h9 : x5 ≤ 24) (h10 : 0 ≤ x5) (h11 : x6 = 4 * x5) (h12 : x0 = x6 + x4) (h13 : x7 = 1) (h14 : x8 = x2 + x7) (h15 : x9 = 100 * x8) (h16 : x10 = x9 + x0) (h17 : x11 = x2 + 1) : 0 ≤ x0 := by omega
theorem o36_385 {x0 x1 x2 x4 x5 x6 x7 x8 x9 x10 x11 : Int} {x3 : Nat} (h0 : 0 ≤ x1) (h1 : x1 ≤ 60) (h2 : 0 ≤ x2) (h3 : x2 ≤ 60) (h4 : 60 - x2 < ((x3 + 1 : Nat) : Int)) (h5 : x2 < x1) (h6 : 0 ≤ x4) (h7 : x4 ≤ 3) (h8 : (-1) ≤ x5) (h9 : x5 ≤ 24) (h10 : 0 ≤ x5) (h11 : x6 = 4 * x5) (h12 : x0 = x6 + x4) (h13 : x7 = 1) (h14 : x8 = x2 + x7) (h15 : x9 = 100 * x8) (h16 : x10 = x9 + x0) (h17 : x11 = x2 + 1) : x0 ≤ 99 := by omega
theorem o36_386 {x0 x1 x2 x3 : Int} (h0 : 0 ≤ x1) (h1 : x1 ≤ 24) (h2 : 0 ≤ x2) (h3 : x2 ≤ 3) (h4 : x3 = 4 * x1) (h5 : x0 = x3 + x2) : x0 ≤ 99 := by omega
theorem o36_387 {x0 x1 : Int} (h0 : (-1) ≤ x0) (h1 : x0 ≤ 60) (h2 : x1 = (-1)) (h3 : x0 = x1) : (-1) ≤ x0 := by omega
theorem o36_388 {x0 x1 : Int} (h0 : (-1) ≤ x0) (h1 : x0 ≤ 60) (h2 : x1 = (-1)) (h3 : x0 = x1) : x0 ≤ 60 := by omega
theorem o36_389 {x0 x1 : Int} (h0 : (-1) ≤ x0) (h1 : x0 ≤ 60) (h2 : x1 = (-1)) (h3 : ¬ x0 = x1) : 0 ≤ x0 := by omega
theorem o36_390 {x0 x1 : Int} (h0 : (-1) ≤ x0) (h1 : x0 ≤ 60) (h2 : x1 = (-1)) (h3 : ¬ x0 = x1) : x0 ≤ 60 := by omega
theorem o36_391 {x0 x1 : Int} (h0 : (-1) ≤ x0) (h1 : x0 ≤ 60) (h2 : x1 = (-1)) (h3 : ¬ x0 = x1) : (-1) ≤ x0 := by omega
theorem o36_392 {x0 : Int} (h0 : x0 = (-3)) : x0 ≤ 3 := by omega
theorem o36_393 {x0 : Int} (h0 : x0 = (-1)) : (-3) ≤ x0 := by omega
theorem o36_394 {x0 : Int} (h0 : x0 = (-1)) : x0 ≤ 3 := by omega
theorem o36_395 {x0 x1 : Int} (h0 : 0 ≤ x0) (h1 : (-1) ≤ x1) (h2 : x1 ≤ 60) (h3 : x0 < x1) : 0 ≤ x0 := by omega
theorem o36_396 {x0 x1 : Int} (h0 : 0 ≤ x0) (h1 : (-1) ≤ x1) (h2 : x1 ≤ 60) (h3 : x0 < x1) : x0 < (60 : Nat) := by omega
theorem o36_397 {x0 : Int} (h0 : 0 ≤ x0) (h1 : x0 ≤ 3) : (-3) ≤ x0 := by omega
theorem o36_398 {x0 : Int} (h0 : x0 = (-2)) : x0 ≤ 3 := by omega
theorem o36_399 {x0 x1 x2 x3 x4 : Int} (h0 : x1 = x0) (h1 : x2 = 0) (h2 : x3 = 60) (h3 : 0 ≤ x4) (h4 : x4 ≤ 1) (h5 : ((x4 = 0 ∧ (x1 < x2 ∨ x3 < x1)) ∨ (x4 = 1 ∧ x2 ≤ x1 ∧ x1 ≤ x3))) (h6 : ¬ x4 = 0) : 0 ≤ x0 := by omega
theorem o36_400 {x0 x1 x2 x3 x4 : Int} (h0 : x1 = x0) (h1 : x2 = 0) (h2 : x3 = 60) (h3 : 0 ≤ x4) (h4 : x4 ≤ 1) (h5 : ((x4 = 0 ∧ (x1 < x2 ∨ x3 < x1)) ∨ (x4 = 1 ∧ x2 ≤ x1 ∧ x1 ≤ x3))) (h6 : ¬ x4 = 0) : x0 ≤ 60 := by omega
theorem o36_401 {x0 : Int} (h0 : x0 = 1) : 0 ≤ x0 := by omega
theorem o36_402 {x0 : Int} (h0 : x0 = 1) : x0 ≤ 1 := by omega
theorem o36_403 {x0 : Int} (h0 : 0 ≤ x0) (h1 : x0 ≤ 19) : 0 ≤ x0 := by omega
theorem o36_404 {x0 : Int} (h0 : 0 ≤ x0) (h1 : x0 ≤ 19) : x0 ≤ 60 := by omega
theorem o36_405 {x0 : Int} (h0 : 0 ≤ x0) (h1 : x0 ≤ 41) (h2 : 41 - x0 < 0) : False := by omega
theorem o36_406 {x0 x1 x2 : Int} {x3 : Nat} (h0 : 0 ≤ x1) (h1 : x1 ≤ 1000000000) (h2 : (x1 = 1000000000 ∨ (0 ≤ x1 ∧ x1 ≤ 2))) (h3 : x2 = 1000000000) (h4 : ¬ x1 = x2) (h5 : 0 ≤ x0) (h6 : x0 ≤ 41) (h7 : 41 - x0 < ((x3 + 1 : Nat) : Int)) (h8 : -2147483648 ≤ x0) (h9 : x0 ≤ 2147483647) (h10 : -2147483648 ≤ x1) (h11 : x1 ≤ 2147483647) (h12 : -2147483648 ≤ x2) (h13 : x2 ≤ 2147483647) : -2147483648 ≤ x0 + x1 := by omega
theorem o36_407 {x0 x1 x2 : Int} {x3 : Nat} (h0 : 0 ≤ x1) (h1 : x1 ≤ 1000000000) (h2 : (x1 = 1000000000 ∨ (0 ≤ x1 ∧ x1 ≤ 2))) (h3 : x2 = 1000000000) (h4 : ¬ x1 = x2) (h5 : 0 ≤ x0) (h6 : x0 ≤ 41) (h7 : 41 - x0 < ((x3 + 1 : Nat) : Int)) (h8 : -2147483648 ≤ x0) (h9 : x0 ≤ 2147483647) (h10 : -2147483648 ≤ x1) (h11 : x1 ≤ 2147483647) (h12 : -2147483648 ≤ x2) (h13 : x2 ≤ 2147483647) : x0 + x1 ≤ 2147483647 := by omega
theorem o36_408 {x0 : Int} (h0 : x0 = 41) : x0 = 41 := by omega
theorem o36_409 {x0 x1 x2 x3 : Int} (h0 : 0 ≤ x1) (h1 : x1 ≤ 3) (h2 : (-1) ≤ x2) (h3 : x2 ≤ 24) (h4 : 0 ≤ x2) (h5 : x3 = 4 * x2) (h6 : x0 = x3 + x1) (h7 : -2147483648 ≤ x0) (h8 : x0 ≤ 2147483647) (h9 : -2147483648 ≤ x1) (h10 : x1 ≤ 2147483647) (h11 : -2147483648 ≤ x2) (h12 : x2 ≤ 2147483647) (h13 : -2147483648 ≤ x3) (h14 : x3 ≤ 2147483647) : -2147483648 ≤ 41 * x0 := by omega
theorem o36_410 {x0 x1 x2 x3 : Int} (h0 : 0 ≤ x1) (h1 : x1 ≤ 3) (h2 : (-1) ≤ x2) (h3 : x2 ≤ 24) (h4 : 0 ≤ x2) (h5 : x3 = 4 * x2) (h6 : x0 = x3 + x1) (h7 : -2147483648 ≤ x0) (h8 : x0 ≤ 2147483647) (h9 : -2147483648 ≤ x1) (h10 : x1 ≤ 2147483647) (h11 : -2147483648 ≤ x2) (h12 : x2 ≤ 2147483647) (h13 : -2147483648 ≤ x3) (h14 : x3 ≤ 2147483647) : 41 * x0 ≤ 2147483647 := by omega
theorem o36_411 {x0 x1 x2 x3 x4 x5 x6 x7 x8 x10 : Int} {x9 : Nat} (h0 : 0 ≤ x2) (h1 : x2 ≤ 40) (h2 : 0 ≤ x3) (h3 : x3 ≤ 1000000000) (h4 : (x3 = 1000000000 ∨ (0 ≤ x3 ∧ x3 ≤ 2))) (h5 : x4 = 1000000000) (h6 : ¬ x3 = x4) (h7 : 0 ≤ x5) (h8 : x5 ≤ 3) (h9 : (-1) ≤ x6) (h10 : x6 ≤ 24) (h11 : 0 ≤ x6) (h12 : x7 = 4 * x6) (h13 : x8 = x7 + x5) (h14 : 0 ≤ x1) (h15 : x1 ≤ 41) (h16 : 41 - x1 < ((x9 + 1 : Nat) : Int)) (h17 : x10 = x1 + x3) (h18 : x10 ≤ x2) (h19 : x0 = 41 * x8) (h20 : -2147483648 ≤ x0) (h21 : x0 ≤ 2147483647) (h22 : -2147483648 ≤ x1) (h23 : x1 ≤ 2147483647) (h24 : -2147483648 ≤ x2) (h25 : x2 ≤ 2147483647) (h26 : -2147483648 ≤ x3) (h27 : x3 ≤ 2147483647) (h28 : -2147483648 ≤ x4) (h29 : x4 ≤ 2147483647) (h30 : -2147483648 ≤ x5) (h31 : x5 ≤ 2147483647) (h32 : -2147483648 ≤ x6) (h33 : x6 ≤ 2147483647) (h34 : -2147483648 ≤ x7) (h35 : x7 ≤ 2147483647) (h36 : -2147483648 ≤ x8) (h37 : x8 ≤ 2147483647) (h38 : -2147483648 ≤ x10) (h39 : x10 ≤ 2147483647) : -2147483648 ≤ x0 + x1 := by omega
theorem o36_412 {x0 x1 x2 x3 x4 x5 x6 x7 x8 x10 : Int} {x9 : Nat} (h0 : 0 ≤ x2) (h1 : x2 ≤ 40) (h2 : 0 ≤ x3) (h3 : x3 ≤ 1000000000) (h4 : (x3 = 1000000000 ∨ (0 ≤ x3 ∧ x3 ≤ 2))) (h5 : x4 = 1000000000) (h6 : ¬ x3 = x4) (h7 : 0 ≤ x5) (h8 : x5 ≤ 3) (h9 : (-1) ≤ x6) (h10 : x6 ≤ 24) (h11 : 0 ≤ x6) (h12 : x7 = 4 * x6) (h13 : x8 = x7 + x5) (h14 : 0 ≤ x1) (h15 : x1 ≤ 41) (h16 : 41 - x1 < ((x9 + 1 : Nat) : Int)) (h17 : x10 = x1 + x3) (h18 : x10 ≤ x2) (h19 : x0 = 41 * x8) (h20 : -2147483648 ≤ x0) (h21 : x0 ≤ 2147483647) (h22 : -2147483648 ≤ x1) (h23 : x1 ≤ 2147483647) (h24 : -2147483648 ≤ x2) (h25 : x2 ≤ 2147483647) (h26 : -2147483648 ≤ x3) (h27 : x3 ≤ 2147483647) (h28 : -2147483648 ≤ x4) (h29 : x4 ≤ 2147483647) (h30 : -2147483648 ≤ x5) (h31 : x5 ≤ 2147483647) (h32 : -2147483648 ≤ x6) (h33 : x6 ≤ 2147483647) (h34 : -2147483648 ≤ x7) (h35 : x7 ≤ 2147483647) (h36 : -2147483648 ≤ x8) (h37 : x8 ≤ 2147483647) (h38 : -2147483648 ≤ x10) (h39 : x10 ≤ 2147483647) : x0 + x1 ≤ 2147483647 := by omega
theorem o36_413 {x0 x1 x2 x3 x4 x5 x6 x7 x8 x10 x11 : Int} {x9 : Nat} (h0 : 0 ≤ x2) (h1 : x2 ≤ 40) (h2 : 0 ≤ x1) (h3 : x1 ≤ 1000000000) (h4 : (x1 = 1000000000 ∨ (0 ≤ x1 ∧ x1 ≤ 2))) (h5 : x3 = 1000000000) (h6 : ¬ x1 = x3) (h7 : 0 ≤ x4) (h8 : x4 ≤ 3) (h9 : (-1) ≤ x5) (h10 : x5 ≤ 24) (h11 : 0 ≤ x5) (h12 : x6 = 4 * x5) (h13 : x7 = x6 + x4) (h14 : 0 ≤ x8) (h15 : x8 ≤ 41) (h16 : 41 - x8 < ((x9 + 1 : Nat) : Int)) (h17 : x10 = x8 + x1) (h18 : x10 ≤ x2) (h19 : x11 = 41 * x7) (h20 : x0 = x11 + x8) (h21 : -2147483648 ≤ x0) (h22 : x0 ≤ 2147483647) (h23 : -2147483648 ≤ x1) (h24 : x1 ≤ 2147483647) (h25 : -2147483648 ≤ x2) (h26 : x2 ≤ 2147483647) (h27 : -2147483648 ≤ x3) (h28 : x3 ≤ 2147483647) (h29 : -2147483648 ≤ x4) (h30 : x4 ≤ 2147483647) (h31 : -2147483648 ≤ x5) (h32 : x5 ≤ 2147483647) (h33 : -2147483648 ≤ x6) (h34 : x6 ≤ 2147483647) (h35 : -2147483648 ≤ x7) (h36 : x7 ≤ 2147483647) (h37 : -2147483648 ≤ x8) (h38 : x8 ≤ 2147483647) (h39 : -2147483648 ≤ x10) (h40 : x10 ≤ 2147483647) (h41 : -2147483648 ≤ x11) (h42 : x11 ≤ 2147483647) : -2147483648 ≤ x0 + x1 := by omega
theorem o36_414 {x0 x1 x2 x3 x4 x5 x6 x7 x8 x10 x11 : Int} {x9 : Nat} (h0 : 0 ≤ x2) (h1 : x2 ≤ 40) (h2 : 0 ≤ x1) (h3 : x1 ≤ 1000000000) (h4 : (x1 = 1000000000 ∨ (0 ≤ x1 ∧ x1 ≤ 2))) (h5 : x3 = 1000000000) (h6 : ¬ x1 = x3) (h7 : 0 ≤ x4) (h8 : x4 ≤ 3) (h9 : (-1) ≤ x5) (h10 : x5 ≤ 24) (h11 : 0 ≤ x5) (h12 : x6 = 4 * x5) (h13 : x7 = x6 + x4) (h14 : 0 ≤ x8) (h15 : x8 ≤ 41) (h16 : 41 - x8 < ((x9 + 1 : Nat) : Int)) (h17 : x10 = x8 + x1) (h18 : x10 ≤ x2) (h19 : x11 = 41 * x7) (h20 : x0 = x11 + x8) (h21 : -2147483648 ≤ x0) (h22 : x0 ≤ 2147483647) (h23 : -2147483648 ≤ x1) (h24 : x1 ≤ 2147483647) (h25 : -2147483648 ≤ x2) (h26 : x2 ≤ 2147483647) (h27 : -2147483648 ≤ x3) (h28 : x3 ≤ 2147483647) (h29 : -2147483648 ≤ x4) (h30 : x4 ≤ 2147483647) (h31 : -2147483648 ≤ x5) (h32 : x5 ≤ 2147483647) (h33 : -2147483648 ≤ x6) (h34 : x6 ≤ 2147483647) (h35 : -2147483648 ≤ x7) (h36 : x7 ≤ 2147483647) (h37 : -2147483648 ≤ x8) (h38 : x8 ≤ 2147483647) (h39 : -2147483648 ≤ x10) (h40 : x10 ≤ 2147483647) (h41 : -2147483648 ≤ x11) (h42 : x11 ≤ 2147483647) : x0 + x1 ≤ 2147483647 := by omega
theorem o36_415 {x0 x1 x2 x3 x4 x5 x6 x7 x8 x10 x11 x12 : Int} {x9 : Nat} (h0 : 0 ≤ x1) (h1 : x1 ≤ 40) (h2 : 0 ≤ x2) (h3 : x2 ≤ 1000000000) (h4 : (x2 = 1000000000 ∨ (0 ≤ x2 ∧ x2 ≤ 2))) (h5 : x3 = 1000000000) (h6 : ¬ x2 = x3) (h7 : 0 ≤ x4) (h8 : x4 ≤ 3) (h9 : (-1) ≤ x5) (h10 : x5 ≤ 24) (h11 : 0 ≤ x5) (h12 : x6 = 4 * x5) (h13 : x7 = x6 + x4) (h14 : 0 ≤ x8) (h15 : x8 ≤ 41) (h16 : 41 - x8 < ((x9 + 1 : Nat) : Int)) (h17 : x10 = x8 + x2) (h18 : x10 ≤ x1) (h19 : x11 = 41 * x7) (h20 : x12 = x11 + x8) (h21 : x0 = x12 + x2) : 0 ≤ x0 := by omega
theorem o36_416 {x0 x1 x2 x3 x4 x5 x6 x7 x8 x10 x11 x12 : Int} {x9 : Nat} (h0 : 0 ≤ x1) (h1 : x1 ≤ 40) (h2 : 0 ≤ x2) (h3 : x2 ≤ 1000000000) (h4 : (x2 = 1000000000 ∨ (0 ≤ x2 ∧ x2 ≤ 2))) (h5 : x3 = 1000000000) (h6 : ¬ x2 = x3) (h7 : 0 ≤ x4) (h8 : x4 ≤ 3) (h9 : (-1) ≤ x5) (h10 : x5 ≤ 24) (h11 : 0 ≤ x5) (h12 : x6 = 4 * x5) (h13 : x7 = x6 + x4) (h14 : 0 ≤ x8) (h15 : x8 ≤ 41) (h16 : 41 - x8 < ((x9 + 1 : Nat) : Int)) (h17 : x10 = x8 + x2) (h18 : x10 ≤ x1) (h19 : x11 = 41 * x7) (h20 : x12 = x11 + x8) (h21 : x0 = x12 + x2) : x0 < (4100 : Nat) := by omega
theorem o36_417 {x0 x1 x2 x3 x4 : Int} (h0 : 0 ≤ x0) (h1 : x0 ≤ 99) (h2 : x1 = x0 / 4) (h3 : x2 = x0 % 4) (h4 : x3 = x0 % 4) (h5 : x4 = x0 / 4) (h6 : -2147483648 ≤ x0) (h7 : x0 ≤ 2147483647) (h8 : -2147483648 ≤ x1) (h9 : x1 ≤ 2147483647) (h10 : -2147483648 ≤ x2) (h11 : x2 ≤ 2147483647) (h12 : -2147483648 ≤ x3) (h13 : x3 ≤ 2147483647) (h14 : -2147483648 ≤ x4) (h15 : x4 ≤ 2147483647) : -2147483648 ≤ 41 * x0 := by omega
theorem o36_418 {x0 x1 x2 x3 x4 : Int} (h0 : 0 ≤ x0) (h1 : x0 ≤ 99) (h2 : x1 = x0 / 4) (h3 : x2 = x0 % 4) (h4 : x3 = x0 % 4) (h5 : x4 = x0 / 4) (h6 : -2147483648 ≤ x0) (h7 : x0 ≤ 2147483647) (h8 : -2147483648 ≤ x1) (h9 : x1 ≤ 2147483647) (h10 : -2147483648 ≤ x2) (h11 : x2 ≤ 2147483647) (h12 : -2147483648 ≤ x3) (h13 : x3 ≤ 2147483647) (h14 : -2147483648 ≤ x4) (h15 : x4 ≤ 2147483647) : 41 * x0 ≤ 2147483647 := by omega
theorem o36_419 {x0 x1 x2 x3 x4 x5 x6 x7 x8 x9 x10 x11 x12 x13 x15 x16 x17 x18 : Int} {x14 : Nat} (h0 : 0 ≤ x2) (h1 : x2 ≤ 99) (h2 : 0 ≤ x3) (h3 : x3 ≤ 40) (h4 : x4 = x2 / 4) (h5 : x5 = x2 % 4) (h6 : 0 ≤ x6) (h7 : x6 ≤ 1000000000) (h8 : (x6 = 1000000000 ∨ (0 ≤ x6 ∧ x6 ≤ 2))) (h9 : x7 = 1000000000) (h10 : ¬ x6 = x7) (h11 : x8 = x2 % 4) (h12 : 0 ≤ x9) (h13 : x9 ≤ 3) (h14 : x10 = x2 / 4) (h15 : (-1) ≤ x11) (h16 : x11 ≤ 24) (h17 : 0 ≤ x11) (h18 : x12 = 4 * x11) (h19 : x13 = x12 + x9) (h20 : 0 ≤ x1) (h21 : x1 ≤ 41) (h22 : 41 - x1 < ((x14 + 1 : Nat) : Int)) (h23 : x15 = x1 + x6) (h24 : x15 ≤ x3) (h25 : x16 = 41 * x13) (h26 : x17 = x16 + x1) (h27 : x18 = x17 + x6) (h28 : x0 = 41 * x2) (h29 : -2147483648 ≤ x0) (h30 : x0 ≤ 2147483647) (h31 : -2147483648 ≤ x1) (h32 : x1 ≤ 2147483647) (h33 : -2147483648 ≤ x2) (h34 : x2 ≤ 2147483647) (h35 : -2147483648 ≤ x3) (h36 : x3 ≤ 2147483647) (h37 : -2147483648 ≤ x4) (h38 : x4 ≤ 2147483647) (h39 : -2147483648 ≤ x5) (h40 : x5 ≤ 2147483647) (h41 : -2147483648 ≤ x6) (h42 : x6 ≤ 2147483647) (h43 : -2147483648 ≤ x7) (h44 : x7 ≤ 2147483647) (h45 : -2147483648 ≤ x8) (h46 : x8 ≤ 2147483647) (h47 : -2147483648 ≤ x9) (h48 : x9 ≤ 2147483647) (h49 : -2147483648 ≤ x10) (h50 : x10 ≤ 2147483647) (h51 : -2147483648 ≤ x11) (h52 : x11 ≤ 2147483647) (h53 : -2147483648 ≤ x12) (h54 : x12 ≤ 2147483647) (h55 : -2147483648 ≤ x13) (h56 : x13 ≤ 2147483647) (h57 : -2147483648 ≤ x15) (h58 : x15 ≤ 2147483647) (h59 : -2147483648 ≤ x16) (h60 : x16 ≤ 2147483647) (h61 : -2147483648 ≤ x17) (h62 : x17 ≤ 2147483647) (h63 : -2147483648 ≤ x18) (h64 : x18 ≤ 2147483647) : -2147483648 ≤ x0 + x1 := by omega
theorem o36_420 {x0 x1 x2 x3 x4 x5 x6 x7 x8 x9 x10 x11 x12 x13 x15 x16 x17 x18 : Int} {x14 : Nat} (h0 : 0 ≤ x2) (h1 : x2 ≤ 99) (h2 : 0 ≤ x3) (h3 : x3 ≤ 40) (h4 : x4 = x2 / 4) (h5 : x5 = x2 % 4) (h6 : 0 ≤ x6) (h7 : x6 ≤ 1000000000) (h8 : (x6 = 1000000000 ∨ (0 ≤ x6 ∧ x6 ≤ 2))) (h9 : x7 = 1000000000) (h10 : ¬ x6 = x7) (h11 : x8 = x2 % 4) (h12 : 0 ≤ x9) (h13 : x9 ≤ 3) (h14 : x10 = x2 / 4) (h15 : (-1) ≤ x11) (h16 : x11 ≤ 24) (h17 : 0 ≤ x11) (h18 : x12 = 4 * x11) (h19 : x13 = x12 + x9) (h20 : 0 ≤ x1) (h21 : x1 ≤ 41) (h22 : 41 - x1 < ((x14 + 1 : Nat) : Int)) (h23 : x15 = x1 + x6) (h24 : x15 ≤ x3) (h25 : x16 = 41 * x13) (h26 : x17 = x16 + x1) (h27 : x18 = x17 + x6) (h28 : x0 = 41 * x2) (h29 : -2147483648 ≤ x0) (h30 : x0 ≤ 2147483647) (h31 : -2147483648 ≤ x1) (h32 : x1 ≤ 2147483647) (h33 : -2147483648 ≤ x2) (h34 : x2 ≤ 2147483647) (h35 : -2147483648 ≤ x3) (h36 : x3 ≤ 2147483647) (h37 : -2147483648 ≤ x4) (h38 : x4 ≤ 2147483647) (h39 : -2147483648 ≤ x5) (h40 : x5 ≤ 2147483647) (h41 : -2147483648 ≤ x6) (h42 : x6 ≤ 2147483647) (h43 : -2147483648 ≤ x7) (h44 : x7 ≤ 2147483647) (h45 : -2147483648 ≤ x8) (h46 : x8 ≤ 2147483647) (h47 : -2147483648 ≤ x9) (h48 : x9 ≤ 2147483647) (h49 : -2147483648 ≤ x10) (h50 : x10 ≤ 2147483647) (h51 : -2147483648 ≤ x11) (h52 : x11 ≤ 2147483647) (h53 : -2147483648 ≤ x12) (h54 : x12 ≤ 2147483647) (h55 : -2147483648 ≤ x13) (h56 : x13 ≤ 2147483647) (h57 : -2147483648 ≤ x15) (h58 : x15 ≤ 2147483647) (h59 : -2147483648 ≤ x16) (h60 : x16 ≤ 2147483647) (h61 : -2147483648 ≤ x17) (h62 : x17 ≤ 2147483647) (h63 : -2147483648 ≤ x18) (h64 : x18 ≤ 2147483647) : x0 + x1 ≤ 2147483647 := by omega
theorem o36_421 {x0 x1 x2 x3 x4 x5 x6 x7 x8 x9 x10 x11 x12 x13 x15 x16 x17 x18 x19 : Int} {x14 : Nat} (h0 : 0 ≤ x1) (h1 : x1 ≤ 99) (h2 : 0 ≤ x2) (h3 : x2 ≤ 40) (h4 : x3 = x1 / 4) (h5 : x4 = x1 % 4) (h6 : 0 ≤ x5) (h7 : x5 ≤ 1000000000) (h8 : (x5 = 1000000000 ∨ (0 ≤ x5 ∧ x5 ≤ 2))) (h9 : x6 = 1000000000) (h10 : ¬ x5 = x6) (h11 : x7 = x1 % 4) (h12 : 0 ≤ x8) (h13 : x8 ≤ 3) (h14 : x9 = x1 / 4) (h15 : (-1) ≤ x10) (h16 : x10 ≤ 24) (h17 : 0 ≤ x10) (h18 : x11 = 4 * x10) (h19 : x12 = x11 + x8) (h20 : 0 ≤ x13) (h21 : x13 ≤ 41) (h22 : 41 - x13 < ((x14 + 1 : Nat) : Int)) (h23 : x15 = x13 + x5) (h24 : x15 ≤ x2) (h25 : x16 = 41 * x12) (h26 : x17 = x16 + x13) (h27 : x18 = x17 + x5) (h28 : x19 = 41 * x1) (h29 : x0 = x19 + x13) : 0 ≤ x0 := by omega
theorem o36_422 {x0 x1 x2 x3 x4 x5 x6 x7 x8 x9 x10 x11 x12 x13 x15 x16 x17 x18 x19 : Int} {x14 : Nat} (h0 : 0 ≤ x1) (h1 : x1 ≤ 99) (h2 : 0 ≤ x2) (h3 : x2 ≤ 40) (h4 : x3 = x1 / 4) (h5 : x4 = x1 % 4) (h6 : 0 ≤ x5) (h7 : x5 ≤ 1000000000) (h8 : (x5 = 1000000000 ∨ (0 ≤ x5 ∧ x5 ≤ 2))) (h9 : x6 = 1000000000) (h10 : ¬ x5 = x6) (h11 : x7 = x1 % 4) (h12 : 0 ≤ x8) (h13 : x8 ≤ 3) (h14 : x9 = x1 / 4) (h15 : (-1) ≤ x10) (h16 : x10 ≤ 24) (h17 : 0 ≤ x10) (h18 : x11 = 4 * x10) (h19 : x12 = x11 + x8) (h20 : 0 ≤ x13) (h21 : x13 ≤ 41) (h22 : 41 - x13 < ((x14 + 1 : Nat) : Int)) (h23 : x15 = x13 + x5) (h24 : x15 ≤ x2) (h25 : x16 = 41 * x12) (h26 : x17 = x16 + x13) (h27 : x18 = x17 + x5) (h28 : x19 = 41 * x1) (h29 : x0 = x19 + x13) : x0 < (4100 : Nat) := by omega
theorem o36_423 {x0 x1 x2 x3 x4 x5 x6 x7 x8 x9 x10 x11 x12 x13 x15 x16 x17 x18 x19 : Int} {x14 : Nat} (h0 : 0 ≤ x1) (h1 : x1 ≤ 99) (h2 : 0 ≤ x2) (h3 : x2 ≤ 40) (h4 : x3 = x1 / 4) (h5 : x4 = x1 % 4) (h6 : 0 ≤ x5) (h7 : x5 ≤ 1000000000) (h8 : (x5 = 1000000000 ∨ (0 ≤ x5 ∧ x5 ≤ 2))) (h9 : x6 = 1000000000) (h10 : ¬ x5 = x6) (h11 : x7 = x1 % 4) (h12 : 0 ≤ x8) (h13 : x8 ≤ 3) (h14 : x9 = x1 / 4) (h15 : (-1) ≤ x10) (h16 : x10 ≤ 24) (h17 : 0 ≤ x10) (h18 : x11 = 4 * x10) (h19 : x12 = x11 + x8) (h20 : 0 ≤ x13) (h21 : x13 ≤ 41) (h22 : 41 - x13 < ((x14 + 1 : Nat) : Int)) (h23 : x15 = x13 + x5) (h24 : x15 ≤ x2) (h25 : x16 = 41 * x12) (h26 : x17 = x16 + x13) (h27 : x0 = x17 + x5) (h28 : x18 = 41 * x1) (h29 : x19 = x18 + x13) : 0 ≤ x0 := by omega
theorem o36_424 {x0 x1 x2 x3 x4 x5 x6 x7 x8 x9 x10 x11 x12 x13 x15 x16 x17 x18 x19 : Int} {x14 : Nat} (h0 : 0 ≤ x1) (h1 : x1 ≤ 99) (h2 : 0 ≤ x2) (h3 : x2 ≤ 40) (h4 : x3 = x1 / 4) (h5 : x4 = x1 % 4) (h6 : 0 ≤ x5) (h7 : x5 ≤ 1000000000) (h8 : (x5 = 1000000000 ∨ (0 ≤ x5 ∧ x5 ≤ 2))) (h9 : x6 = 1000000000) (h10 : ¬ x5 = x6) (h11 : x7 = x1 % 4) (h12 : 0 ≤ x8) (h13 : x8 ≤ 3) (h14 : x9 = x1 / 4) (h15 : (-1) ≤ x10) (h16 : x10 ≤ 24) (h17 : 0 ≤ x10) (h18 : x11 = 4 * x10) (h19 : x12 = x11 + x8) (h20 : 0 ≤ x13) (h21 : x13 ≤ 41) (h22 : 41 - x13 < ((x14 + 1 : Nat) : Int)) (h23 : x15 = x13 + x5) (h24 : x15 ≤ x2) (h25 : x16 = 41 * x12) (h26 : x17 = x16 + x13) (h27 : x0 = x17 + x5) (h28 : x18 = 41 * x1) (h29 : x19 = x18 + x13) : x0 < (4100 : Nat) := by omega
theorem o36_425 {x0 x1 x2 x3 x4 x5 x6 x7 x8 x9 x10 x11 x12 x14 x15 x16 x17 x18 x19 : Int} {x13 : Nat} (h0 : 0 ≤ x1) (h1 : x1 ≤ 99) (h2 : 0 ≤ x2) (h3 : x2 ≤ 40) (h4 : x3 = x1 / 4) (h5 : x4 = x1 % 4) (h6 : 0 ≤ x5) (h7 : x5 ≤ 1000000000) (h8 : (x5 = 1000000000 ∨ (0 ≤ x5 ∧ x5 ≤ 2))) (h9 : x6 = 1000000000) (h10 : ¬ x5 = x6) (h11 : x7 = x1 % 4) (h12 : 0 ≤ x8) (h13 : x8 ≤ 3) (h14 : x9 = x1 / 4) (h15 : (-1) ≤ x10) (h16 : x10 ≤ 24) (h17 : 0 ≤ x10) (h18 : x11 = 4 * x10) (h19 : x12 = x11 + x8) (h20 : 0 ≤ x0) (h21 : x0 ≤ 41) (h22 : 41 - x0 < ((x13 + 1 : Nat) : Int)) (h23 : x14 = x0 + x5) (h24 : x14 ≤ x2) (h25 : x15 = 41 * x12) (h26 : x16 = x15 + x0) (h27 : x17 = x16 + x5) (h28 : x18 = 41 * x1) (h29 : x19 = x18 + x0) (h30 : -2147483648 ≤ x0) (h31 : x0 ≤ 2147483647) (h32 : -2147483648 ≤ x1) (h33 : x1 ≤ 2147483647) (h34 : -2147483648 ≤ x2) (h35 : x2 ≤ 2147483647) (h36 : -2147483648 ≤ x3) (h37 : x3 ≤ 2147483647) (h38 : -2147483648 ≤ x4) (h39 : x4 ≤ 2147483647) (h40 : -2147483648 ≤ x5) (h41 : x5 ≤ 2147483647) (h42 : -2147483648 ≤ x6) (h43 : x6 ≤ 2147483647) (h44 : -2147483648 ≤ x7) (h45 : x7 ≤ 2147483647) (h46 : -2147483648 ≤ x8) (h47 : x8 ≤ 2147483647) (h48 : -2147483648 ≤ x9) (h49 : x9 ≤ 2147483647) (h50 : -2147483648 ≤ x10) (h51 : x10 ≤ 2147483647) (h52 : -2147483648 ≤ x11) (h53 : x11 ≤ 2147483647) (h54 : -2147483648 ≤ x12) (h55 : x12 ≤ 2147483647) (h56 : -2147483648 ≤ x14) (h57 : x14 ≤ 2147483647) (h58 : -2147483648 ≤ x15) (h59 : x15 ≤ 2147483647) (h60 : -2147483648 ≤ x16) (h61 : x16 ≤ 2147483647) (h62 : -2147483648 ≤ x17) (h63 : x17 ≤ 2147483647) (h64 : -2147483648 ≤ x18) (h65 : x18 ≤ 2147483647) (h66 : -2147483648 ≤ x19) (h67 : x19 ≤ 2147483647) : -2147483648 ≤ x0 + 1 := by omega
theorem o36_426 {x0 x1 x2 x3 x4 x5 x6 x7 x8 x9 x10 x11 x12 x14 x15 x16 x17 x18 x19 : Int} {x13 : Nat} (h0 : 0 ≤ x1) (h1 : x1 ≤ 99) (h2 : 0 ≤ x2) (h3 : x2 ≤ 40) (h4 : x3 = x1 / 4) (h5 : x4 = x1 % 4) (h6 : 0 ≤ x5) (h7 : x5 ≤ 1000000000) (h8 : (x5 = 1000000000 ∨ (0 ≤ x5 ∧ x5 ≤ 2))) (h9 : x6 = 1000000000) (h10 : ¬ x5 = x6) (h11 : x7 = x1 % 4) (h12 : 0 ≤ x8) (h13 : x8 ≤ 3) (h14 : x9 = x1 / 4) (h15 : (-1) ≤ x10) (h16 : x10 ≤ 24) (h17 : 0 ≤ x10) (h18 : x11 = 4 * x10) (h19 : x12 = x11 + x8) (h20 : 0 ≤ x0) (h21 : x0 ≤ 41) (h22 : 41 - x0 < ((x13 + 1 : Nat) : Int)) (h23 : x14 = x0 + x5) (h24 : x14 ≤ x2) (h25 : x15 = 41 * x12) (h26 : x16 = x15 + x0) (h27 : x17 = x16 + x5) (h28 : x18 = 41 * x1) (h29 : x19 = x18 + x0) (h30 : -2147483648 ≤ x0) (h31 : x0 ≤ 2147483647) (h32 : -2147483648 ≤ x1) (h33 : x1 ≤ 2147483647) (h34 : -2147483648 ≤ x2) (h35 : x2 ≤ 2147483647) (h36 : -2147483648 ≤ x3) (h37 : x3 ≤ 2147483647) (h38 : -2147483648 ≤ x4) (h39 : x4 ≤ 2147483647) (h40 : -2147483648 ≤ x5) (h41 : x5 ≤ 2147483647) (h42 : -2147483648 ≤ x6) (h43 : x6 ≤ 2147483647) (h44 : -2147483648 ≤ x7) (h45 : x7 ≤ 2147483647) (h46 : -2147483648 ≤ x8) (h47 : x8 ≤ 2147483647) (h48 : -2147483648 ≤ x9) (h49 : x9 ≤ 2147483647) (h50 : -2147483648 ≤ x10) (h51 : x10 ≤ 2147483647) (h52 : -2147483648 ≤ x11) (h53 : x11 ≤ 2147483647) (h54 : -2147483648 ≤ x12) (h55 : x12 ≤ 2147483647) (h56 : -2147483648 ≤ x14) (h57 : x14 ≤ 2147483647) (h58 : -2147483648 ≤ x15) (h59 : x15 ≤ 2147483647) (h60 : -2147483648 ≤ x16) (h61 : x16 ≤ 2147483647) (h62 : -2147483648 ≤ x17) (h63 : x17 ≤ 2147483647) (h64 : -2147483648 ≤ x18) (h65 : x18 ≤ 2147483647) (h66 : -2147483648 ≤ x19) (h67 : x19 ≤ 2147483647) : x0 + 1 ≤ 2147483647 := by omega
theorem o36_427 {x0 x2 x3 x4 x5 x6 x7 x8 x9 x10 x11 x12 x13 x14 x15 x16 x17 x18 x19 x20 : Int} {x1 : Nat} (h0 : 0 ≤ x2) (h1 : x2 ≤ 99) (h2 : 0 ≤ x3) (h3 : x3 ≤ 40) (h4 : x4 = x2 / 4) (h5 : x5 = x2 % 4) (h6 : 0 ≤ x6) (h7 : x6 ≤ 1000000000) (h8 : (x6 = 1000000000 ∨ (0 ≤ x6 ∧ x6 ≤ 2))) (h9 : x7 = 1000000000) (h10 : ¬ x6 = x7) (h11 : x8 = x2 % 4) (h12 : 0 ≤ x9) (h13 : x9 ≤ 3) (h14 : x10 = x2 / 4) (h15 : (-1) ≤ x11) (h16 : x11 ≤ 24) (h17 : 0 ≤ x11) (h18 : x12 = 4 * x11) (h19 : x13 = x12 + x9) (h20 : 0 ≤ x14) (h21 : x14 ≤ 41) (h22 : 41 - x14 < ((x1 + 1 : Nat) : Int)) (h23 : x15 = x14 + x6) (h24 : x15 ≤ x3) (h25 : x16 = 41 * x13) (h26 : x17 = x16 + x14) (h27 : x18 = x17 + x6) (h28 : x19 = 41 * x2) (h29 : x20 = x19 + x14) (h30 : x0 = x14 + 1) : 41 - x0 < (x1 : Int) := by omega
theorem o36_428 {x0 x1 x2 x3 x4 x5 x6 x7 x8 x9 x10 x11 x12 x13 x15 x16 x17 x18 x19 x20 : Int} {x14 : Nat} (h0 : 0 ≤ x1) (h1 : x1 ≤ 99) (h2 : 0 ≤ x2) (h3 : x2 ≤ 40) (h4 : x3 = x1 / 4) (h5 : x4 = x1 % 4) (h6 : 0 ≤ x5) (h7 : x5 ≤ 1000000000) (h8 : (x5 = 1000000000 ∨ (0 ≤ x5 ∧ x5 ≤ 2))) (h9 : x6 = 1000000000) (h10 : ¬ x5 = x6) (h11 : x7 = x1 % 4) (h12 : 0 ≤ x8) (h13 : x8 ≤ 3) (h14 : x9 = x1 / 4) (h15 : (-1) ≤ x10) (h16 : x10 ≤ 24) (h17 : 0 ≤ x10) (h18 : x11 = 4 * x10) (h19 : x12 = x11 + x8) (h20 : 0 ≤ x13) (h21 : x13 ≤ 41) (h22 : 41 - x13 < ((x14 + 1 : Nat) : Int)) (h23 : x15 = x13 + x5) (h24 : x15 ≤ x2) (h25 : x16 = 41 * x12) (h26 : x17 = x16 + x13) (h27 : x18 = x17 + x5) (h28 : x19 = 41 * x1) (h29 : x20 = x19 + x13) (h30 : x0 = x13 + 1) : 0 ≤ x0 := by omega
theorem o36_429 {x0 x1 x2 x3 x4 x5 x6 x7 x8 x9 x10 x11 x12 x13 x15 x16 x17 x18 x19 x20 : Int} {x14 : Nat} (h0 : 0 ≤ x1) (h1 : x1 ≤ 99) (h2 : 0 ≤ x2) (h3 : x2 ≤ 40) (h4 : x3 = x1 / 4) (h5 : x4 = x1 % 4) (h6 : 0 ≤ x5) (h7 : x5 ≤ 1000000000) (h8 : (x5 = 1000000000 ∨ (0 ≤ x5 ∧ x5 ≤ 2))) (h9 : x6 = 1000000000) (h10 : ¬ x5 = x6) (h11 : x7 = x1 % 4) (h12 : 0 ≤ x8) (h13 : x8 ≤ 3) (h14 : x9 = x1 / 4) (h15 : (-1) ≤ x10) (h16 : x10 ≤ 24) (h17 : 0 ≤ x10) (h18 : x11 = 4 * x10) (h19 : x12 = x11 + x8) (h20 : 0 ≤ x13) (h21 : x13 ≤ 41) (h22 : 41 - x13 < ((x14 + 1 : Nat) : Int)) (h23 : x15 = x13 + x5) (h24 : x15 ≤ x2) (h25 : x16 = 41 * x12) (h26 : x17 = x16 + x13) (h27 : x18 = x17 + x5) (h28 : x19 = 41 * x1) (h29 : x20 = x19 + x13) (h30 : x0 = x13 + 1) : x0 ≤ 41 := by omega
theorem o36_430 {x0 : Int} (h0 : x0 = 0) : 41 - x0 < (((41 - x0 + 1).toNat : Nat) : Int) := by omega
theorem o36_431 {x0 : Int} (h0 : x0 = 0) : x0 ≤ 41 := by omega
theorem o36_432 {x0 x1 x2 x3 x4 : Int} (h0 : x1 = x0) (h1 : x2 = 0) (h2 : x3 = 20) (h3 : 0 ≤ x4) (h4 : x4 ≤ 1) (h5 : ((x4 = 0 ∧ (x1 < x2 ∨ x3 < x1)) ∨ (x4 = 1 ∧ x2 ≤ x1 ∧ x1 ≤ x3))) (h6 : ¬ x4 = 0) : 0 ≤ x0 := by omega
theorem o36_433 {x0 x1 x2 x3 x4 : Int} (h0 : x1 = x0) (h1 : x2 = 0) (h2 : x3 = 20) (h3 : 0 ≤ x4) (h4 : x4 ≤ 1) (h5 : ((x4 = 0 ∧ (x1 < x2 ∨ x3 < x1)) ∨ (x4 = 1 ∧ x2 ≤ x1 ∧ x1 ≤ x3))) (h6 : ¬ x4 = 0) : x0 ≤ 60 := by omega
theorem o36_434 {x0 : Int} (h0 : 0 ≤ x0) (h1 : x0 ≤ 4100) (h2 : 4100 - x0 < 0) : False := by omega
theorem o36_435 {x0 x1 x2 x3 : Int} (h0 : 0 ≤ x2) (h1 : x2 ≤ 1) (h2 : (x2 = 0 ∨ (0 ≤ x1 ∧ x1 ≤ 4 ∧ 0 ≤ x3 ∧ x3 ≤ 24))) (h3 : ¬ x2 = 0) (h4 : x0 = 36) (h5 : -2147483648 ≤ x0) (h6 : x0 ≤ 2147483647) (h7 : -2147483648 ≤ x1) (h8 : x1 ≤ 2147483647) (h9 : -2147483648 ≤ x2) (h10 : x2 ≤ 2147483647) (h11 : -2147483648 ≤ x3) (h12 : x3 ≤ 2147483647) : -2147483648 ≤ x0 + x1 := by omega
theorem o36_436 {x0 x1 x2 x3 : Int} (h0 : 0 ≤ x2) (h1 : x2 ≤ 1) (h2 : (x2 = 0 ∨ (0 ≤ x1 ∧ x1 ≤ 4 ∧ 0 ≤ x3 ∧ x3 ≤ 24))) (h3 : ¬ x2 = 0) (h4 : x0 = 36) (h5 : -2147483648 ≤ x0) (h6 : x0 ≤ 2147483647) (h7 : -2147483648 ≤ x1) (h8 : x1 ≤ 2147483647) (h9 : -2147483648 ≤ x2) (h10 : x2 ≤ 2147483647) (h11 : -2147483648 ≤ x3) (h12 : x3 ≤ 2147483647) : x0 + x1 ≤ 2147483647 := by omega
theorem o36_437 {x0 x1 x2 x3 x4 : Int} (h0 : 0 ≤ x1) (h1 : x1 ≤ 1) (h2 : (x1 = 0 ∨ (0 ≤ x2 ∧ x2 ≤ 4 ∧ 0 ≤ x3 ∧ x3 ≤ 24))) (h3 : ¬ x1 = 0) (h4 : x4 = 36) (h5 : x0 = x4 + x2) : 0 ≤ x0 := by omega
theorem o36_438 {x0 x1 x2 x3 x4 : Int} (h0 : 0 ≤ x1) (h1 : x1 ≤ 1) (h2 : (x1 = 0 ∨ (0 ≤ x2 ∧ x2 ≤ 4 ∧ 0 ≤ x3 ∧ x3 ≤ 24))) (h3 : ¬ x1 = 0) (h4 : x4 = 36) (h5 : x0 = x4 + x2) : x0 < (5322 : Nat) := by omega
theorem o36_439 {x0 x1 x2 x3 x4 : Int} (h0 : 0 ≤ x1) (h1 : x1 ≤ 1) (h2 : (x1 = 0 ∨ (0 ≤ x2 ∧ x2 ≤ 4 ∧ 0 ≤ x3 ∧ x3 ≤ 24))) (h3 : ¬ x1 = 0) (h4 : x4 = 36) (h5 : x0 = x4 + x2) : (x0).toNat < 41 := by omega
theorem o36_440 {x0 x1 x2 x3 x4 : Int} (h0 : 0 ≤ x1) (h1 : x1 ≤ 1) (h2 : (x1 = 0 ∨ (0 ≤ x2 ∧ x2 ≤ 4 ∧ 0 ≤ x3 ∧ x3 ≤ 24))) (h3 : ¬ x1 = 0) (h4 : x4 = 36) (h5 : x0 = x4 + x2) : 36 ≤ (x0).toNat := by omega
theorem o36_441 {x0 x1 x2 x3 x4 x5 : Int} (h0 : 0 ≤ x2) (h1 : x2 ≤ 1) (h2 : (x2 = 0 ∨ (0 ≤ x1 ∧ x1 ≤ 4 ∧ 0 ≤ x3 ∧ x3 ≤ 24))) (h3 : ¬ x2 = 0) (h4 : x4 = 36) (h5 : x5 = x4 + x1) (h6 : x0 = 41) (h7 : -2147483648 ≤ x0) (h8 : x0 ≤ 2147483647) (h9 : -2147483648 ≤ x1) (h10 : x1 ≤ 2147483647) (h11 : -2147483648 ≤ x2) (h12 : x2 ≤ 2147483647) (h13 : -2147483648 ≤ x3) (h14 : x3 ≤ 2147483647) (h15 : -2147483648 ≤ x4) (h16 : x4 ≤ 2147483647) (h17 : -2147483648 ≤ x5) (h18 : x5 ≤ 2147483647) : -2147483648 ≤ x0 + x1 := by omega
theorem o36_442 {x0 x1 x2 x3 x4 x5 : Int} (h0 : 0 ≤ x2) (h1 : x2 ≤ 1) (h2 : (x2 = 0 ∨ (0 ≤ x1 ∧ x1 ≤ 4 ∧ 0 ≤ x3 ∧ x3 ≤ 24))) (h3 : ¬ x2 = 0) (h4 : x4 = 36) (h5 : x5 = x4 + x1) (h6 : x0 = 41) (h7 : -2147483648 ≤ x0) (h8 : x0 ≤ 2147483647) (h9 : -2147483648 ≤ x1) (h10 : x1 ≤ 2147483647) (h11 : -2147483648 ≤ x2) (h12 : x2 ≤ 2147483647) (h13 : -2147483648 ≤ x3) (h14 : x3 ≤ 2147483647) (h15 : -2147483648 ≤ x4) (h16 : x4 ≤ 2147483647) (h17 : -2147483648 ≤ x5) (h18 : x5 ≤ 2147483647) : x0 + x1 ≤ 2147483647 := by omega
theorem o36_443 {x0 x1 x2 x3 x4 x5 x6 : Int} (h0 : 0 ≤ x1) (h1 : x1 ≤ 1) (h2 : (x1 = 0 ∨ (0 ≤ x2 ∧ x2 ≤ 4 ∧ 0 ≤ x3 ∧ x3 ≤ 24))) (h3 : ¬ x1 = 0) (h4 : x4 = 36) (h5 : x5 = x4 + x2) (h6 : x6 = 41) (h7 : x0 = x6 + x2) : 0 ≤ x0 := by omega
theorem o36_444 {x0 x1 x2 x3 x4 x5 x6 : Int} (h0 : 0 ≤ x1) (h1 : x1 ≤ 1) (h2 : (x1 = 0 ∨ (0 ≤ x2 ∧ x2 ≤ 4 ∧ 0 ≤ x3 ∧ x3 ≤ 24))) (h3 : ¬ x1 = 0) (h4 : x4 = 36) (h5 : x5 = x4 + x2) (h6 : x6 = 41) (h7 : x0 = x6 + x2) : x0 < (5322 : Nat) := by omega
theorem o36_445 {x0 x1 x2 x3 x4 x5 x6 : Int} (h0 : 0 ≤ x1) (h1 : x1 ≤ 1) (h2 : (x1 = 0 ∨ (0 ≤ x2 ∧ x2 ≤ 4 ∧ 0 ≤ x3 ∧ x3 ≤ 24))) (h3 : ¬ x1 = 0) (h4 : x4 = 36) (h5 : x5 = x4 + x2) (h6 : x6 = 41) (h7 : x0 = x6 + x2) : (x0).toNat < 46 := by omega
theorem o36_446 {x0 x1 x2 x3 x4 x5 x6 : Int} (h0 : 0 ≤ x1) (h1 : x1 ≤ 1) (h2 : (x1 = 0 ∨ (0 ≤ x2 ∧ x2 ≤ 4 ∧ 0 ≤ x3 ∧ x3 ≤ 24))) (h3 : ¬ x1 = 0) (h4 : x4 = 36) (h5 : x5 = x4 + x2) (h6 : x6 = 41) (h7 : x0 = x6 + x2) : 41 ≤ (x0).toNat := by omega
theorem o36_447 {x0 x1 x2 : Int} (h0 : 0 ≤ x2) (h1 : x2 ≤ 24) (h2 : x0 = 4 * x2) (h3 : 0 ≤ x1) (h4 : x1 ≤ 3) (h5 : -2147483648 ≤ x0) (h6 : x0 ≤ 2147483647) (h7 : -2147483648 ≤ x1) (h8 : x1 ≤ 2147483647) (h9 : -2147483648 ≤ x2) (h10 : x2 ≤ 2147483647) : -2147483648 ≤ x0 + x1 := by omega
theorem o36_448 {x0 x1 x2 : Int} (h0 : 0 ≤ x2) (h1 : x2 ≤ 24) (h2 : x0 = 4 * x2) (h3 : 0 ≤ x1) (h4 : x1 ≤ 3) (h5 : -2147483648 ≤ x0) (h6 : x0 ≤ 2147483647) (h7 : -2147483648 ≤ x1) (h8 : x1 ≤ 2147483647) (h9 : -2147483648 ≤ x2) (h10 : x2 ≤ 2147483647) : x0 + x1 ≤ 2147483647 := by omega
theorem o36_449 {x0 x1 x2 x3 : Int} (h0 : 0 ≤ x1) (h1 : x1 ≤ 24) (h2 : x2 = 4 * x1) (h3 : 0 ≤ x3) (h4 : x3 ≤ 3) (h5 : x0 = x2 + x3) (h6 : -2147483648 ≤ x0) (h7 : x0 ≤ 2147483647) (h8 : -2147483648 ≤ x1) (h9 : x1 ≤ 2147483647) (h10 : -2147483648 ≤ x2) (h11 : x2 ≤ 2147483647) (h12 : -2147483648 ≤ x3) (h13 : x3 ≤ 2147483647) : -2147483648 ≤ 41 * x0 := by omega
theorem o36_450 {x0 x1 x2 x3 : Int} (h0 : 0 ≤ x1) (h1 : x1 ≤ 24) (h2 : x2 = 4 * x1) (h3 : 0 ≤ x3) (h4 : x3 ≤ 3) (h5 : x0 = x2 + x3) (h6 : -2147483648 ≤ x0) (h7 : x0 ≤ 2147483647) (h8 : -2147483648 ≤ x1) (h9 : x1 ≤ 2147483647) (h10 : -2147483648 ≤ x2) (h11 : x2 ≤ 2147483647) (h12 : -2147483648 ≤ x3) (h13 : x3 ≤ 2147483647) : 41 * x0 ≤ 2147483647 := by omega
theorem o36_451 {x0 x1 x2 x3 x4 : Int} (h0 : 0 ≤ x1) (h1 : x1 ≤ 24) (h2 : x2 = 4 * x1) (h3 : 0 ≤ x3) (h4 : x3 ≤ 3) (h5 : x4 = x2 + x3) (h6 : x0 = 41 * x4) : 0 ≤ x0 := by omega
theorem o36_452 {x0 x1 x2 x3 x4 : Int} (h0 : 0 ≤ x1) (h1 : x1 ≤ 24) (h2 : x2 = 4 * x1) (h3 : 0 ≤ x3) (h4 : x3 ≤ 3) (h5 : x4 = x2 + x3) (h6 : x0 = 41 * x4) : x0 < (4100 : Nat) := by omega
theorem o36_453 {x0 : Int} (h0 : 0 ≤ x0) (h1 : x0 ≤ 20) (h2 : 20 - x0 < 0) : False := by omega
theorem o36_454 {x0 x1 x2 x3 x4 x5 x6 : Int} (h0 : 0 ≤ x1) (h1 : x1 ≤ 1) (h2 : (x1 = 0 ∨ (0 ≤ x2 ∧ x2 ≤ 4 ∧ 0 ≤ x0 ∧ x0 ≤ 24))) (h3 : ¬ x1 = 0) (h4 : x3 = 36) (h5 : x4 = x3 + x2) (h6 : x5 = 41) (h7 : x6 = x5 + x2) (h8 : -2147483648 ≤ x0) (h9 : x0 ≤ 2147483647) (h10 : -2147483648 ≤ x1) (h11 : x1 ≤ 2147483647) (h12 : -2147483648 ≤ x2) (h13 : x2 ≤ 2147483647) (h14 : -2147483648 ≤ x3) (h15 : x3 ≤ 2147483647) (h16 : -2147483648 ≤ x4) (h17 : x4 ≤ 2147483647) (h18 : -2147483648 ≤ x5) (h19 : x5 ≤ 2147483647) (h20 : -2147483648 ≤ x6) (h21 : x6 ≤ 2147483647) : -2147483648 ≤ 4 * x0 := by omega
theorem o36_455 {x0 x1 x2 x3 x4 x5 x6 : Int} (h0 : 0 ≤ x1) (h1 : x1 ≤ 1) (h2 : (x1 = 0 ∨ (0 ≤ x2 ∧ x2 ≤ 4 ∧ 0 ≤ x0 ∧ x0 ≤ 24))) (h3 : ¬ x1 = 0) (h4 : x3 = 36) (h5 : x4 = x3 + x2) (h6 : x5 = 41) (h7 : x6 = x5 + x2) (h8 : -2147483648 ≤ x0) (h9 : x0 ≤ 2147483647) (h10 : -2147483648 ≤ x1) (h11 : x1 ≤ 2147483647) (h12 : -2147483648 ≤ x2) (h13 : x2 ≤ 2147483647) (h14 : -2147483648 ≤ x3) (h15 : x3 ≤ 2147483647) (h16 : -2147483648 ≤ x4) (h17 : x4 ≤ 2147483647) (h18 : -2147483648 ≤ x5) (h19 : x5 ≤ 2147483647) (h20 : -2147483648 ≤ x6) (h21 : x6 ≤ 2147483647) : 4 * x0 ≤ 2147483647 := by omega
theorem o36_456 {x0 x1 x2 x3 x4 x5 x6 x7 x8 x10 : Int} {x9 : Nat} (h0 : 0 ≤ x2) (h1 : x2 ≤ 1) (h2 : (x2 = 0 ∨ (0 ≤ x3 ∧ x3 ≤ 4 ∧ 0 ≤ x4 ∧ x4 ≤ 24))) (h3 : ¬ x2 = 0) (h4 : x5 = 36) (h5 : x6 = x5 + x3) (h6 : x7 = 41) (h7 : x8 = x7 + x3) (h8 : 0 ≤ x1) (h9 : x1 ≤ 4) (h10 : 4 - x1 < ((x9 + 1 : Nat) : Int)) (h11 : x10 = 4) (h12 : x1 < x10) (h13 : x0 = 4 * x4) (h14 : -2147483648 ≤ x0) (h15 : x0 ≤ 2147483647) (h16 : -2147483648 ≤ x1) (h17 : x1 ≤ 2147483647) (h18 : -2147483648 ≤ x2) (h19 : x2 ≤ 2147483647) (h20 : -2147483648 ≤ x3) (h21 : x3 ≤ 2147483647) (h22 : -2147483648 ≤ x4) (h23 : x4 ≤ 2147483647) (h24 : -2147483648 ≤ x5) (h25 : x5 ≤ 2147483647) (h26 : -2147483648 ≤ x6) (h27 : x6 ≤ 2147483647) (h28 : -2147483648 ≤ x7) (h29 : x7 ≤ 2147483647) (h30 : -2147483648 ≤ x8) (h31 : x8 ≤ 2147483647) (h32 : -2147483648 ≤ x10) (h33 : x10 ≤ 2147483647) : -2147483648 ≤ x0 + x1 := by omega
theorem o36_457 {x0 x1 x2 x3 x4 x5 x6 x7 x8 x10 : Int} {x9 : Nat} (h0 : 0 ≤ x2) (h1 : x2 ≤ 1) (h2 : (x2 = 0 ∨ (0 ≤ x3 ∧ x3 ≤ 4 ∧ 0 ≤ x4 ∧ x4 ≤ 24))) (h3 : ¬ x2 = 0) (h4 : x5 = 36) (h5 : x6 = x5 + x3) (h6 : x7 = 41) (h7 : x8 = x7 + x3) (h8 : 0 ≤ x1) (h9 : x1 ≤ 4) (h10 : 4 - x1 < ((x9 + 1 : Nat) : Int)) (h11 : x10 = 4) (h12 : x1 < x10) (h13 : x0 = 4 * x4) (h14 : -2147483648 ≤ x0) (h15 : x0 ≤ 2147483647) (h16 : -2147483648 ≤ x1) (h17 : x1 ≤ 2147483647) (h18 : -2147483648 ≤ x2) (h19 : x2 ≤ 2147483647) (h20 : -2147483648 ≤ x3) (h21 : x3 ≤ 2147483647) (h22 : -2147483648 ≤ x4) (h23 : x4 ≤ 2147483647) (h24 : -2147483648 ≤ x5) (h25 : x5 ≤ 2147483647) (h26 : -2147483648 ≤ x6) (h27 : x6 ≤ 2147483647) (h28 : -2147483648 ≤ x7) (h29 : x7 ≤ 2147483647) (h30 : -2147483648 ≤ x8) (h31 : x8 ≤ 2147483647) (h32 : -2147483648 ≤ x10) (h33 : x10 ≤ 2147483647) : x0 + x1 ≤ 2147483647 := by omega
theorem o36_458 {x0 x1 x2 x3 x4 x5 x6 x7 x8 x10 x11 : Int} {x9 : Nat} (h0 : 0 ≤ x1) (h1 : x1 ≤ 1) (h2 : (x1 = 0 ∨ (0 ≤ x2 ∧ x2 ≤ 4 ∧ 0 ≤ x3 ∧ x3 ≤ 24))) (h3 : ¬ x1 = 0) (h4 : x4 = 36) (h5 : x5 = x4 + x2) (h6 : x6 = 41) (h7 : x7 = x6 + x2) (h8 : 0 ≤ x8) (h9 : x8 ≤ 4) (h10 : 4 - x8 < ((x9 + 1 : Nat) : Int)) (h11 : x10 = 4) (h12 : x8 < x10) (h13 : x11 = 4 * x3) (h14 : x0 = x11 + x8) (h15 : -2147483648 ≤ x0) (h16 : x0 ≤ 2147483647) (h17 : -2147483648 ≤ x1) (h18 : x1 ≤ 2147483647) (h19 : -2147483648 ≤ x2) (h20 : x2 ≤ 2147483647) (h21 : -2147483648 ≤ x3) (h22 : x3 ≤ 2147483647) (h23 : -2147483648 ≤ x4) (h24 : x4 ≤ 2147483647) (h25 : -2147483648 ≤ x5) (h26 : x5 ≤ 2147483647) (h27 : -2147483648 ≤ x6) (h28 : x6 ≤ 2147483647) (h29 : -2147483648 ≤ x7) (h30 : x7 ≤ 2147483647) (h31 : -2147483648 ≤ x8) (h32 : x8 ≤ 2147483647) (h33 : -2147483648 ≤ x10) (h34 : x10 ≤ 2147483647) (h35 : -2147483648 ≤ x11) (h36 : x11 ≤ 2147483647) : -2147483648 ≤ 41 * x0 := by omega
theorem o36_459 {x0 x1 x2 x3 x4 x5 x6 x7 x8 x10 x11 : Int} {x9 : Nat} (h0 : 0 ≤ x1) (h1 : x1 ≤ 1) (h2 : (x1 = 0 ∨ (0 ≤ x2 ∧ x2 ≤ 4 ∧ 0 ≤ x3 ∧ x3 ≤ 24))) (h3 : ¬ x1 = 0) (h4 : x4 = 36) (h5 : x5 = x4 + x2) (h6 : x6 = 41) (h7 : x7 = x6 + x2) (h8 : 0 ≤ x8) (h9 : x8 ≤ 4) (h10 : 4 - x8 < ((x9 + 1 : Nat) : Int)) (h11 : x10 = 4) (h12 : x8 < x10) (h13 : x11 = 4 * x3) (h14 : x0 = x11 + x8) (h15 : -2147483648 ≤ x0) (h16 : x0 ≤ 2147483647) (h17 : -2147483648 ≤ x1) (h18 : x1 ≤ 2147483647) (h19 : -2147483648 ≤ x2) (h20 : x2 ≤ 2147483647) (h21 : -2147483648 ≤ x3) (h22 : x3 ≤ 2147483647) (h23 : -2147483648 ≤ x4) (h24 : x4 ≤ 2147483647) (h25 : -2147483648 ≤ x5) (h26 : x5 ≤ 2147483647) (h27 : -2147483648 ≤ x6) (h28 : x6 ≤ 2147483647) (h29 : -2147483648 ≤ x7) (h30 : x7 ≤ 2147483647) (h31 : -2147483648 ≤ x8) (h32 : x8 ≤ 2147483647) (h33 : -2147483648 ≤ x10) (h34 : x10 ≤ 2147483647) (h35 : -2147483648 ≤ x11) (h36 : x11 ≤ 2147483647) : 41 * x0 ≤ 2147483647 := by omega
theorem o36_460 {x0 x1 x2 x3 x4 x5 x6 x7 x8 x9 x10 x11 x12 x13 x14 x16 x18 x19 : Int} {x15 x17 : Nat} (h0 : 0 ≤ x2) (h1 : x2 ≤ 1) (h2 : (x2 = 0 ∨ (0 ≤ x3 ∧ x3 ≤ 4 ∧ 0 ≤ x4 ∧ x4 ≤ 24))) (h3 : ¬ x2 = 0) (h4 : x5 = x6) (h5 : x7 = 0) (h6 : x8 = 40) (h7 : 0 ≤ x9) (h8 : x9 ≤ 1) (h9 : ((x9 = 0 ∧ (x5 < x7 ∨ x8 < x5)) ∨ (x9 = 1 ∧ x7 ≤ x5 ∧ x5 ≤ x8))) (h10 : ¬ x9 = 0) (h11 : x10 = 36) (h12 : x11 = x10 + x3) (h13 : x12 = 41) (h14 : x13 = x12 + x3) (h15 : 0 ≤ x14) (h16 : x14 ≤ 4) (h17 : 4 - x14 < ((x15 + 1 : Nat) : Int)) (h18 : x16 = 4) (h19 : x14 < x16) (h20 : 0 ≤ x1) (h21 : x1 ≤ 41) (h22 : 41 - x1 < ((x17 + 1 : Nat) : Int)) (h23 : x1 ≤ x6) (h24 : x18 = 4 * x4) (h25 : x19 = x18 + x14) (h26 : x0 = 41 * x19) (h27 : -2147483648 ≤ x0) (h28 : x0 ≤ 2147483647) (h29 : -2147483648 ≤ x1) (h30 : x1 ≤ 2147483647) (h31 : -2147483648 ≤ x2) (h32 : x2 ≤ 2147483647) (h33 : -2147483648 ≤ x3) (h34 : x3 ≤ 2147483647) (h35 : -2147483648 ≤ x4) (h36 : x4 ≤ 2147483647) (h37 : -2147483648 ≤ x6) (h38 : x6 ≤ 2147483647) (h39 : -2147483648 ≤ x9) (h40 : x9 ≤ 2147483647) (h41 : -2147483648 ≤ x10) (h42 : x10 ≤ 2147483647) (h43 : -2147483648 ≤ x11) (h44 : x11 ≤ 2147483647) (h45 : -2147483648 ≤ x12) (h46 : x12 ≤ 2147483647) (h47 : -2147483648 ≤ x13) (h48 : x13 ≤ 2147483647) (h49 : -2147483648 ≤ x14) (h50 : x14 ≤ 2147483647) (h51 : -2147483648 ≤ x16) (h52 : x16 ≤ 2147483647) (h53 : -2147483648 ≤ x18) (h54 : x18 ≤ 2147483647) (h55 : -2147483648 ≤ x19) (h56 : x19 ≤ 2147483647) : -2147483648 ≤ x0 + x1 := by omega
theorem o36_461 {x0 x1 x2 x3 x4 x5 x6 x7 x8 x9 x10 x11 x12 x13 x14 x16 x18 x19 : Int} {x15 x17 : Nat} (h0 : 0 ≤ x2) (h1 : x2 ≤ 1) (h2 : (x2 = 0 ∨ (0 ≤ x3 ∧ x3 ≤ 4 ∧ 0 ≤ x4 ∧ x4 ≤ 24))) (h3 : ¬ x2 = 0) (h4 : x5 = x6) (h5 : x7 = 0) (h6 : x8 = 40) (h7 : 0 ≤ x9) (h8 : x9 ≤ 1) (h9 : ((x9 = 0 ∧ (x5 < x7 ∨ x8 < x5)) ∨ (x9 = 1 ∧ x7 ≤ x5 ∧ x5 ≤ x8))) (h10 : ¬ x9 = 0) (h11 : x10 = 36) (h12 : x11 = x10 + x3) (h13 : x12 = 41) (h14 : x13 = x12 + x3) (h15 : 0 ≤ x14) (h16 : x14 ≤ 4) (h17 : 4 - x14 < ((x15 + 1 : Nat) : Int)) (h18 : x16 = 4) (h19 : x14 < x16) (h20 : 0 ≤ x1) (h21 : x1 ≤ 41) (h22 : 41 - x1 < ((x17 + 1 : Nat) : Int)) (h23 : x1 ≤ x6) (h24 : x18 = 4 * x4) (h25 : x19 = x18 + x14) (h26 : x0 = 41 * x19) (h27 : -2147483648 ≤ x0) (h28 : x0 ≤ 2147483647) (h29 : -2147483648 ≤ x1) (h30 : x1 ≤ 2147483647) (h31 : -2147483648 ≤ x2) (h32 : x2 ≤ 2147483647) (h33 : -2147483648 ≤ x3) (h34 : x3 ≤ 2147483647) (h35 : -2147483648 ≤ x4) (h36 : x4 ≤ 2147483647) (h37 : -2147483648 ≤ x6) (h38 : x6 ≤ 2147483647) (h39 : -2147483648 ≤ x9) (h40 : x9 ≤ 2147483647) (h41 : -2147483648 ≤ x10) (h42 : x10 ≤ 2147483647) (h43 : -2147483648 ≤ x11) (h44 : x11 ≤ 2147483647) (h45 : -2147483648 ≤ x12) (h46 : x12 ≤ 2147483647) (h47 : -2147483648 ≤ x13) (h48 : x13 ≤ 2147483647) (h49 : -2147483648 ≤ x14) (h50 : x14 ≤ 2147483647) (h51 : -2147483648 ≤ x16) (h52 : x16 ≤ 2147483647) (h53 : -2147483648 ≤ x18) (h54 : x18 ≤ 2147483647) (h55 : -2147483648 ≤ x19) (h56 : x19 ≤ 2147483647) : x0 + x1 ≤ 2147483647 := by omega
theorem o36_462 {x0 x1 x2 x3 x4 x5 x6 x7 x8 x9 x10 x11 x12 x13 x15 x16 x18 x19 x20 : Int} {x14 x17 : Nat} (h0 : 0 ≤ x1) (h1 : x1 ≤ 1) (h2 : (x1 = 0 ∨ (0 ≤ x2 ∧ x2 ≤ 4 ∧ 0 ≤ x3 ∧ x3 ≤ 24))) (h3 : ¬ x1 = 0) (h4 : x4 = x5) (h5 : x6 = 0) (h6 : x7 = 40) (h7 : 0 ≤ x8) (h8 : x8 ≤ 1) (h9 : ((x8 = 0 ∧ (x4 < x6 ∨ x7 < x4)) ∨ (x8 = 1 ∧ x6 ≤ x4 ∧ x4 ≤ x7))) (h10 : ¬ x8 = 0) (h11 : x9 = 36) (h12 : x10 = x9 + x2) (h13 : x11 = 41) (h14 : x12 = x11 + x2) (h15 : 0 ≤ x13) (h16 : x13 ≤ 4) (h17 : 4 - x13 < ((x14 + 1 : Nat) : Int)) (h18 : x15 = 4) (h19 : x13 < x15) (h20 : 0 ≤ x16) (h21 : x16 ≤ 41) (h22 : 41 - x16 < ((x17 + 1 : Nat) : Int)) (h23 : x16 ≤ x5) (h24 : x18 = 4 * x3) (h25 : x19 = x18 + x13) (h26 : x20 = 41 * x19) (h27 : x0 = x20 + x16) : 0 ≤ x0 := by omega
theorem o36_463 {x0 x1 x2 x3 x4 x5 x6 x7 x8 x9 x10 x11 x12 x13 x15 x16 x18 x19 x20 : Int} {x14 x17 : Nat} (h0 : 0 ≤ x1) (h1 : x1 ≤ 1) (h2 : (x1 = 0 ∨ (0 ≤ x2 ∧ x2 ≤ 4 ∧ 0 ≤ x3 ∧ x3 ≤ 24))) (h3 : ¬ x1 = 0) (h4 : x4 = x5) (h5 : x6 = 0) (h6 : x7 = 40) (h7 : 0 ≤ x8) (h8 : x8 ≤ 1) (h9 : ((x8 = 0 ∧ (x4 < x6 ∨ x7 < x4)) ∨ (x8 = 1 ∧ x6 ≤ x4 ∧ x4 ≤ x7))) (h10 : ¬ x8 = 0) (h11 : x9 = 36) (h12 : x10 = x9 + x2) (h13 : x11 = 41) (h14 : x12 = x11 + x2) (h15 : 0 ≤ x13) (h16 : x13 ≤ 4) (h17 : 4 - x13 < ((x14 + 1 : Nat) : Int)) (h18 : x15 = 4) (h19 : x13 < x15) (h20 : 0 ≤ x16) (h21 : x16 ≤ 41) (h22 : 41 - x16 < ((x17 + 1 : Nat) : Int)) (h23 : x16 ≤ x5) (h24 : x18 = 4 * x3) (h25 : x19 = x18 + x13) (h26 : x20 = 41 * x19) (h27 : x0 = x20 + x16) : x0 < (4100 : Nat) := by omega
theorem o36_464 {x0 x1 x2 x3 x4 x5 x6 x7 x8 x9 x10 x11 x12 x13 x15 x17 x18 x19 x20 : Int} {x14 x16 : Nat} (h0 : 0 ≤ x1) (h1 : x1 ≤ 1) (h2 : (x1 = 0 ∨ (0 ≤ x2 ∧ x2 ≤ 4 ∧ 0 ≤ x3 ∧ x3 ≤ 24))) (h3 : ¬ x1 = 0) (h4 : x4 = x5) (h5 : x6 = 0) (h6 : x7 = 40) (h7 : 0 ≤ x8) (h8 : x8 ≤ 1) (h9 : ((x8 = 0 ∧ (x4 < x6 ∨ x7 < x4)) ∨ (x8 = 1 ∧ x6 ≤ x4 ∧ x4 ≤ x7))) (h10 : ¬ x8 = 0) (h11 : x9 = 36) (h12 : x10 = x9 + x2) (h13 : x11 = 41) (h14 : x12 = x11 + x2) (h15 : 0 ≤ x13) (h16 : x13 ≤ 4) (h17 : 4 - x13 < ((x14 + 1 : Nat) : Int)) (h18 : x15 = 4) (h19 : x13 < x15) (h20 : 0 ≤ x0) (h21 : x0 ≤ 41) (h22 : 41 - x0 < ((x16 + 1 : Nat) : Int)) (h23 : x0 ≤ x5) (h24 : x17 = 4 * x3) (h25 : x18 = x17 + x13) (h26 : x19 = 41 * x18) (h27 : x20 = x19 + x0) (h28 : -2147483648 ≤ x0) (h29 : x0 ≤ 2147483647) (h30 : -2147483648 ≤ x1) (h31 : x1 ≤ 2147483647) (h32 : -2147483648 ≤ x2) (h33 : x2 ≤ 2147483647) (h34 : -2147483648 ≤ x3) (h35 : x3 ≤ 2147483647) (h36 : -2147483648 ≤ x5) (h37 : x5 ≤ 2147483647) (h38 : -2147483648 ≤ x8) (h39 : x8 ≤ 2147483647) (h40 : -2147483648 ≤ x9) (h41 : x9 ≤ 2147483647) (h42 : -2147483648 ≤ x10) (h43 : x10 ≤ 2147483647) (h44 : -2147483648 ≤ x11) (h45 : x11 ≤ 2147483647) (h46 : -2147483648 ≤ x12) (h47 : x12 ≤ 2147483647) (h48 : -2147483648 ≤ x13) (h49 : x13 ≤ 2147483647) (h50 : -2147483648 ≤ x15) (h51 : x15 ≤ 2147483647) (h52 : -2147483648 ≤ x17) (h53 : x17 ≤ 2147483647) (h54 : -2147483648 ≤ x18) (h55 : x18 ≤ 2147483647) (h56 : -2147483648 ≤ x19) (h57 : x19 ≤ 2147483647) (h58 : -2147483648 ≤ x20) (h59 : x20 ≤ 2147483647) : -2147483648 ≤ x0 + 1 := by omega
theorem o36_465 {x0 x1 x2 x3 x4 x5 x6 x7 x8 x9 x10 x11 x12 x13 x15 x17 x18 x19 x20 : Int} {x14 x16 : Nat} (h0 : 0 ≤ x1) (h1 : x1 ≤ 1) (h2 : (x1 = 0 ∨ (0 ≤ x2 ∧ x2 ≤ 4 ∧ 0 ≤ x3 ∧ x3 ≤ 24))) (h3 : ¬ x1 = 0) (h4 : x4 = x5) (h5 : x6 = 0) (h6 : x7 = 40) (h7 : 0 ≤ x8) (h8 : x8 ≤ 1) (h9 : ((x8 = 0 ∧ (x4 < x6 ∨ x7 < x4)) ∨ (x8 = 1 ∧ x6 ≤ x4 ∧ x4 ≤ x7))) (h10 : ¬ x8 = 0) (h11 : x9 = 36) (h12 : x10 = x9 + x2) (h13 : x11 = 41) (h14 : x12 = x11 + x2) (h15 : 0 ≤ x13) (h16 : x13 ≤ 4) (h17 : 4 - x13 < ((x14 + 1 : Nat) : Int)) (h18 : x15 = 4) (h19 : x13 < x15) (h20 : 0 ≤ x0) (h21 : x0 ≤ 41) (h22 : 41 - x0 < ((x16 + 1 : Nat) : Int)) (h23 : x0 ≤ x5) (h24 : x17 = 4 * x3) (h25 : x18 = x17 + x13) (h26 : x19 = 41 * x18) (h27 : x20 = x19 + x0) (h28 : -2147483648 ≤ x0) (h29 : x0 ≤ 2147483647) (h30 : -2147483648 ≤ x1) (h31 : x1 ≤ 2147483647) (h32 : -2147483648 ≤ x2) (h33 : x2 ≤ 2147483647) (h34 : -2147483648 ≤ x3) (h35 : x3 ≤ 2147483647) (h36 : -2147483648 ≤ x5) (h37 : x5 ≤ 2147483647) (h38 : -2147483648 ≤ x8) (h39 : x8 ≤ 2147483647) (h40 : -2147483648 ≤ x9) (h41 : x9 ≤ 2147483647) (h42 : -2147483648 ≤ x10) (h43 : x10 ≤ 2147483647) (h44 : -2147483648 ≤ x11) (h45 : x11 ≤ 2147483647) (h46 : -2147483648 ≤ x12) (h47 : x12 ≤ 2147483647) (h48 : -2147483648 ≤ x13) (h49 : x13 ≤ 2147483647) (h50 : -2147483648 ≤ x15) (h51 : x15 ≤ 2147483647) (h52 : -2147483648 ≤ x17) (h53 : x17 ≤ 2147483647) (h54 : -2147483648 ≤ x18) (h55 : x18 ≤ 2147483647) (h56 : -2147483648 ≤ x19) (h57 : x19 ≤ 2147483647) (h58 : -2147483648 ≤ x20) (h59 : x20 ≤ 2147483647) : x0 + 1 ≤ 2147483647 := by omega
theorem o36_466 {x0 x2 x3 x4 x5 x6 x7 x8 x9 x10 x11 x12 x13 x14 x16 x17 x18 x19 x20 x21 : Int} {x1 x15 : Nat} (h0 : 0 ≤ x2) (h1 : x2 ≤ 1) (h2 : (x2 = 0 ∨ (0 ≤ x3 ∧ x3 ≤ 4 ∧ 0 ≤ x4 ∧ x4 ≤ 24))) (h3 : ¬ x2 = 0) (h4 : x5 = x6) (h5 : x7 = 0) (h6 : x8 = 40) (h7 : 0 ≤ x9) (h8 : x9 ≤ 1) (h9 : ((x9 = 0 ∧ (x5 < x7 ∨ x8 < x5)) ∨ (x9 = 1 ∧ x7 ≤ x5 ∧ x5 ≤ x8))) (h10 : ¬ x9 = 0) (h11 : x10 = 36) (h12 : x11 = x10 + x3) (h13 : x12 = 41) (h14 : x13 = x12 + x3) (h15 : 0 ≤ x14) (h16 : x14 ≤ 4) (h17 : 4 - x14 < ((x15 + 1 : Nat) : Int)) (h18 : x16 = 4) (h19 : x14 < x16) (h20 : 0 ≤ x17) (h21 : x17 ≤ 41) (h22 : 41 - x17 < ((x1 + 1 : Nat) : Int)) (h23 : x17 ≤ x6) (h24 : x18 = 4 * x4) (h25 : x19 = x18 + x14) (h26 : x20 = 41 * x19) (h27 : x21 = x20 + x17) (h28 : x0 = x17 + 1) : 41 - x0 < (x1 : Int) := by omega
theorem o36_467 {x0 x1 x2 x3 x4 x5 x6 x7 x8 x9 x10 x11 x12 x13 x15 x16 x18 x19 x20 x21 : Int} {x14 x17 : Nat} (h0 : 0 ≤ x1) (h1 : x1 ≤ 1) (h2 : (x1 = 0 ∨ (0 ≤ x2 ∧ x2 ≤ 4 ∧ 0 ≤ x3 ∧ x3 ≤ 24))) (h3 : ¬ x1 = 0) (h4 : x4 = x5) (h5 : x6 = 0) (h6 : x7 = 40) (h7 : 0 ≤ x8) (h8 : x8 ≤ 1) (h9 : ((x8 = 0 ∧ (x4 < x6 ∨ x7 < x4)) ∨ (x8 = 1 ∧ x6 ≤ x4 ∧ x4 ≤ x7))) (h10 : ¬ x8 = 0) (h11 : x9 = 36) (h12 : x10 = x9 + x2) (h13 : x11 = 41) (h14 : x12 = x11 + x2) (h15 : 0 ≤ x13) (h16 : x13 ≤ 4) (h17 : 4 - x13 < ((x14 + 1 : Nat) : Int)) (h18 : x15 = 4) (h19 : x13 < x15) (h20 : 0 ≤ x16) (h21 : x16 ≤ 41) (h22 : 41 - x16 < ((x17 + 1 : Nat) : Int)) (h23 : x16 ≤ x5) (h24 : x18 = 4 * x3) (h25 : x19 = x18 + x13) (h26 : x20 = 41 * x19) (h27 : x21 = x20 + x16) (h28 : x0 = x16 + 1) : 0 ≤ x0 := by omega
theorem o36_468 {x0 x1 x2 x3 x4 x5 x6 x7 x8 x9 x10 x11 x12 x13 x15 x16 x18 x19 x20 x21 : Int} {x14 x17 : Nat} (h0 : 0 ≤ x1) (h1 : x1 ≤ 1) (h2 : (x1 = 0 ∨ (0 ≤ x2 ∧ x2 ≤ 4 ∧ 0 ≤ x3 ∧ x3 ≤ 24))) (h3 : ¬ x1 = 0) (h4 : x4 = x5) (h5 : x6 = 0) (h6 : x7 = 40) (h7 : 0 ≤ x8) (h8 : x8 ≤ 1) (h9 : ((x8 = 0 ∧ (x4 < x6 ∨ x7 < x4)) ∨ (x8 = 1 ∧ x6 ≤ x4 ∧ x4 ≤ x7))) (h10 : ¬ x8 = 0) (h11 : x9 = 36) (h12 : x10 = x9 + x2) (h13 : x11 = 41) (h14 : x12 = x11 + x2) (h15 : 0 ≤ x13) (h16 : x13 ≤ 4) (h17 : 4 - x13 < ((x14 + 1 : Nat) : Int)) (h18 : x15 = 4) (h19 : x13 < x15) (h20 : 0 ≤ x16) (h21 : x16 ≤ 41) (h22 : 41 - x16 < ((x17 + 1 : Nat) : Int)) (h23 : x16 ≤ x5) (h24 : x18 = 4 * x3) (h25 : x19 = x18 + x13) (h26 : x20 = 41 * x19) (h27 : x21 = x20 + x16) (h28 : x0 = x16 + 1) : x0 ≤ 41 := by omega
theorem o36_469 {x0 x1 x2 x3 x4 x5 : Int} {x6 : Nat} (h0 : x1 = x2) (h1 : x3 = 0) (h2 : x4 = 20) (h3 : 0 ≤ x5) (h4 : x5 ≤ 1) (h5 : ((x5 = 0 ∧ (x1 < x3 ∨ x4 < x1)) ∨ (x5 = 1 ∧ x3 ≤ x1 ∧ x1 ≤ x4))) (h6 : ¬ x5 = 0) (h7 : 0 ≤ x0) (h8 : x0 ≤ 20) (h9 : 20 - x0 < ((x6 + 1 : Nat) : Int)) (h10 : x0 < x2) (h11 : -2147483648 ≤ x0) (h12 : x0 ≤ 2147483647) (h13 : -2147483648 ≤ x2) (h14 : x2 ≤ 2147483647) (h15 : -2147483648 ≤ x5) (h16 : x5 ≤ 2147483647) : -2147483648 ≤ x0 + 1 := by omega
theorem o36_470 {x0 x1 x2 x3 x4 x5 : Int} {x6 : Nat} (h0 : x1 = x2) (h1 : x3 = 0) (h2 : x4 = 20) (h3 : 0 ≤ x5) (h4 : x5 ≤ 1) (h5 : ((x5 = 0 ∧ (x1 < x3 ∨ x4 < x1)) ∨ (x5 = 1 ∧ x3 ≤ x1 ∧ x1 ≤ x4))) (h6 : ¬ x5 = 0) (h7 : 0 ≤ x0) (h8 : x0 ≤ 20) (h9 : 20 - x0 < ((x6 + 1 : Nat) : Int)) (h10 : x0 < x2) (h11 : -2147483648 ≤ x0) (h12 : x0 ≤ 2147483647) (h13 : -2147483648 ≤ x2) (h14 : x2 ≤ 2147483647) (h15 : -2147483648 ≤ x5) (h16 : x5 ≤ 2147483647) : x0 + 1 ≤ 2147483647 := by omega
theorem o36_471 {x0 x2 x3 x4 x5 x6 x7 : Int} {x1 : Nat} (h0 : x2 = x3) (h1 : x4 = 0) (h2 : x5 = 20) (h3 : 0 ≤ x6) (h4 : x6 ≤ 1) (h5 : ((x6 = 0 ∧ (x2 < x4 ∨ x5 < x2)) ∨ (x6 = 1 ∧ x4 ≤ x2 ∧ x2 ≤ x5))) (h6 : ¬ x6 = 0) (h7 : 0 ≤ x7) (h8 : x7 ≤ 20) (h9 : 20 - x7 < ((x1 + 1 : Nat) : Int)) (h10 : x7 < x3) (h11 : x0 = x7 + 1) : 20 - x0 < (x1 : Int) := by omega
theorem o36_472 {x0 x1 x2 x3 x4 x5 x6 : Int} {x7 : Nat} (h0 : x1 = x2) (h1 : x3 = 0) (h2 : x4 = 20) (h3 : 0 ≤ x5) (h4 : x5 ≤ 1) (h5 : ((x5 = 0 ∧ (x1 < x3 ∨ x4 < x1)) ∨ (x5 = 1 ∧ x3 ≤ x1 ∧ x1 ≤ x4))) (h6 : ¬ x5 = 0) (h7 : 0 ≤ x6) (h8 : x6 ≤ 20) (h9 : 20 - x6 < ((x7 + 1 : Nat) : Int)) (h10 : x6 < x2) (h11 : x0 = x6 + 1) : 0 ≤ x0 := by omega
theorem o36_473 {x0 x1 x2 x3 x4 x5 x6 : Int} {x7 : Nat} (h0 : x1 = x2) (h1 : x3 = 0) (h2 : x4 = 20) (h3 : 0 ≤ x5) (h4 : x5 ≤ 1) (h5 : ((x5 = 0 ∧ (x1 < x3 ∨ x4 < x1)) ∨ (x5 = 1 ∧ x3 ≤ x1 ∧ x1 ≤ x4))) (h6 : ¬ x5 = 0) (h7 : 0 ≤ x6) (h8 : x6 ≤ 20) (h9 : 20 - x6 < ((x7 + 1 : Nat) : Int)) (h10 : x6 < x2) (h11 : x0 = x6 + 1) : x0 ≤ 20 := by omega
theorem o36_474 {x0 x2 : Int} {x1 : Nat} (h0 : 0 ≤ x0) (h1 : x0 ≤ 4100) (h2 : 4100 - x0 < ((x1 + 1 : Nat) : Int)) (h3 : x2 = 4100) (h4 : x0 < x2) : 0 ≤ x0 := by omega
theorem o36_475 {x0 x2 : Int} {x1 : Nat} (h0 : 0 ≤ x0) (h1 : x0 ≤ 4100) (h2 : 4100 - x0 < ((x1 + 1 : Nat) : Int)) (h3 : x2 = 4100) (h4 : x0 < x2) : x0 < (4100 : Nat) := by omega
theorem o36_476 {x0 x2 : Int} {x1 : Nat} (h0 : 0 ≤ x0) (h1 : x0 ≤ 4100) (h2 : 4100 - x0 < ((x1 + 1 : Nat) : Int)) (h3 : x2 = 4100) (h4 : x0 < x2) (h5 : -2147483648 ≤ x0) (h6 : x0 ≤ 2147483647) (h7 : -2147483648 ≤ x2) (h8 : x2 ≤ 2147483647) : -2147483648 ≤ x0 + 1 := by omega
theorem o36_477 {x0 x2 : Int} {x1 : Nat} (h0 : 0 ≤ x0) (h1 : x0 ≤ 4100) (h2 : 4100 - x0 < ((x1 + 1 : Nat) : Int)) (h3 : x2 = 4100) (h4 : x0 < x2) (h5 : -2147483648 ≤ x0) (h6 : x0 ≤ 2147483647) (h7 : -2147483648 ≤ x2) (h8 : x2 ≤ 2147483647) : x0 + 1 ≤ 2147483647 := by omega
theorem o36_478 {x0 x2 x3 : Int} {x1 : Nat} (h0 : 0 ≤ x2) (h1 : x2 ≤ 4100) (h2 : 4100 - x2 < ((x1 + 1 : Nat) : Int)) (h3 : x3 = 4100) (h4 : x2 < x3) (h5 : x0 = x2 + 1) : 4100 - x0 < (x1 : Int) := by omega
theorem o36_479 {x0 x1 x3 : Int} {x2 : Nat} (h0 : 0 ≤ x1) (h1 : x1 ≤ 4100) (h2 : 4100 - x1 < ((x2 + 1 : Nat) : Int)) (h3 : x3 = 4100) (h4 : x1 < x3) (h5 : x0 = x1 + 1) : 0 ≤ x0 := by omega
theorem o36_480 {x0 x1 x3 : Int} {x2 : Nat} (h0 : 0 ≤ x1) (h1 : x1 ≤ 4100) (h2 : 4100 - x1 < ((x2 + 1 : Nat) : Int)) (h3 : x3 = 4100) (h4 : x1 < x3) (h5 : x0 = x1 + 1) : x0 ≤ 4100 := by omega
theorem o36_481 {x0 : Int} (h0 : x0 = 0) : 4100 - x0 < (((4100 - x0 + 1).toNat : Nat) : Int) := by omega
theorem o36_482 {x0 : Int} (h0 : x0 = 0) : x0 ≤ 4100 := by omega
theorem o36_483 {x0 x1 x2 x3 x4 x5 : Int} {x6 : Nat} (h0 : x1 = x2) (h1 : x3 = 0) (h2 : x4 = 20) (h3 : 0 ≤ x5) (h4 : x5 ≤ 1) (h5 : ((x5 = 0 ∧ (x1 < x3 ∨ x4 < x1)) ∨ (x5 = 1 ∧ x3 ≤ x1 ∧ x1 ≤ x4))) (h6 : ¬ x5 = 0) (h7 : 0 ≤ x0) (h8 : x0 ≤ 20) (h9 : 20 - x0 < ((x6 + 1 : Nat) : Int)) (h10 : x0 < x2) : 0 ≤ x0 := by omega
theorem o36_484 {x0 x1 x2 x3 x4 x5 : Int} {x6 : Nat} (h0 : x1 = x2) (h1 : x3 = 0) (h2 : x4 = 20) (h3 : 0 ≤ x5) (h4 : x5 ≤ 1) (h5 : ((x5 = 0 ∧ (x1 < x3 ∨ x4 < x1)) ∨ (x5 = 1 ∧ x3 ≤ x1 ∧ x1 ≤ x4))) (h6 : ¬ x5 = 0) (h7 : 0 ≤ x0) (h8 : x0 ≤ 20) (h9 : 20 - x0 < ((x6 + 1 : Nat) : Int)) (h10 : x0 < x2) : x0 ≤ 19 := by omega
theorem o36_485 {x0 x2 x3 : Int} {x1 : Nat} (h0 : 0 ≤ x0) (h1 : x0 ≤ 100) (h2 : 100 - x0 < ((x1 + 1 : Nat) : Int)) (h3 : 0 ≤ x2) (h4 : x2 ≤ 25) (h5 : x3 = 4 * x2) (h6 : x0 < x3) : 0 ≤ x0 := by omega
theorem o36_486 {x0 x2 x3 : Int} {x1 : Nat} (h0 : 0 ≤ x0) (h1 : x0 ≤ 100) (h2 : 100 - x0 < ((x1 + 1 : Nat) : Int)) (h3 : 0 ≤ x2) (h4 : x2 ≤ 25) (h5 : x3 = 4 * x2) (h6 : x0 < x3) : x0 ≤ 99 := by omega
theorem o36_487 {x0 x1 x2 x3 x4 : Int} (h0 : x1 = x0) (h1 : x2 = 0) (h2 : x3 = 40) (h3 : 0 ≤ x4) (h4 : x4 ≤ 1) (h5 : ((x4 = 0 ∧ (x1 < x2 ∨ x3 < x1)) ∨ (x4 = 1 ∧ x2 ≤ x1 ∧ x1 ≤ x3))) (h6 : ¬ x4 = 0) : 0 ≤ x0 := by omega
theorem o36_488 {x0 x1 x2 x3 x4 : Int} (h0 : x1 = x0) (h1 : x2 = 0) (h2 : x3 = 40) (h3 : 0 ≤ x4) (h4 : x4 ≤ 1) (h5 : ((x4 = 0 ∧ (x1 < x2 ∨ x3 < x1)) ∨ (x4 = 1 ∧ x2 ≤ x1 ∧ x1 ≤ x3))) (h6 : ¬ x4 = 0) : x0 ≤ 40 := by omega
theorem o36_489 {x0 x1 x2 x3 x4 x5 x6 : Int} (h0 : 0 ≤ x0) (h1 : x0 ≤ 1) (h2 : (x0 = 0 ∨ (0 ≤ x1 ∧ x1 ≤ 4 ∧ 0 ≤ x2 ∧ x2 ≤ 24))) (h3 : ¬ x0 = 0) (h4 : x3 = 36) (h5 : x4 = x3 + x1) (h6 : x5 = 41) (h7 : x6 = x5 + x1) : ¬ x0 = 0 := by omega
theorem o36_490 {x0 x2 x3 : Int} {x1 : Nat} (h0 : 0 ≤ x0) (h1 : x0 ≤ 100) (h2 : 100 - x0 < ((x1 + 1 : Nat) : Int)) (h3 : 0 ≤ x2) (h4 : x2 ≤ 25) (h5 : x3 = 4 * x2) (h6 : x0 < x3) (h7 : -2147483648 ≤ x0) (h8 : x0 ≤ 2147483647) (h9 : -2147483648 ≤ x2) (h10 : x2 ≤ 2147483647) (h11 : -2147483648 ≤ x3) (h12 : x3 ≤ 2147483647) : -2147483648 ≤ x0 + 1 := by omega
theorem o36_491 {x0 x2 x3 : Int} {x1 : Nat} (h0 : 0 ≤ x0) (h1 : x0 ≤ 100) (h2 : 100 - x0 < ((x1 + 1 : Nat) : Int)) (h3 : 0 ≤ x2) (h4 : x2 ≤ 25) (h5 : x3 = 4 * x2) (h6 : x0 < x3) (h7 : -2147483648 ≤ x0) (h8 : x0 ≤ 2147483647) (h9 : -2147483648 ≤ x2) (h10 : x2 ≤ 2147483647) (h11 : -2147483648 ≤ x3) (h12 : x3 ≤ 2147483647) : x0 + 1 ≤ 2147483647 := by omega
theorem o36_492 {x0 x2 x3 x4 : Int} {x1 : Nat} (h0 : 0 ≤ x2) (h1 : x2 ≤ 100) (h2 : 100 - x2 < ((x1 + 1 : Nat) : Int)) (h3 : 0 ≤ x3) (h4 : x3 ≤ 25) (h5 : x4 = 4 * x3) (h6 : x2 < x4) (h7 : x0 = x2 + 1) : 100 - x0 < (x1 : Int) := by omega
theorem o36_493 {x0 x1 x3 x4 : Int} {x2 : Nat} (h0 : 0 ≤ x1) (h1 : x1 ≤ 100) (h2 : 100 - x1 < ((x2 + 1 : Nat) : Int)) (h3 : 0 ≤ x3) (h4 : x3 ≤ 25) (h5 : x4 = 4 * x3) (h6 : x1 < x4) (h7 : x0 = x1 + 1) : 0 ≤ x0 := by omega
theorem o36_494 {x0 x1 x3 x4 : Int} {x2 : Nat} (h0 : 0 ≤ x1) (h1 : x1 ≤ 100) (h2 : 100 - x1 < ((x2 + 1 : Nat) : Int)) (h3 : 0 ≤ x3) (h4 : x3 ≤ 25) (h5 : x4 = 4 * x3) (h6 : x1 < x4) (h7 : x0 = x1 + 1) : x0 ≤ 100 := by omega
theorem o36_495 {x0 : Int} (h0 : x0 = 0) : 20 - x0 < (((20 - x0 + 1).toNat : Nat) : Int) := by omega
theorem o36_496 {x0 : Int} (h0 : x0 = 0) : x0 ≤ 20 := by omega
theorem o36_497 {x0 x1 x2 : Int} (h0 : x1 = x0) (h1 : 0 ≤ x2) (h2 : x2 ≤ 1) (h3 : (x2 = 0 ∨ (0 ≤ x1 ∧ x1 ≤ 4))) (h4 : ¬ x2 = 0) : 0 ≤ x0 := by omega
theorem o36_498 {x0 x1 x2 : Int} (h0 : x1 = x0) (h1 : 0 ≤ x2) (h2 : x2 ≤ 1) (h3 : (x2 = 0 ∨ (0 ≤ x1 ∧ x1 ≤ 4))) (h4 : ¬ x2 = 0) : x0 ≤ 4 := by omega
theorem o36_499 {x0 x1 x2 : Int} (h0 : x1 = x2) (h1 : 0 ≤ x0) (h2 : x0 ≤ 1) (h3 : (x0 = 0 ∨ (0 ≤ x1 ∧ x1 ≤ 4))) (h4 : ¬ x0 = 0) : ¬ x0 = 0 := by omega
theorem o36_500 {x0 x2 : Int} {x1 : Nat} (h0 : 0 ≤ x0) (h1 : x0 ≤ 25) (h2 : 25 - x0 < ((x1 + 1 : Nat) : Int)) (h3 : 0 ≤ x2) (h4 : x2 ≤ 25) (h5 : x0 < x2) : 0 ≤ x0 := by omega
theorem o36_501 {x0 x2 : Int} {x1 : Nat} (h0 : 0 ≤ x0) (h1 : x0 ≤ 25) (h2 : 25 - x0 < ((x1 + 1 : Nat) : Int)) (h3 : 0 ≤ x2) (h4 : x2 ≤ 25) (h5 : x0 < x2) : x0 ≤ 24 := by omega
theorem o36_502 {x0 x2 : Int} {x1 : Nat} (h0 : 0 ≤ x0) (h1 : x0 ≤ 25) (h2 : 25 - x0 < ((x1 + 1 : Nat) : Int)) (h3 : 0 ≤ x2) (h4 : x2 ≤ 25) (h5 : x0 < x2) (h6 : -2147483648 ≤ x0) (h7 : x0 ≤ 2147483647) (h8 : -2147483648 ≤ x2) (h9 : x2 ≤ 2147483647) : -2147483648 ≤ x0 + 1 := by omega
theorem o36_503 {x0 x2 : Int} {x1 : Nat} (h0 : 0 ≤ x0) (h1 : x0 ≤ 25) (h2 : 25 - x0 < ((x1 + 1 : Nat) : Int)) (h3 : 0 ≤ x2) (h4 : x2 ≤ 25) (h5 : x0 < x2) (h6 : -2147483648 ≤ x0) (h7 : x0 ≤ 2147483647) (h8 : -2147483648 ≤ x2) (h9 : x2 ≤ 2147483647) : x0 + 1 ≤ 2147483647 := by omega
theorem o36_504 {x0 x2 x3 : Int} {x1 : Nat} (h0 : 0 ≤ x2) (h1 : x2 ≤ 25) (h2 : 25 - x2 < ((x1 + 1 : Nat) : Int)) (h3 : 0 ≤ x3) (h4 : x3 ≤ 25) (h5 : x2 < x3) (h6 : x0 = x2 + 1) : 25 - x0 < (x1 : Int) := by omega
theorem o36_505 {x0 x1 x3 : Int} {x2 : Nat} (h0 : 0 ≤ x1) (h1 : x1 ≤ 25) (h2 : 25 - x1 < ((x2 + 1 : Nat) : Int)) (h3 : 0 ≤ x3) (h4 : x3 ≤ 25) (h5 : x1 < x3) (h6 : x0 = x1 + 1) : 0 ≤ x0 := by omega
theorem o36_506 {x0 x1 x3 : Int} {x2 : Nat} (h0 : 0 ≤ x1) (h1 : x1 ≤ 25) (h2 : 25 - x1 < ((x2 + 1 : Nat) : Int)) (h3 : 0 ≤ x3) (h4 : x3 ≤ 25) (h5 : x1 < x3) (h6 : x0 = x1 + 1) : x0 ≤ 25 := by omega
theorem o36_507 {x0 : Int} (h0 : 0 ≤ x0) : (-2) ≤ x0 := by omega
theorem o36_508 {x0 : Int} (h0 : 0 ≤ x0) : 0 ≤ x0 := by omega
theorem o36_509 {x0 x1 x2 : Int} (h0 : 0 ≤ x0) (h1 : x1 = 1000000000) (h2 : ¬ x2 = x1) (h3 : x2 ≤ x0) : 0 ≤ x0 := by omega
theorem o36_510 {x0 x1 x2 : Int} (h0 : 0 ≤ x1) (h1 : x2 = 1000000000) (h2 : ¬ x0 = x2) (h3 : x1 < x0) : 0 ≤ x0 := by omega
theorem o36_511 {x0 : Int} (h0 : x0 = (-2)) : (-2) ≤ x0 := by omega
theorem o36_512 {x0 x1 : Int} (h0 : 0 ≤ x1) (h1 : x1 ≤ 1) (h2 : (x1 = 0 ∨ (0 ≤ x0 ∧ x0 ≤ 3))) (h3 : ¬ x1 = 0) : 0 ≤ x0 := by omega
theorem o36_513 {x0 x1 : Int} (h0 : 0 ≤ x1) (h1 : x1 ≤ 1) (h2 : (x1 = 0 ∨ (0 ≤ x0 ∧ x0 ≤ 3))) (h3 : ¬ x1 = 0) : x0 ≤ 3 := by omega
theorem o36_514 {x0 : Int} (h0 : x0 = 2) : 0 ≤ x0 := by omega
theorem o36_515 {x0 : Int} (h0 : x0 = 2) : x0 ≤ 3 := by omega
theorem o36_516 {x0 x1 x2 : Int} (h0 : x1 = x0) (h1 : 0 ≤ x2) (h2 : x2 ≤ 1) (h3 : (x2 = 0 ∨ (0 ≤ x1 ∧ x1 ≤ 24))) (h4 : ¬ x2 = 0) : 0 ≤ x0 := by omega
theorem o36_517 {x0 x1 x2 : Int} (h0 : x1 = x0) (h1 : 0 ≤ x2) (h2 : x2 ≤ 1) (h3 : (x2 = 0 ∨ (0 ≤ x1 ∧ x1 ≤ 24))) (h4 : ¬ x2 = 0) : x0 ≤ 24 := by omega
theorem o36_518 {x0 x1 x2 : Int} (h0 : x1 = x2) (h1 : 0 ≤ x0) (h2 : x0 ≤ 1) (h3 : (x0 = 0 ∨ (0 ≤ x1 ∧ x1 ≤ 24))) (h4 : ¬ x0 = 0) : ¬ x0 = 0 := by omega
theorem o36_519 {x0 : Int} (h0 : 1 ≤ x0) (h1 : x0 ≤ 61) (h2 : 61 - x0 < 0) : False := by omega
theorem o36_520 {x0 : Int} (h0 : x0 = (-1)) : (-2) ≤ x0 := by omega
theorem o36_521 {x0 x2 : Int} {x1 : Nat} (h0 : 1 ≤ x0) (h1 : x0 ≤ 61) (h2 : 61 - x0 < ((x1 + 1 : Nat) : Int)) (h3 : x2 = 60) (h4 : x0 ≤ x2) (h5 : -2147483648 ≤ x0) (h6 : x0 ≤ 2147483647) (h7 : -2147483648 ≤ x2) (h8 : x2 ≤ 2147483647) : -2147483648 ≤ x0 + 1 := by omega
theorem o36_522 {x0 x2 : Int} {x1 : Nat} (h0 : 1 ≤ x0) (h1 : x0 ≤ 61) (h2 : 61 - x0 < ((x1 + 1 : Nat) : Int)) (h3 : x2 = 60) (h4 : x0 ≤ x2) (h5 : -2147483648 ≤ x0) (h6 : x0 ≤ 2147483647) (h7 : -2147483648 ≤ x2) (h8 : x2 ≤ 2147483647) : x0 + 1 ≤ 2147483647 := by omega
theorem o36_523 {x0 x2 x3 : Int} {x1 : Nat} (h0 : 1 ≤ x2) (h1 : x2 ≤ 61) (h2 : 61 - x2 < ((x1 + 1 : Nat) : Int)) (h3 : x3 = 60) (h4 : x2 ≤ x3) (h5 : x0 = x2 + 1) : 61 - x0 < (x1 : Int) := by omega
theorem o36_524 {x0 x1 x3 : Int} {x2 : Nat} (h0 : 1 ≤ x1) (h1 : x1 ≤ 61) (h2 : 61 - x1 < ((x2 + 1 : Nat) : Int)) (h3 : x3 = 60) (h4 : x1 ≤ x3) (h5 : x0 = x1 + 1) : 1 ≤ x0 := by omega
theorem o36_525 {x0 x1 x3 : Int} {x2 : Nat} (h0 : 1 ≤ x1) (h1 : x1 ≤ 61) (h2 : 61 - x1 < ((x2 + 1 : Nat) : Int)) (h3 : x3 = 60) (h4 : x1 ≤ x3) (h5 : x0 = x1 + 1) : x0 ≤ 61 := by omega
theorem o36_526 {x0 x1 : Int} (h0 : (-1) ≤ x0) (h1 : x0 ≤ 24) (h2 : x1 = (-1)) (h3 : ¬ x0 = x1) (h4 : -2147483648 ≤ x0) (h5 : x0 ≤ 2147483647) (h6 : -2147483648 ≤ x1) (h7 : x1 ≤ 2147483647) : -2147483648 ≤ 4 * x0 := by omega
theorem o36_527 {x0 x1 : Int} (h0 : (-1) ≤ x0) (h1 : x0 ≤ 24) (h2 : x1 = (-1)) (h3 : ¬ x0 = x1) (h4 : -2147483648 ≤ x0) (h5 : x0 ≤ 2147483647) (h6 : -2147483648 ≤ x1) (h7 : x1 ≤ 2147483647) : 4 * x0 ≤ 2147483647 := by omega
theorem o36_528 {x0 x1 x2 x3 x5 : Int} {x4 : Nat} (h0 : (-1) ≤ x2) (h1 : x2 ≤ 24) (h2 : x3 = (-1)) (h3 : ¬ x2 = x3) (h4 : 0 ≤ x1) (h5 : x1 ≤ 4) (h6 : 4 - x1 < ((x4 + 1 : Nat) : Int)) (h7 : x5 = 4) (h8 : x1 < x5) (h9 : x0 = 4 * x2) (h10 : -2147483648 ≤ x0) (h11 : x0 ≤ 2147483647) (h12 : -2147483648 ≤ x1) (h13 : x1 ≤ 2147483647) (h14 : -2147483648 ≤ x2) (h15 : x2 ≤ 2147483647) (h16 : -2147483648 ≤ x3) (h17 : x3 ≤ 2147483647) (h18 : -2147483648 ≤ x5) (h19 : x5 ≤ 2147483647) : -2147483648 ≤ x0 + x1 := by omega
theorem o36_529 {x0 x1 x2 x3 x5 : Int} {x4 : Nat} (h0 : (-1) ≤ x2) (h1 : x2 ≤ 24) (h2 : x3 = (-1)) (h3 : ¬ x2 = x3) (h4 : 0 ≤ x1) (h5 : x1 ≤ 4) (h6 : 4 - x1 < ((x4 + 1 : Nat) : Int)) (h7 : x5 = 4) (h8 : x1 < x5) (h9 : x0 = 4 * x2) (h10 : -2147483648 ≤ x0) (h11 : x0 ≤ 2147483647) (h12 : -2147483648 ≤ x1) (h13 : x1 ≤ 2147483647) (h14 : -2147483648 ≤ x2) (h15 : x2 ≤ 2147483647) (h16 : -2147483648 ≤ x3) (h17 : x3 ≤ 2147483647) (h18 : -2147483648 ≤ x5) (h19 : x5 ≤ 2147483647) : x0 + x1 ≤ 2147483647 := by omega
theorem o36_530 {x0 x1 x2 x3 x5 x6 : Int} {x4 : Nat} (h0 : (-1) ≤ x1) (h1 : x1 ≤ 24) (h2 : x2 = (-1)) (h3 : ¬ x1 = x2) (h4 : 0 ≤ x3) (h5 : x3 ≤ 4) (h6 : 4 - x3 < ((x4 + 1 : Nat) : Int)) (h7 : x5 = 4) (h8 : x3 < x5) (h9 : x6 = 4 * x1) (h10 : x0 = x6 + x3) : 0 ≤ x0 := by omega
theorem o36_531 {x0 x1 x2 x3 x5 x6 : Int} {x4 : Nat} (h0 : (-1) ≤ x1) (h1 : x1 ≤ 24) (h2 : x2 = (-1)) (h3 : ¬ x1 = x2) (h4 : 0 ≤ x3) (h5 : x3 ≤ 4) (h6 : 4 - x3 < ((x4 + 1 : Nat) : Int)) (h7 : x5 = 4) (h8 : x3 < x5) (h9 : x6 = 4 * x1) (h10 : x0 = x6 + x3) : x0 < (100 : Nat) := by omega
theorem o36_532 {x0 x1 x2 x4 x5 x6 : Int} {x3 : Nat} (h0 : (-1) ≤ x1) (h1 : x1 ≤ 24) (h2 : x2 = (-1)) (h3 : ¬ x1 = x2) (h4 : 0 ≤ x0) (h5 : x0 ≤ 4) (h6 : 4 - x0 < ((x3 + 1 : Nat) : Int)) (h7 : x4 = 4) (h8 : x0 < x4) (h9 : x5 = 4 * x1) (h10 : x6 = x5 + x0) (h11 : -2147483648 ≤ x0) (h12 : x0 ≤ 2147483647) (h13 : -2147483648 ≤ x1) (h14 : x1 ≤ 2147483647) (h15 : -2147483648 ≤ x2) (h16 : x2 ≤ 2147483647) (h17 : -2147483648 ≤ x4) (h18 : x4 ≤ 2147483647) (h19 : -2147483648 ≤ x5) (h20 : x5 ≤ 2147483647) (h21 : -2147483648 ≤ x6) (h22 : x6 ≤ 2147483647) : -2147483648 ≤ x0 + 1 := by omega
theorem o36_533 {x0 x1 x2 x4 x5 x6 : Int} {x3 : Nat} (h0 : (-1) ≤ x1) (h1 : x1 ≤ 24) (h2 : x2 = (-1)) (h3 : ¬ x1 = x2) (h4 : 0 ≤ x0) (h5 : x0 ≤ 4) (h6 : 4 - x0 < ((x3 + 1 : Nat) : Int)) (h7 : x4 = 4) (h8 : x0 < x4) (h9 : x5 = 4 * x1) (h10 : x6 = x5 + x0) (h11 : -2147483648 ≤ x0) (h12 : x0 ≤ 2147483647) (h13 : -2147483648 ≤ x1) (h14 : x1 ≤ 2147483647) (h15 : -2147483648 ≤ x2) (h16 : x2 ≤ 2147483647) (h17 : -2147483648 ≤ x4) (h18 : x4 ≤ 2147483647) (h19 : -2147483648 ≤ x5) (h20 : x5 ≤ 2147483647) (h21 : -2147483648 ≤ x6) (h22 : x6 ≤ 2147483647) : x0 + 1 ≤ 2147483647 := by omega
theorem o36_534 {x0 x2 x3 x4 x5 x6 x7 : Int} {x1 : Nat} (h0 : (-1) ≤ x2) (h1 : x2 ≤ 24) (h2 : x3 = (-1)) (h3 : ¬ x2 = x3) (h4 : 0 ≤ x4) (h5 : x4 ≤ 4) (h6 : 4 - x4 < ((x1 + 1 : Nat) : Int)) (h7 : x5 = 4) (h8 : x4 < x5) (h9 : x6 = 4 * x2) (h10 : x7 = x6 + x4) (h11 : x0 = x4 + 1) : 4 - x0 < (x1 : Int) := by omega
theorem o36_535 {x0 x1 x2 x3 x5 x6 x7 : Int} {x4 : Nat} (h0 : (-1) ≤ x1) (h1 : x1 ≤ 24) (h2 : x2 = (-1)) (h3 : ¬ x1 = x2) (h4 : 0 ≤ x3) (h5 : x3 ≤ 4) (h6 : 4 - x3 < ((x4 + 1 : Nat) : Int)) (h7 : x5 = 4) (h8 : x3 < x5) (h9 : x6 = 4 * x1) (h10 : x7 = x6 + x3) (h11 : x0 = x3 + 1) : 0 ≤ x0 := by omega
theorem o36_536 {x0 x1 x2 x3 x5 x6 x7 : Int} {x4 : Nat} (h0 : (-1) ≤ x1) (h1 : x1 ≤ 24) (h2 : x2 = (-1)) (h3 : ¬ x1 = x2) (h4 : 0 ≤ x3) (h5 : x3 ≤ 4) (h6 : 4 - x3 < ((x4 + 1 : Nat) : Int)) (h7 : x5 = 4) (h8 : x3 < x5) (h9 : x6 = 4 * x1) (h10 : x7 = x6 + x3) (h11 : x0 = x3 + 1) : x0 ≤ 4 := by omega
theorem o36_537 {x0 x2 : Int} {x1 : Nat} (h0 : 1 ≤ x0) (h1 : x0 ≤ 61) (h2 : 61 - x0 < ((x1 + 1 : Nat) : Int)) (h3 : x2 = 60) (h4 : x0 ≤ x2) : (-2) ≤ x0 := by omega
theorem o36_538 {x0 x2 : Int} {x1 : Nat} (h0 : 1 ≤ x0) (h1 : x0 ≤ 61) (h2 : 61 - x0 < ((x1 + 1 : Nat) : Int)) (h3 : x2 = 60) (h4 : x0 ≤ x2) : x0 ≤ 60 := by omega
theorem o36_539 {x0 x2 : Int} {x1 : Nat} (h0 : 0 ≤ x0) (h1 : x0 ≤ 100) (h2 : 100 - x0 < ((x1 + 1 : Nat) : Int)) (h3 : x2 = 100) (h4 : x0 < x2) : 0 ≤ x0 := by omega
theorem o36_540 {x0 x2 : Int} {x1 : Nat} (h0 : 0 ≤ x0) (h1 : x0 ≤ 100) (h2 : 100 - x0 < ((x1 + 1 : Nat) : Int)) (h3 : x2 = 100) (h4 : x0 < x2) : x0 < (100 : Nat) := by omega
theorem o36_541 {x0 x2 : Int} {x1 : Nat} (h0 : 0 ≤ x0) (h1 : x0 ≤ 100) (h2 : 100 - x0 < ((x1 + 1 : Nat) : Int)) (h3 : x2 = 100) (h4 : x0 < x2) (h5 : -2147483648 ≤ x0) (h6 : x0 ≤ 2147483647) (h7 : -2147483648 ≤ x2) (h8 : x2 ≤ 2147483647) : -2147483648 ≤ x0 + 1 := by omega
theorem o36_542 {x0 x2 : Int} {x1 : Nat} (h0 : 0 ≤ x0) (h1 : x0 ≤ 100) (h2 : 100 - x0 < ((x1 + 1 : Nat) : Int)) (h3 : x2 = 100) (h4 : x0 < x2) (h5 : -2147483648 ≤ x0) (h6 : x0 ≤ 2147483647) (h7 : -2147483648 ≤ x2) (h8 : x2 ≤ 2147483647) : x0 + 1 ≤ 2147483647 := by omega
theorem o36_543 {x0 x2 x3 : Int} {x1 : Nat} (h0 : 0 ≤ x2) (h1 : x2 ≤ 100) (h2 : 100 - x2 < ((x1 + 1 : Nat) : Int)) (h3 : x3 = 100) (h4 : x2 < x3) (h5 : x0 = x2 + 1) : 100 - x0 < (x1 : Int) := by omega
theorem o36_544 {x0 x1 x3 : Int} {x2 : Nat} (h0 : 0 ≤ x1) (h1 : x1 ≤ 100) (h2 : 100 - x1 < ((x2 + 1 : Nat) : Int)) (h3 : x3 = 100) (h4 : x1 < x3) (h5 : x0 = x1 + 1) : 0 ≤ x0 := by omega
theorem o36_545 {x0 x1 x3 : Int} {x2 : Nat} (h0 : 0 ≤ x1) (h1 : x1 ≤ 100) (h2 : 100 - x1 < ((x2 + 1 : Nat) : Int)) (h3 : x3 = 100) (h4 : x1 < x3) (h5 : x0 = x1 + 1) : x0 ≤ 100 := by omega
theorem o36_546 {x0 : Int} (h0 : 0 ≤ x0) (h1 : x0 ≤ 2) (h2 : 2 - x0 < 0) : False := by omega
theorem o36_547 {x0 x2 x3 : Int} {x1 : Nat} (h0 : 0 ≤ x0) (h1 : x0 ≤ 100) (h2 : 100 - x0 < ((x1 + 1 : Nat) : Int)) (h3 : 0 ≤ x2) (h4 : x2 ≤ 25) (h5 : x3 = 4 * x2) (h6 : x0 < x3) : x0 < (100 : Nat) := by omega
theorem o36_548 {x0 x1 x3 x4 : Int} {x2 : Nat} (h0 : 0 ≤ x1) (h1 : x1 ≤ 100) (h2 : 100 - x1 < ((x2 + 1 : Nat) : Int)) (h3 : 0 ≤ x3) (h4 : x3 ≤ 25) (h5 : x4 = 4 * x3) (h6 : x1 < x4) (h7 : x0 = x1 % 4) : 0 ≤ x0 := by omega
theorem o36_549 {x0 x1 x3 x4 : Int} {x2 : Nat} (h0 : 0 ≤ x1) (h1 : x1 ≤ 100) (h2 : 100 - x1 < ((x2 + 1 : Nat) : Int)) (h3 : 0 ≤ x3) (h4 : x3 ≤ 25) (h5 : x4 = 4 * x3) (h6 : x1 < x4) (h7 : x0 = x1 % 4) : x0 ≤ 3 := by omega
theorem o36_550 {x0 x2 : Int} {x1 : Nat} (h0 : 0 ≤ x0) (h1 : x0 ≤ 2) (h2 : 2 - x0 < ((x1 + 1 : Nat) : Int)) (h3 : x2 = 2) (h4 : x0 < x2) : 0 ≤ x0 := by omega
theorem o36_551 {x0 x2 : Int} {x1 : Nat} (h0 : 0 ≤ x0) (h1 : x0 ≤ 2) (h2 : 2 - x0 < ((x1 + 1 : Nat) : Int)) (h3 : x2 = 2) (h4 : x0 < x2) : x0 ≤ 3 := by omega
theorem o36_552 {x0 x2 x3 x4 : Int} {x1 : Nat} (h0 : 0 ≤ x0) (h1 : x0 ≤ 100) (h2 : 100 - x0 < ((x1 + 1 : Nat) : Int)) (h3 : 0 ≤ x2) (h4 : x2 ≤ 25) (h5 : x3 = 4 * x2) (h6 : x0 < x3) (h7 : x4 = x0 % 4) : 0 ≤ x0 := by omega
theorem o36_553 {x0 x1 x3 x4 x5 : Int} {x2 : Nat} (h0 : 0 ≤ x1) (h1 : x1 ≤ 100) (h2 : 100 - x1 < ((x2 + 1 : Nat) : Int)) (h3 : 0 ≤ x3) (h4 : x3 ≤ 25) (h5 : x4 = 4 * x3) (h6 : x1 < x4) (h7 : x5 = x1 % 4) (h8 : x0 = x1 / 4) : 0 ≤ x0 := by omega
theorem o36_554 {x0 x1 x3 x4 x5 : Int} {x2 : Nat} (h0 : 0 ≤ x1) (h1 : x1 ≤ 100) (h2 : 100 - x1 < ((x2 + 1 : Nat) : Int)) (h3 : 0 ≤ x3) (h4 : x3 ≤ 25) (h5 : x4 = 4 * x3) (h6 : x1 < x4) (h7 : x5 = x1 % 4) (h8 : x0 = x1 / 4) : x0 ≤ 24 := by omega
theorem o36_555 {x0 x2 : Int} {x1 : Nat} (h0 : 0 ≤ x0) (h1 : x0 ≤ 2) (h2 : 2 - x0 < ((x1 + 1 : Nat) : Int)) (h3 : x2 = 2) (h4 : x0 < x2) (h5 : -2147483648 ≤ x0) (h6 : x0 ≤ 2147483647) (h7 : -2147483648 ≤ x2) (h8 : x2 ≤ 2147483647) : -2147483648 ≤ x0 + 1 := by omega
theorem o36_556 {x0 x2 : Int} {x1 : Nat} (h0 : 0 ≤ x0) (h1 : x0 ≤ 2) (h2 : 2 - x0 < ((x1 + 1 : Nat) : Int)) (h3 : x2 = 2) (h4 : x0 < x2) (h5 : -2147483648 ≤ x0) (h6 : x0 ≤ 2147483647) (h7 : -2147483648 ≤ x2) (h8 : x2 ≤ 2147483647) : x0 + 1 ≤ 2147483647 := by omega
theorem o36_557 {x0 x2 x3 : Int} {x1 : Nat} (h0 : 0 ≤ x2) (h1 : x2 ≤ 2) (h2 : 2 - x2 < ((x1 + 1 : Nat) : Int)) (h3 : x3 = 2) (h4 : x2 < x3) (h5 : x0 = x2 + 1) : 2 - x0 < (x1 : Int) := by omega
theorem o36_558 {x0 x1 x3 : Int} {x2 : Nat} (h0 : 0 ≤ x1) (h1 : x1 ≤ 2) (h2 : 2 - x1 < ((x2 + 1 : Nat) : Int)) (h3 : x3 = 2) (h4 : x1 < x3) (h5 : x0 = x1 + 1) : 0 ≤ x0 := by omega
theorem o36_559 {x0 x1 x3 : Int} {x2 : Nat} (h0 : 0 ≤ x1) (h1 : x1 ≤ 2) (h2 : 2 - x1 < ((x2 + 1 : Nat) : Int)) (h3 : x3 = 2) (h4 : x1 < x3) (h5 : x0 = x1 + 1) : x0 ≤ 2 := by omega
theorem o36_560 {x0 x1 x2 x3 : Int} (h0 : 0 ≤ x1) (h1 : x1 ≤ 3) (h2 : (-1) ≤ x2) (h3 : x2 ≤ 24) (h4 : x3 = (-1)) (h5 : ¬ x2 = x3) (h6 : x0 = 4 * x2) (h7 : -2147483648 ≤ x0) (h8 : x0 ≤ 2147483647) (h9 : -2147483648 ≤ x1) (h10 : x1 ≤ 2147483647) (h11 : -2147483648 ≤ x2) (h12 : x2 ≤ 2147483647) (h13 : -2147483648 ≤ x3) (h14 : x3 ≤ 2147483647) : -2147483648 ≤ x0 + x1 := by omega
theorem o36_561 {x0 x1 x2 x3 : Int} (h0 : 0 ≤ x1) (h1 : x1 ≤ 3) (h2 : (-1) ≤ x2) (h3 : x2 ≤ 24) (h4 : x3 = (-1)) (h5 : ¬ x2 = x3) (h6 : x0 = 4 * x2) (h7 : -2147483648 ≤ x0) (h8 : x0 ≤ 2147483647) (h9 : -2147483648 ≤ x1) (h10 : x1 ≤ 2147483647) (h11 : -2147483648 ≤ x2) (h12 : x2 ≤ 2147483647) (h13 : -2147483648 ≤ x3) (h14 : x3 ≤ 2147483647) : x0 + x1 ≤ 2147483647 := by omega
theorem o36_562 {x0 x1 x2 x3 x4 : Int} (h0 : 0 ≤ x1) (h1 : x1 ≤ 3) (h2 : (-1) ≤ x2) (h3 : x2 ≤ 24) (h4 : x3 = (-1)) (h5 : ¬ x2 = x3) (h6 : x4 = 4 * x2) (h7 : x0 = x4 + x1) : 0 ≤ x0 := by omega
theorem o36_563 {x0 x1 x2 x3 x4 : Int} (h0 : 0 ≤ x1) (h1 : x1 ≤ 3) (h2 : (-1) ≤ x2) (h3 : x2 ≤ 24) (h4 : x3 = (-1)) (h5 : ¬ x2 = x3) (h6 : x4 = 4 * x2) (h7 : x0 = x4 + x1) : x0 < (100 : Nat) := by omega
theorem o36_564 {x0 : Int} (h0 : x0 = 0) : 2 - x0 < (((2 - x0 + 1).toNat : Nat) : Int) := by omega
theorem o36_565 {x0 : Int} (h0 : x0 = 0) : x0 ≤ 2 := by omega
theorem o36_566 {x0 : Int} (h0 : x0 = 1) : 61 - x0 < (((61 - x0 + 1).toNat : Nat) : Int) := by omega
theorem o36_567 {x0 : Int} (h0 : x0 = 1) : 1 ≤ x0 := by omega
theorem o36_568 {x0 : Int} (h0 : x0 = 1) : x0 ≤ 61 := by omega
theorem o36_569 {x0 x1 x2 : Int} (h0 : x1 = x0) (h1 : 0 ≤ x2) (h2 : x2 ≤ 1) (h3 : (x2 = 0 ∨ (0 ≤ x1 ∧ x1 ≤ 24))) (h4 : ¬ x2 = 0) (h5 : -2147483648 ≤ x0) (h6 : x0 ≤ 2147483647) (h7 : -2147483648 ≤ x2) (h8 : x2 ≤ 2147483647) : -2147483648 ≤ 4 * x0 := by omega
theorem o36_570 {x0 x1 x2 : Int} (h0 : x1 = x0) (h1 : 0 ≤ x2) (h2 : x2 ≤ 1) (h3 : (x2 = 0 ∨ (0 ≤ x1 ∧ x1 ≤ 24))) (h4 : ¬ x2 = 0) (h5 : -2147483648 ≤ x0) (h6 : x0 ≤ 2147483647) (h7 : -2147483648 ≤ x2) (h8 : x2 ≤ 2147483647) : 4 * x0 ≤ 2147483647 := by omega
theorem o36_571 {x0 x1 x2 x3 x4 x5 : Int} (h0 : x2 = x3) (h1 : 0 ≤ x4) (h2 : x4 ≤ 1) (h3 : (x4 = 0 ∨ (0 ≤ x2 ∧ x2 ≤ 24))) (h4 : ¬ x4 = 0) (h5 : 0 ≤ x5) (h6 : x5 ≤ 1) (h7 : (x5 = 0 ∨ (0 ≤ x1 ∧ x1 ≤ 3))) (h8 : ¬ x5 = 0) (h9 : x0 = 4 * x3) (h10 : -2147483648 ≤ x0) (h11 : x0 ≤ 2147483647) (h12 : -2147483648 ≤ x1) (h13 : x1 ≤ 2147483647) (h14 : -2147483648 ≤ x3) (h15 : x3 ≤ 2147483647) (h16 : -2147483648 ≤ x4) (h17 : x4 ≤ 2147483647) (h18 : -2147483648 ≤ x5) (h19 : x5 ≤ 2147483647) : -2147483648 ≤ x0 + x1 := by omega
theorem o36_572 {x0 x1 x2 x3 x4 x5 : Int} (h0 : x2 = x3) (h1 : 0 ≤ x4) (h2 : x4 ≤ 1) (h3 : (x4 = 0 ∨ (0 ≤ x2 ∧ x2 ≤ 24))) (h4 : ¬ x4 = 0) (h5 : 0 ≤ x5) (h6 : x5 ≤ 1) (h7 : (x5 = 0 ∨ (0 ≤ x1 ∧ x1 ≤ 3))) (h8 : ¬ x5 = 0) (h9 : x0 = 4 * x3) (h10 : -2147483648 ≤ x0) (h11 : x0 ≤ 2147483647) (h12 : -2147483648 ≤ x1) (h13 : x1 ≤ 2147483647) (h14 : -2147483648 ≤ x3) (h15 : x3 ≤ 2147483647) (h16 : -2147483648 ≤ x4) (h17 : x4 ≤ 2147483647) (h18 : -2147483648 ≤ x5) (h19 : x5 ≤ 2147483647) : x0 + x1 ≤ 2147483647 := by omega
theorem o36_573 {x0 x1 x2 x3 x4 x5 x7 x8 x9 : Int} {x6 : Nat} (h0 : x1 = x2) (h1 : 0 ≤ x3) (h2 : x3 ≤ 1) (h3 : (x3 = 0 ∨ (0 ≤ x1 ∧ x1 ≤ 24))) (h4 : ¬ x3 = 0) (h5 : 0 ≤ x4) (h6 : x4 ≤ 1) (h7 : (x4 = 0 ∨ (0 ≤ x5 ∧ x5 ≤ 3))) (h8 : ¬ x4 = 0) (h9 : 0 ≤ x0) (h10 : x0 ≤ 100) (h11 : 100 - x0 < ((x6 + 1 : Nat) : Int)) (h12 : x7 = 100) (h13 : x0 < x7) (h14 : x8 = 4 * x2) (h15 : x9 = x8 + x5) (h16 : ¬ x0 = x9) : 0 ≤ x0 := by omega
theorem o36_574 {x0 x1 x2 x3 x4 x5 x7 x8 x9 : Int} {x6 : Nat} (h0 : x1 = x2) (h1 : 0 ≤ x3) (h2 : x3 ≤ 1) (h3 : (x3 = 0 ∨ (0 ≤ x1 ∧ x1 ≤ 24))) (h4 : ¬ x3 = 0) (h5 : 0 ≤ x4) (h6 : x4 ≤ 1) (h7 : (x4 = 0 ∨ (0 ≤ x5 ∧ x5 ≤ 3))) (h8 : ¬ x4 = 0) (h9 : 0 ≤ x0) (h10 : x0 ≤ 100) (h11 : 100 - x0 < ((x6 + 1 : Nat) : Int)) (h12 : x7 = 100) (h13 : x0 < x7) (h14 : x8 = 4 * x2) (h15 : x9 = x8 + x5) (h16 : ¬ x0 = x9) : x0 < (100 : Nat) := by omega
theorem o36_575 {x0 x1 x2 x3 x4 x5 x7 x8 x9 : Int} {x6 : Nat} (h0 : x1 = x2) (h1 : 0 ≤ x3) (h2 : x3 ≤ 1) (h3 : (x3 = 0 ∨ (0 ≤ x1 ∧ x1 ≤ 24))) (h4 : ¬ x3 = 0) (h5 : 0 ≤ x4) (h6 : x4 ≤ 1) (h7 : (x4 = 0 ∨ (0 ≤ x5 ∧ x5 ≤ 3))) (h8 : ¬ x4 = 0) (h9 : 0 ≤ x0) (h10 : x0 ≤ 100) (h11 : 100 - x0 < ((x6 + 1 : Nat) : Int)) (h12 : x7 = 100) (h13 : x0 < x7) (h14 : x8 = 4 * x2) (h15 : x9 = x8 + x5) (h16 : ¬ x0 = x9) (h17 : -2147483648 ≤ x0) (h18 : x0 ≤ 2147483647) (h19 : -2147483648 ≤ x2) (h20 : x2 ≤ 2147483647) (h21 : -2147483648 ≤ x3) (h22 : x3 ≤ 2147483647) (h23 : -2147483648 ≤ x4) (h24 : x4 ≤ 2147483647) (h25 : -2147483648 ≤ x5) (h26 : x5 ≤ 2147483647) (h27 : -2147483648 ≤ x7) (h28 : x7 ≤ 2147483647) (h29 : -2147483648 ≤ x8) (h30 : x8 ≤ 2147483647) (h31 : -2147483648 ≤ x9) (h32 : x9 ≤ 2147483647) : -2147483648 ≤ x0 + 1 := by omega
theorem o36_576 {x0 x1 x2 x3 x4 x5 x7 x8 x9 : Int} {x6 : Nat} (h0 : x1 = x2) (h1 : 0 ≤ x3) (h2 : x3 ≤ 1) (h3 : (x3 = 0 ∨ (0 ≤ x1 ∧ x1 ≤ 24))) (h4 : ¬ x3 = 0) (h5 : 0 ≤ x4) (h6 : x4 ≤ 1) (h7 : (x4 = 0 ∨ (0 ≤ x5 ∧ x5 ≤ 3))) (h8 : ¬ x4 = 0) (h9 : 0 ≤ x0) (h10 : x0 ≤ 100) (h11 : 100 - x0 < ((x6 + 1 : Nat) : Int)) (h12 : x7 = 100) (h13 : x0 < x7) (h14 : x8 = 4 * x2) (h15 : x9 = x8 + x5) (h16 : ¬ x0 = x9) (h17 : -2147483648 ≤ x0) (h18 : x0 ≤ 2147483647) (h19 : -2147483648 ≤ x2) (h20 : x2 ≤ 2147483647) (h21 : -2147483648 ≤ x3) (h22 : x3 ≤ 2147483647) (h23 : -2147483648 ≤ x4) (h24 : x4 ≤ 2147483647) (h25 : -2147483648 ≤ x5) (h26 : x5 ≤ 2147483647) (h27 : -2147483648 ≤ x7) (h28 : x7 ≤ 2147483647) (h29 : -2147483648 ≤ x8) (h30 : x8 ≤ 2147483647) (h31 : -2147483648 ≤ x9) (h32 : x9 ≤ 2147483647) : x0 + 1 ≤ 2147483647 := by omega
theorem o36_577 {x0 x2 x3 x4 x5 x6 x7 x8 x9 x10 : Int} {x1 : Nat} (h0 : x2 = x3) (h1 : 0 ≤ x4) (h2 : x4 ≤ 1) (h3 : (x4 = 0 ∨ (0 ≤ x2 ∧ x2 ≤ 24))) (h4 : ¬ x4 = 0) (h5 : 0 ≤ x5) (h6 : x5 ≤ 1) (h7 : (x5 = 0 ∨ (0 ≤ x6 ∧ x6 ≤ 3))) (h8 : ¬ x5 = 0) (h9 : 0 ≤ x7) (h10 : x7 ≤ 100) (h11 : 100 - x7 < ((x1 + 1 : Nat) : Int)) (h12 : x8 = 100) (h13 : x7 < x8) (h14 : x9 = 4 * x3) (h15 : x10 = x9 + x6) (h16 : ¬ x7 = x10) (h17 : x0 = x7 + 1) : 100 - x0 < (x1 : Int) := by omega
theorem o36_578 {x0 x1 x2 x3 x4 x5 x6 x8 x9 x10 : Int} {x7 : Nat} (h0 : x1 = x2) (h1 : 0 ≤ x3) (h2 : x3 ≤ 1) (h3 : (x3 = 0 ∨ (0 ≤ x1 ∧ x1 ≤ 24))) (h4 : ¬ x3 = 0) (h5 : 0 ≤ x4) (h6 : x4 ≤ 1) (h7 : (x4 = 0 ∨ (0 ≤ x5 ∧ x5 ≤ 3))) (h8 : ¬ x4 = 0) (h9 : 0 ≤ x6) (h10 : x6 ≤ 100) (h11 : 100 - x6 < ((x7 + 1 : Nat) : Int)) (h12 : x8 = 100) (h13 : x6 < x8) (h14 : x9 = 4 * x2) (h15 : x10 = x9 + x5) (h16 : ¬ x6 = x10) (h17 : x0 = x6 + 1) : 0 ≤ x0 := by omega
theorem o36_579 {x0 x1 x2 x3 x4 x5 x6 x8 x9 x10 : Int} {x7 : Nat} (h0 : x1 = x2) (h1 : 0 ≤ x3) (h2 : x3 ≤ 1) (h3 : (x3 = 0 ∨ (0 ≤ x1 ∧ x1 ≤ 24))) (h4 : ¬ x3 = 0) (h5 : 0 ≤ x4) (h6 : x4 ≤ 1) (h7 : (x4 = 0 ∨ (0 ≤ x5 ∧ x5 ≤ 3))) (h8 : ¬ x4 = 0) (h9 : 0 ≤ x6) (h10 : x6 ≤ 100) (h11 : 100 - x6 < ((x7 + 1 : Nat) : Int)) (h12 : x8 = 100) (h13 : x6 < x8) (h14 : x9 = 4 * x2) (h15 : x10 = x9 + x5) (h16 : ¬ x6 = x10) (h17 : x0 = x6 + 1) : x0 ≤ 100 := by omega
theorem o36_580 {x0 x1 x2 x3 x4 x5 x7 x8 x9 : Int} {x6 : Nat} (h0 : x1 = x2) (h1 : 0 ≤ x3) (h2 : x3 ≤ 1) (h3 : (x3 = 0 ∨ (0 ≤ x1 ∧ x1 ≤ 24))) (h4 : ¬ x3 = 0) (h5 : 0 ≤ x4) (h6 : x4 ≤ 1) (h7 : (x4 = 0 ∨ (0 ≤ x5 ∧ x5 ≤ 3))) (h8 : ¬ x4 = 0) (h9 : 0 ≤ x0) (h10 : x0 ≤ 100) (h11 : 100 - x0 < ((x6 + 1 : Nat) : Int)) (h12 : x7 = 100) (h13 : x0 < x7) (h14 : x8 = 4 * x2) (h15 : x9 = x8 + x5) (h16 : x0 = x9) : 0 ≤ x0 := by omega
theorem o36_581 {x0 x1 x2 x3 x4 x5 x7 x8 x9 : Int} {x6 : Nat} (h0 : x1 = x2) (h1 : 0 ≤ x3) (h2 : x3 ≤ 1) (h3 : (x3 = 0 ∨ (0 ≤ x1 ∧ x1 ≤ 24))) (h4 : ¬ x3 = 0) (h5 : 0 ≤ x4) (h6 : x4 ≤ 1) (h7 : (x4 = 0 ∨ (0 ≤ x5 ∧ x5 ≤ 3))) (h8 : ¬ x4 = 0) (h9 : 0 ≤ x0) (h10 : x0 ≤ 100) (h11 : 100 - x0 < ((x6 + 1 : Nat) : Int)) (h12 : x7 = 100) (h13 : x0 < x7) (h14 : x8 = 4 * x2) (h15 : x9 = x8 + x5) (h16 : x0 = x9) : x0 < (100 : Nat) := by omega
theorem o36_582 {x0 x1 x2 x3 x4 x5 x7 x8 x9 : Int} {x6 : Nat} (h0 : x1 = x2) (h1 : 0 ≤ x3) (h2 : x3 ≤ 1) (h3 : (x3 = 0 ∨ (0 ≤ x1 ∧ x1 ≤ 24))) (h4 : ¬ x3 = 0) (h5 : 0 ≤ x4) (h6 : x4 ≤ 1) (h7 : (x4 = 0 ∨ (0 ≤ x5 ∧ x5 ≤ 3))) (h8 : ¬ x4 = 0) (h9 : 0 ≤ x0) (h10 : x0 ≤ 100) (h11 : 100 - x0 < ((x6 + 1 : Nat) : Int)) (h12 : x7 = 100) (h13 : x0 < x7) (h14 : x8 = 4 * x2) (h15 : x9 = x8 + x5) (h16 : x0 = x9) (h17 : -2147483648 ≤ x0) (h18 : x0 ≤ 2147483647) (h19 : -2147483648 ≤ x2) (h20 : x2 ≤ 2147483647) (h21 : -2147483648 ≤ x3) (h22 : x3 ≤ 2147483647) (h23 : -2147483648 ≤ x4) (h24 : x4 ≤ 2147483647) (h25 : -2147483648 ≤ x5) (h26 : x5 ≤ 2147483647) (h27 : -2147483648 ≤ x7) (h28 : x7 ≤ 2147483647) (h29 : -2147483648 ≤ x8) (h30 : x8 ≤ 2147483647) (h31 : -2147483648 ≤ x9) (h32 : x9 ≤ 2147483647) : -2147483648 ≤ x0 + 1 := by omega
theorem o36_583 {x0 x1 x2 x3 x4 x5 x7 x8 x9 : Int} {x6 : Nat} (h0 : x1 = x2) (h1 : 0 ≤ x3) (h2 : x3 ≤ 1) (h3 : (x3 = 0 ∨ (0 ≤ x1 ∧ x1 ≤ 24))) (h4 : ¬ x3 = 0) (h5 : 0 ≤ x4) (h6 : x4 ≤ 1) (h7 : (x4 = 0 ∨ (0 ≤ x5 ∧ x5 ≤ 3))) (h8 : ¬ x4 = 0) (h9 : 0 ≤ x0) (h10 : x0 ≤ 100) (h11 : 100 - x0 < ((x6 + 1 : Nat) : Int)) (h12 : x7 = 100) (h13 : x0 < x7) (h14 : x8 = 4 * x2) (h15 : x9 = x8 + x5) (h16 : x0 = x9) (h17 : -2147483648 ≤ x0) (h18 : x0 ≤ 2147483647) (h19 : -2147483648 ≤ x2) (h20 : x2 ≤ 2147483647) (h21 : -2147483648 ≤ x3) (h22 : x3 ≤ 2147483647) (h23 : -2147483648 ≤ x4) (h24 : x4 ≤ 2147483647) (h25 : -2147483648 ≤ x5) (h26 : x5 ≤ 2147483647) (h27 : -2147483648 ≤ x7) (h28 : x7 ≤ 2147483647) (h29 : -2147483648 ≤ x8) (h30 : x8 ≤ 2147483647) (h31 : -2147483648 ≤ x9) (h32 : x9 ≤ 2147483647) : x0 + 1 ≤ 2147483647 := by omega
theorem o36_584 {x0 x2 x3 x4 x5 x6 x7 x8 x9 x10 : Int} {x1 : Nat} (h0 : x2 = x3) (h1 : 0 ≤ x4) (h2 : x4 ≤ 1) (h3 : (x4 = 0 ∨ (0 ≤ x2 ∧ x2 ≤ 24))) (h4 : ¬ x4 = 0) (h5 : 0 ≤ x5) (h6 : x5 ≤ 1) (h7 : (x5 = 0 ∨ (0 ≤ x6 ∧ x6 ≤ 3))) (h8 : ¬ x5 = 0) (h9 : 0 ≤ x7) (h10 : x7 ≤ 100) (h11 : 100 - x7 < ((x1 + 1 : Nat) : Int)) (h12 : x8 = 100) (h13 : x7 < x8) (h14 : x9 = 4 * x3) (h15 : x10 = x9 + x6) (h16 : x7 = x10) (h17 : x0 = x7 + 1) : 100 - x0 < (x1 : Int) := by omega
theorem o36_585 {x0 x1 x2 x3 x4 x5 x6 x8 x9 x10 : Int} {x7 : Nat} (h0 : x1 = x2) (h1 : 0 ≤ x3) (h2 : x3 ≤ 1) (h3 : (x3 = 0 ∨ (0 ≤ x1 ∧ x1 ≤ 24))) (h4 : ¬ x3 = 0) (h5 : 0 ≤ x4) (h6 : x4 ≤ 1) (h7 : (x4 = 0 ∨ (0 ≤ x5 ∧ x5 ≤ 3))) (h8 : ¬ x4 = 0) (h9 : 0 ≤ x6) (h10 : x6 ≤ 100) (h11 : 100 - x6 < ((x7 + 1 : Nat) : Int)) (h12 : x8 = 100) (h13 : x6 < x8) (h14 : x9 = 4 * x2) (h15 : x10 = x9 + x5) (h16 : x6 = x10) (h17 : x0 = x6 + 1) : 0 ≤ x0 := by omega
theorem o36_586 {x0 x1 x2 x3 x4 x5 x6 x8 x9 x10 : Int} {x7 : Nat} (h0 : x1 = x2) (h1 : 0 ≤ x3) (h2 : x3 ≤ 1) (h3 : (x3 = 0 ∨ (0 ≤ x1 ∧ x1 ≤ 24))) (h4 : ¬ x3 = 0) (h5 : 0 ≤ x4) (h6 : x4 ≤ 1) (h7 : (x4 = 0 ∨ (0 ≤ x5 ∧ x5 ≤ 3))) (h8 : ¬ x4 = 0) (h9 : 0 ≤ x6) (h10 : x6 ≤ 100) (h11 : 100 - x6 < ((x7 + 1 : Nat) : Int)) (h12 : x8 = 100) (h13 : x6 < x8) (h14 : x9 = 4 * x2) (h15 : x10 = x9 + x5) (h16 : x6 = x10) (h17 : x0 = x6 + 1) : x0 ≤ 100 := by omega
set_option maxHeartbeats 4000000 in
set_option maxRecDepth 100000 in
theorem c_X12_laysLaws (l : Launch) (G : GG) (Z : RZ) (ad : Nat → Nat) (ws0 : va_W) (hT : Ty G (SM tt) ad ws0) (a1 : Int32) (l1 : 0 ≤ a1.toInt) (u1 : a1.toInt ≤ 60) (hJ : J ws0) (hLd : Laid ws0) : Mq l yX12_laysLaws cX12_laysLaws 5 none 4 G Z [.ref (ad 0), .int a1] ws0 (PV G (SM tt) ad [5, 10, 11, 12] ws0 (fun u => True)) := by
  refine Mq.start (by decide) (Nat.le_of_ble_eq_true rfl) ?_
  intro p e s m below meth c A ls C0 hZ h hl
  have hl : lv_has ls 5 [(0, .ref (ad 0)), (1, .int a1)] := hl
  have h : Wt G (SM tt) ad A s s.heap [] ws0 := ⟨h, hT⟩
  obtain ⟨args, hargs⟩ : ∃ z, z = ([.ref (ad 0), .int a1] : List Value).toArray := ⟨_, rfl⟩
  rw [← hargs] at C0 ⊢
  have C0 : Cx p s m args meth c RX12 cX12_laysLaws 5 none := C0
  obtain ⟨Q, hQ⟩ : ∃ z, z = MQ below ((PV G (SM tt) ad [5, 10, 11, 12] ws0 (fun u => True)) A) args s 0 0 A := ⟨_, rfl⟩
  rw [← hQ]
  refine y_c1 (n := 0) C0 (by decide) dX12_laysLaws_0 (fun v_1 e_2 => ?_)
  refine lv_istore_n (lv' := [(2, .int v_1), (0, .ref (ad 0)), (1, .int a1)]) C0.1 C0.2.1 dX12_laysLaws_1 rfl hl (by decide) rfl (fun ls hl => ?_)
  have lp_6 : ∀ (n_8 : Nat) (x2_3 : Int32) (H : Heap) (locs : List Loc) (ls : Array Slot) (ws_4 : va_W), 61 - x2_3.toInt < (n_8 : Int) → 0 ≤ x2_3.toInt → x2_3.toInt ≤ 61 → Wt G (SM tt) ad A s H locs ws_4 → Fr (SM tt) [5, 10, 11, 12] ws0 ws_4 → lv_has ls 5 [(2, .int x2_3), (0, .ref (ad 0)), (1, .int a1)] → W p l e (rmd 4 0 0) s m args below meth c H locs 0 0 Q (F0 m 2 ls []) := by
    intro n_8
    induction n_8 with
    | zero => intro x2_3 H locs ls ws_4 hn_9 b_10 b_11 h hF_5 hl; exact ((o36_1 b_10 b_11 hn_9)).elim
    | succ n_8 ih_7 =>
      intro x2_3 H locs ls ws_4 hn_9 b_10 b_11 h hF_5 hl
      refine lv_iload_n C0.1 C0.2.1 dX12_laysLaws_2 rfl (lv_at hl 0 rfl) ?_
      refine lv_iload_n C0.1 C0.2.1 dX12_laysLaws_3 rfl (lv_at hl 2 rfl) ?_
      refine y_icmp_gt (tgt := 124) C0 dX12_laysLaws_4 (by decide) (fun c_12 => ?_) (fun c_12 => ?_)
      · -- 4
        rw [hQ]
        exact y_vret C0 h hF_5 trivial dX12_laysLaws_124
      · -- 4
        refine y_c1 (n := 0) C0 (by decide) dX12_laysLaws_7 (fun v_13 e_14 => ?_)
        refine lv_istore_n (lv' := [(3, .int v_13), (2, .int x2_3), (0, .ref (ad 0)), (1, .int a1)]) C0.1 C0.2.1 dX12_laysLaws_8 rfl hl (by decide) rfl (fun ls hl => ?_)
        have lp_18 : ∀ (n_20 : Nat) (x3_15 : Int32) (H : Heap) (locs : List Loc) (ls : Array Slot) (ws_16 : va_W), 25 - x3_15.toInt < (n_20 : Int) → 0 ≤ x3_15.toInt → x3_15.toInt ≤ 25 → Wt G (SM tt) ad A s H locs ws_16 → Fr (SM tt) [5, 10, 11, 12] ws_4 ws_16 → lv_has ls 5 [(3, .int x3_15), (2, .int x2_3), (0, .ref (ad 0)), (1, .int a1)] → W p l e (rmd 4 0 0) s m args below meth c H locs 0 0 Q (F0 m 9 ls []) := by
          intro n_20
          induction n_20 with
          | zero => intro x3_15 H locs ls ws_16 hn_21 b_22 b_23 h hF_17 hl; exact ((o36_2 b_22 b_23 hn_21)).elim
          | succ n_20 ih_19 =>
            intro x3_15 H locs ls ws_16 hn_21 b_22 b_23 h hF_17 hl
            refine lv_iload_n C0.1 C0.2.1 dX12_laysLaws_9 rfl (lv_at hl 0 rfl) ?_
            refine lv_aload_n C0.1 C0.2.1 dX12_laysLaws_10 rfl (lv_at hl 2 rfl) ?_
            refine y_ci h (y_rV (As := []) (rest := [.int x3_15]) C0 hZ h (c_X12_crossings l G Z ad _ h.2) k_X12_crossings q_1705 q_79 q_1703 kSM_0 rfl rfl rfl hl.1 rfl rfl (Nat.le_of_ble_eq_true rfl) dX12_laysLaws_11 ⟨Nat.le_of_ble_eq_true rfl, Nat.le_of_ble_eq_true rfl⟩ ⟨Nat.le_of_ble_eq_true rfl, Nat.le_of_ble_eq_true rfl⟩) (fun r_27 H locs ws_24 h u_25 p_26 => ?_)
            obtain ⟨e_28, e_29, e_30⟩ := p_26
            refine y_icmp_ge (tgt := 118) C0 dX12_laysLaws_14 (by decide) (fun c_31 => ?_) (fun c_31 => ?_)
            · -- 14
              refine y_inc (kp := 1) (n := 1) (fun v_32 => [(2, .int v_32), (3, .int x3_15), (0, .ref (ad 0)), (1, .int a1)]) C0 hl rfl (by decide) (by decide) (fun _ => rfl) (o36_3 l1 u1 b_10 b_11 hn_9 c_12 (le_min x2_3) (le_max x2_3) (le_min a1) (le_max a1)) (o36_4 l1 u1 b_10 b_11 hn_9 c_12 (le_min x2_3) (le_max x2_3) (le_min a1) (le_max a1)) dX12_laysLaws_118 (fun v_32 ls e_33 hl => ?_)
              refine lv_goto (tgt := 2) C0.1 C0.2.1 dX12_laysLaws_121 (by decide) ?_
              exact ih_7 v_32 _ _ _ _ (o36_5 l1 u1 b_10 b_11 hn_9 c_12 e_33) (o36_6 l1 u1 b_10 b_11 hn_9 c_12 e_33) (o36_7 l1 u1 b_10 b_11 hn_9 c_12 e_33) h (Fr.tr (Fr.tr hF_5 hF_17) (Fr.mono u_25 (by decide))) (lv_sub hl [0, 2, 3] rfl)
            · -- 14
              refine lv_aload_n C0.1 C0.2.1 dX12_laysLaws_17 rfl (lv_at hl 2 rfl) ?_
              refine ng_X12_frees C0 h kSM_0 q_1463 dX12_laysLaws_18 ?_
              refine y_c2 (n := 25) C0 (by decide) dX12_laysLaws_21 (fun v_34 e_35 => ?_)
              refine lv_iload_n C0.1 C0.2.1 dX12_laysLaws_23 rfl (lv_at hl 1 rfl) ?_
              refine y_cmul (n := 25) C0 (o36_8 e_35) (o36_9 l1 u1 b_10 b_11 hn_9 c_12 (le_min x2_3) (le_max x2_3) (le_min a1) (le_max a1)) (o36_10 l1 u1 b_10 b_11 hn_9 c_12 (le_min x2_3) (le_max x2_3) (le_min a1) (le_max a1)) dX12_laysLaws_24 (fun v_36 e_37 => ?_)
              refine lv_iload_n C0.1 C0.2.1 dX12_laysLaws_25 rfl (lv_at hl 0 rfl) ?_
              refine y_add C0 (o36_11 l1 u1 b_10 b_11 hn_9 c_12 b_22 b_23 hn_21 e_28 e_29 c_31 e_37 (le_min v_36) (le_max v_36) (le_min x3_15) (le_max x3_15) (le_min a1) (le_max a1) (le_min x2_3) (le_max x2_3) (le_min r_27) (le_max r_27)) (o36_12 l1 u1 b_10 b_11 hn_9 c_12 b_22 b_23 hn_21 e_28 e_29 c_31 e_37 (le_min v_36) (le_max v_36) (le_min x3_15) (le_max x3_15) (le_min a1) (le_max a1) (le_min x2_3) (le_max x2_3) (le_min r_27) (le_max r_27)) dX12_laysLaws_26 (fun v_38 e_39 => ?_)
              refine lv_aload_n C0.1 C0.2.1 dX12_laysLaws_27 rfl (lv_at hl 2 rfl) ?_
              refine lv_iload_n C0.1 C0.2.1 dX12_laysLaws_28 rfl (lv_at hl 0 rfl) ?_
              refine lv_aload_n C0.1 C0.2.1 dX12_laysLaws_29 rfl (lv_at hl 2 rfl) ?_
              refine ng_X12_from0 C0 h kSM_0 q_1464 dX12_laysLaws_30 (fun v_40 e_41 e_42 e_43 => ?_)
              refine lv_iload_n C0.1 C0.2.1 dX12_laysLaws_33 rfl (lv_at hl 1 rfl) ?_
              refine y_iaddU C0 dX12_laysLaws_34 (fun v_44 => ?_)
              refine y_ci h (y_rV (As := [.int x3_15, .int v_44]) (rest := [.int v_38, .ref (ad 12)]) C0 hZ h (c_X12_isFreeIn l G Z ad _ h.2 x3_15 v_44 (o36_13 l1 u1 b_10 b_11 hn_9 c_12 b_22 b_23 hn_21 e_28 e_29 c_31 e_37 e_39) (o36_14 l1 u1 b_10 b_11 hn_9 c_12 b_22 b_23 hn_21 e_28 e_29 c_31 e_37 e_39)) k_X12_isFreeIn q_1741 q_84 q_1739 kSM_0 rfl rfl rfl hl.1 rfl rfl (Nat.le_of_ble_eq_true rfl) dX12_laysLaws_35 ⟨Nat.le_of_ble_eq_true rfl, Nat.le_of_ble_eq_true rfl⟩ ⟨Nat.le_of_ble_eq_true rfl, Nat.le_of_ble_eq_true rfl⟩) (fun r_48 H locs ws_45 h u_46 p_47 => ?_)
              obtain ⟨e_49, e_50, e_51⟩ := p_47
              refine y_zast C0 h kSM_12 rfl (by decide) (o36_15 l1 u1 b_10 b_11 hn_9 c_12 b_22 b_23 hn_21 e_28 e_29 c_31 e_37 e_39) (o36_16 l1 u1 b_10 b_11 hn_9 c_12 b_22 b_23 hn_21 e_28 e_29 c_31 e_37 e_39) (o36_17 e_49 e_50) (o36_18 e_49 e_50) (o36_17 e_49 e_50) (o36_18 e_49 e_50) dX12_laysLaws_38 (fun H locs ws_52 h u_53 => ?_)
              refine y_c1 (n := 0) C0 (by decide) dX12_laysLaws_39 (fun v_54 e_55 => ?_)
              refine lv_istore (lv' := [(4, .int v_54), (3, .int x3_15), (2, .int x2_3), (0, .ref (ad 0)), (1, .int a1)]) C0.1 C0.2.1 dX12_laysLaws_40 hl (by decide) rfl (fun ls hl => ?_)
              have lp_59 : ∀ (n_61 : Nat) (x4_56 : Int32) (H : Heap) (locs : List Loc) (ls : Array Slot) (ws_57 : va_W), 4 - x4_56.toInt < (n_61 : Int) → 0 ≤ x4_56.toInt → x4_56.toInt ≤ 4 → Wt G (SM tt) ad A s H locs ws_57 → Fr (SM tt) [5, 10, 11] ws_52 ws_57 → lv_has ls 5 [(4, .int x4_56), (3, .int x3_15), (2, .int x2_3), (0, .ref (ad 0)), (1, .int a1)] → W p l e (rmd 4 0 0) s m args below meth c H locs 0 0 Q (F0 m 42 ls []) := by
                intro n_61
                induction n_61 with
                | zero => intro x4_56 H locs ls ws_57 hn_62 b_63 b_64 h hF_58 hl; exact ((o36_19 b_63 b_64 hn_62)).elim
                | succ n_61 ih_60 =>
                  intro x4_56 H locs ls ws_57 hn_62 b_63 b_64 h hF_58 hl
                  refine lv_iload C0.1 C0.2.1 dX12_laysLaws_42 (lv_at hl 0 rfl) ?_
                  refine y_c1 (n := 4) C0 (by decide) dX12_laysLaws_44 (fun v_65 e_66 => ?_)
                  refine y_icmp_ge (tgt := 112) C0 dX12_laysLaws_45 (by decide) (fun c_67 => ?_) (fun c_67 => ?_)
                  · -- 45
                    refine y_inc (kp := 1) (n := 1) (fun v_68 => [(3, .int v_68), (4, .int x4_56), (2, .int x2_3), (0, .ref (ad 0)), (1, .int a1)]) C0 hl rfl (by decide) (by decide) (fun _ => rfl) (o36_20 l1 u1 b_10 b_11 hn_9 c_12 b_22 b_23 hn_21 e_28 e_29 c_31 e_37 e_39 (le_min x3_15) (le_max x3_15) (le_min a1) (le_max a1) (le_min x2_3) (le_max x2_3) (le_min r_27) (le_max r_27) (le_min v_36) (le_max v_36) (le_min v_38) (le_max v_38)) (o36_21 l1 u1 b_10 b_11 hn_9 c_12 b_22 b_23 hn_21 e_28 e_29 c_31 e_37 e_39 (le_min x3_15) (le_max x3_15) (le_min a1) (le_max a1) (le_min x2_3) (le_max x2_3) (le_min r_27) (le_max r_27) (le_min v_36) (le_max v_36) (le_min v_38) (le_max v_38)) dX12_laysLaws_112 (fun v_68 ls e_69 hl => ?_)
                    refine lv_goto (tgt := 9) C0.1 C0.2.1 dX12_laysLaws_115 (by decide) ?_
                    exact ih_19 v_68 _ _ _ _ (o36_22 l1 u1 b_10 b_11 hn_9 c_12 b_22 b_23 hn_21 e_28 e_29 c_31 e_37 e_39 e_69) (o36_23 l1 u1 b_10 b_11 hn_9 c_12 b_22 b_23 hn_21 e_28 e_29 c_31 e_37 e_39 e_69) (o36_24 l1 u1 b_10 b_11 hn_9 c_12 b_22 b_23 hn_21 e_28 e_29 c_31 e_37 e_39 e_69) h (Fr.tr (Fr.tr (Fr.tr (Fr.tr hF_17 (Fr.mono u_25 (by decide))) (Fr.mono u_46 (by decide))) (Fr.up u_53.1 kSM_12 (by decide))) (Fr.mono hF_58 (by decide))) (lv_sub hl [0, 2, 3, 4] rfl)
                  · -- 45
                    refine lv_aload_n C0.1 C0.2.1 dX12_laysLaws_48 rfl (lv_at hl 3 rfl) ?_
                    refine ng_X12_mays C0 h kSM_0 q_1462 dX12_laysLaws_49 ?_
                    refine y_c2 (n := 100) C0 (by decide) dX12_laysLaws_52 (fun v_70 e_71 => ?_)
                    refine lv_iload_n C0.1 C0.2.1 dX12_laysLaws_54 rfl (lv_at hl 2 rfl) ?_
                    refine y_cmul (n := 100) C0 (o36_25 e_71) (o36_26 l1 u1 b_10 b_11 hn_9 c_12 b_22 b_23 hn_21 e_28 e_29 c_31 e_37 e_39 (le_min x2_3) (le_max x2_3) (le_min a1) (le_max a1) (le_min x3_15) (le_max x3_15) (le_min r_27) (le_max r_27) (le_min v_36) (le_max v_36) (le_min v_38) (le_max v_38)) (o36_27 l1 u1 b_10 b_11 hn_9 c_12 b_22 b_23 hn_21 e_28 e_29 c_31 e_37 e_39 (le_min x2_3) (le_max x2_3) (le_min a1) (le_max a1) (le_min x3_15) (le_max x3_15) (le_min r_27) (le_max r_27) (le_min v_36) (le_max v_36) (le_min v_38) (le_max v_38)) dX12_laysLaws_55 (fun v_72 e_73 => ?_)
                    refine y_c1 (n := 4) C0 (by decide) dX12_laysLaws_56 (fun v_74 e_75 => ?_)
                    refine lv_iload_n C0.1 C0.2.1 dX12_laysLaws_57 rfl (lv_at hl 1 rfl) ?_
                    refine y_cmul (n := 4) C0 (o36_28 e_75) (o36_29 l1 u1 b_10 b_11 hn_9 c_12 b_22 b_23 hn_21 e_28 e_29 c_31 e_37 e_39 e_73 (le_min x3_15) (le_max x3_15) (le_min a1) (le_max a1) (le_min x2_3) (le_max x2_3) (le_min r_27) (le_max r_27) (le_min v_36) (le_max v_36) (le_min v_38) (le_max v_38) (le_min v_72) (le_max v_72)) (o36_30 l1 u1 b_10 b_11 hn_9 c_12 b_22 b_23 hn_21 e_28 e_29 c_31 e_37 e_39 e_73 (le_min x3_15) (le_max x3_15) (le_min a1) (le_max a1) (le_min x2_3) (le_max x2_3) (le_min r_27) (le_max r_27) (le_min v_36) (le_max v_36) (le_min v_38) (le_max v_38) (le_min v_72) (le_max v_72)) dX12_laysLaws_58 (fun v_76 e_77 => ?_)
                    refine y_add C0 (o36_31 l1 u1 b_10 b_11 hn_9 c_12 b_22 b_23 hn_21 e_28 e_29 c_31 e_37 e_39 e_73 e_77 (le_min v_72) (le_max v_72) (le_min v_76) (le_max v_76) (le_min a1) (le_max a1) (le_min x2_3) (le_max x2_3) (le_min x3_15) (le_max x3_15) (le_min r_27) (le_max r_27) (le_min v_36) (le_max v_36) (le_min v_38) (le_max v_38)) (o36_32 l1 u1 b_10 b_11 hn_9 c_12 b_22 b_23 hn_21 e_28 e_29 c_31 e_37 e_39 e_73 e_77 (le_min v_72) (le_max v_72) (le_min v_76) (le_max v_76) (le_min a1) (le_max a1) (le_min x2_3) (le_max x2_3) (le_min x3_15) (le_max x3_15) (le_min r_27) (le_max r_27) (le_min v_36) (le_max v_36) (le_min v_38) (le_max v_38)) dX12_laysLaws_59 (fun v_78 e_79 => ?_)
                    refine lv_iload C0.1 C0.2.1 dX12_laysLaws_60 (lv_at hl 0 rfl) ?_
                    refine y_add C0 (o36_33 l1 u1 b_10 b_11 hn_9 c_12 b_22 b_23 hn_21 e_28 e_29 c_31 e_37 e_39 b_63 b_64 hn_62 e_66 c_67 e_73 e_77 e_79 (le_min v_78) (le_max v_78) (le_min x4_56) (le_max x4_56) (le_min a1) (le_max a1) (le_min x2_3) (le_max x2_3) (le_min x3_15) (le_max x3_15) (le_min r_27) (le_max r_27) (le_min v_36) (le_max v_36) (le_min v_38) (le_max v_38) (le_min v_65) (le_max v_65) (le_min v_72) (le_max v_72) (le_min v_76) (le_max v_76)) (o36_34 l1 u1 b_10 b_11 hn_9 c_12 b_22 b_23 hn_21 e_28 e_29 c_31 e_37 e_39 b_63 b_64 hn_62 e_66 c_67 e_73 e_77 e_79 (le_min v_78) (le_max v_78) (le_min x4_56) (le_max x4_56) (le_min a1) (le_max a1) (le_min x2_3) (le_max x2_3) (le_min x3_15) (le_max x3_15) (le_min r_27) (le_max r_27) (le_min v_36) (le_max v_36) (le_min v_38) (le_max v_38) (le_min v_65) (le_max v_65) (le_min v_72) (le_max v_72) (le_min v_76) (le_max v_76)) dX12_laysLaws_62 (fun v_80 e_81 => ?_)
                    refine lv_aload_n C0.1 C0.2.1 dX12_laysLaws_63 rfl (lv_at hl 3 rfl) ?_
                    refine lv_iload_n C0.1 C0.2.1 dX12_laysLaws_64 rfl (lv_at hl 1 rfl) ?_
                    refine lv_aload_n C0.1 C0.2.1 dX12_laysLaws_65 rfl (lv_at hl 3 rfl) ?_
                    refine ng_X12_from0 C0 h kSM_0 q_1464 dX12_laysLaws_66 (fun v_82 e_83 e_84 e_85 => ?_)
                    have q_86 : v_82.toInt = v_40.toInt := congrArg Int32.toInt (e_83.symm.trans (Eq.trans (Eq.trans (Fr.fI hF_58 kSM_0 (by decide)) (Eq.trans (fI_of (u_53.1 0 (kd_ne (S := SM q0) kSM_0 kSM_12 (by decide)))) (Fr.fI u_46 kSM_0 (by decide)))) e_41))
                    refine lv_iload_n C0.1 C0.2.1 dX12_laysLaws_69 rfl (lv_at hl 2 rfl) ?_
                    refine y_iaddU C0 dX12_laysLaws_70 (fun v_87 => ?_)
                    refine lv_iload C0.1 C0.2.1 dX12_laysLaws_71 (lv_at hl 0 rfl) ?_
                    refine y_ci h (y_rV (As := [.int x3_15, .int v_87, .int x4_56]) (rest := [.int v_80, .ref (ad 11)]) C0 hZ h (c_X12_mayTurn l G Z ad _ h.2 x3_15 v_87 x4_56 (o36_35 l1 u1 b_10 b_11 hn_9 c_12 b_22 b_23 hn_21 e_28 e_29 c_31 e_37 e_39 b_63 b_64 hn_62 e_66 c_67 e_73 e_77 e_79 e_81) (o36_36 l1 u1 b_10 b_11 hn_9 c_12 b_22 b_23 hn_21 e_28 e_29 c_31 e_37 e_39 b_63 b_64 hn_62 e_66 c_67 e_73 e_77 e_79 e_81) (o36_37 l1 u1 b_10 b_11 hn_9 c_12 b_22 b_23 hn_21 e_28 e_29 c_31 e_37 e_39 b_63 b_64 hn_62 e_66 c_67 e_73 e_77 e_79 e_81) (o36_38 l1 u1 b_10 b_11 hn_9 c_12 b_22 b_23 hn_21 e_28 e_29 c_31 e_37 e_39 b_63 b_64 hn_62 e_66 c_67 e_73 e_77 e_79 e_81) (J.pa hT hJ (Pa.tr (Pa.tr (Pa.tr (Pa.tr (Pa.tr (Pa.fr hF_5 (by decide)) (Pa.fr hF_17 (by decide))) (Pa.fr u_25 (by decide))) (Pa.fr u_46 (by decide))) (Pa.ud u_53.1 (by decide))) (Pa.fr hF_58 (by decide)))) (Laid.pa hLd (Pa.tr (Pa.tr (Pa.tr (Pa.tr (Pa.tr (Pa.fr hF_5 (by decide)) (Pa.fr hF_17 (by decide))) (Pa.fr u_25 (by decide))) (Pa.fr u_46 (by decide))) (Pa.ud u_53.1 (by decide))) (Pa.fr hF_58 (by decide))))) k_X12_mayTurn q_1766 q_87 q_1764 kSM_0 rfl rfl rfl hl.1 rfl rfl (Nat.le_of_ble_eq_true rfl) dX12_laysLaws_73 ⟨Nat.le_of_ble_eq_true rfl, Nat.le_of_ble_eq_true rfl⟩ ⟨Nat.le_of_ble_eq_true rfl, Nat.le_of_ble_eq_true rfl⟩) (fun r_91 H locs ws_88 h u_89 p_90 => ?_)
                    obtain ⟨e_92, e_93⟩ := p_90
                    refine y_zast C0 h kSM_11 rfl (by decide) (o36_39 l1 u1 b_10 b_11 hn_9 c_12 b_22 b_23 hn_21 e_28 e_29 c_31 e_37 e_39 b_63 b_64 hn_62 e_66 c_67 e_73 e_77 e_79 e_81) (o36_40 l1 u1 b_10 b_11 hn_9 c_12 b_22 b_23 hn_21 e_28 e_29 c_31 e_37 e_39 b_63 b_64 hn_62 e_66 c_67 e_73 e_77 e_79 e_81) (o36_17 e_92 e_93) (o36_18 e_92 e_93) (o36_17 e_92 e_93) (o36_18 e_92 e_93) dX12_laysLaws_76 (fun H locs ws_94 h u_95 => ?_)
                    refine lv_aload_n C0.1 C0.2.1 dX12_laysLaws_77 rfl (lv_at hl 3 rfl) ?_
                    refine ng_X12_prices C0 h kSM_0 q_1461 dX12_laysLaws_78 ?_
                    refine y_c2 (n := 100) C0 (by decide) dX12_laysLaws_81 (fun v_96 e_97 => ?_)
                    refine lv_iload_n C0.1 C0.2.1 dX12_laysLaws_83 rfl (lv_at hl 2 rfl) ?_
                    refine y_cmul (n := 100) C0 (o36_25 e_97) (o36_41 l1 u1 b_10 b_11 hn_9 c_12 b_22 b_23 hn_21 e_28 e_29 c_31 e_37 e_39 b_63 b_64 hn_62 e_66 c_67 e_73 e_77 e_79 e_81 (le_min x2_3) (le_max x2_3) (le_min a1) (le_max a1) (le_min x3_15) (le_max x3_15) (le_min r_27) (le_max r_27) (le_min v_36) (le_max v_36) (le_min v_38) (le_max v_38) (le_min x4_56) (le_max x4_56) (le_min v_65) (le_max v_65) (le_min v_72) (le_max v_72) (le_min v_76) (le_max v_76) (le_min v_78) (le_max v_78) (le_min v_80) (le_max v_80)) (o36_42 l1 u1 b_10 b_11 hn_9 c_12 b_22 b_23 hn_21 e_28 e_29 c_31 e_37 e_39 b_63 b_64 hn_62 e_66 c_67 e_73 e_77 e_79 e_81 (le_min x2_3) (le_max x2_3) (le_min a1) (le_max a1) (le_min x3_15) (le_max x3_15) (le_min r_27) (le_max r_27) (le_min v_36) (le_max v_36) (le_min v_38) (le_max v_38) (le_min x4_56) (le_max x4_56) (le_min v_65) (le_max v_65) (le_min v_72) (le_max v_72) (le_min v_76) (le_max v_76) (le_min v_78) (le_max v_78) (le_min v_80) (le_max v_80)) dX12_laysLaws_84 (fun v_98 e_99 => ?_)
                    refine y_c1 (n := 4) C0 (by decide) dX12_laysLaws_85 (fun v_100 e_101 => ?_)
                    refine lv_iload_n C0.1 C0.2.1 dX12_laysLaws_86 rfl (lv_at hl 1 rfl) ?_
                    refine y_cmul (n := 4) C0 (o36_28 e_101) (o36_43 l1 u1 b_10 b_11 hn_9 c_12 b_22 b_23 hn_21 e_28 e_29 c_31 e_37 e_39 b_63 b_64 hn_62 e_66 c_67 e_73 e_77 e_79 e_81 e_99 (le_min x3_15) (le_max x3_15) (le_min a1) (le_max a1) (le_min x2_3) (le_max x2_3) (le_min r_27) (le_max r_27) (le_min v_36) (le_max v_36) (le_min v_38) (le_max v_38) (le_min x4_56) (le_max x4_56) (le_min v_65) (le_max v_65) (le_min v_72) (le_max v_72) (le_min v_76) (le_max v_76) (le_min v_78) (le_max v_78) (le_min v_80) (le_max v_80) (le_min v_98) (le_max v_98)) (o36_44 l1 u1 b_10 b_11 hn_9 c_12 b_22 b_23 hn_21 e_28 e_29 c_31 e_37 e_39 b_63 b_64 hn_62 e_66 c_67 e_73 e_77 e_79 e_81 e_99 (le_min x3_15) (le_max x3_15) (le_min a1) (le_max a1) (le_min x2_3) (le_max x2_3) (le_min r_27) (le_max r_27) (le_min v_36) (le_max v_36) (le_min v_38) (le_max v_38) (le_min x4_56) (le_max x4_56) (le_min v_65) (le_max v_65) (le_min v_72) (le_max v_72) (le_min v_76) (le_max v_76) (le_min v_78) (le_max v_78) (le_min v_80) (le_max v_80) (le_min v_98) (le_max v_98)) dX12_laysLaws_87 (fun v_102 e_103 => ?_)
                    refine y_add C0 (o36_45 l1 u1 b_10 b_11 hn_9 c_12 b_22 b_23 hn_21 e_28 e_29 c_31 e_37 e_39 b_63 b_64 hn_62 e_66 c_67 e_73 e_77 e_79 e_81 e_99 e_103 (le_min v_98) (le_max v_98) (le_min v_102) (le_max v_102) (le_min a1) (le_max a1) (le_min x2_3) (le_max x2_3) (le_min x3_15) (le_max x3_15) (le_min r_27) (le_max r_27) (le_min v_36) (le_max v_36) (le_min v_38) (le_max v_38) (le_min x4_56) (le_max x4_56) (le_min v_65) (le_max v_65) (le_min v_72) (le_max v_72) (le_min v_76) (le_max v_76) (le_min v_78) (le_max v_78) (le_min v_80) (le_max v_80)) (o36_46 l1 u1 b_10 b_11 hn_9 c_12 b_22 b_23 hn_21 e_28 e_29 c_31 e_37 e_39 b_63 b_64 hn_62 e_66 c_67 e_73 e_77 e_79 e_81 e_99 e_103 (le_min v_98) (le_max v_98) (le_min v_102) (le_max v_102) (le_min a1) (le_max a1) (le_min x2_3) (le_max x2_3) (le_min x3_15) (le_max x3_15) (le_min r_27) (le_max r_27) (le_min v_36) (le_max v_36) (le_min v_38) (le_max v_38) (le_min x4_56) (le_max x4_56) (le_min v_65) (le_max v_65) (le_min v_72) (le_max v_72) (le_min v_76) (le_max v_76) (le_min v_78) (le_max v_78) (le_min v_80) (le_max v_80)) dX12_laysLaws_88 (fun v_104 e_105 => ?_)
                    refine lv_iload C0.1 C0.2.1 dX12_laysLaws_89 (lv_at hl 0 rfl) ?_
                    refine y_add C0 (o36_47 l1 u1 b_10 b_11 hn_9 c_12 b_22 b_23 hn_21 e_28 e_29 c_31 e_37 e_39 b_63 b_64 hn_62 e_66 c_67 e_73 e_77 e_79 e_81 e_99 e_103 e_105 (le_min v_104) (le_max v_104) (le_min x4_56) (le_max x4_56) (le_min a1) (le_max a1) (le_min x2_3) (le_max x2_3) (le_min x3_15) (le_max x3_15) (le_min r_27) (le_max r_27) (le_min v_36) (le_max v_36) (le_min v_38) (le_max v_38) (le_min v_65) (le_max v_65) (le_min v_72) (le_max v_72) (le_min v_76) (le_max v_76) (le_min v_78) (le_max v_78) (le_min v_80) (le_max v_80) (le_min v_98) (le_max v_98) (le_min v_102) (le_max v_102)) (o36_48 l1 u1 b_10 b_11 hn_9 c_12 b_22 b_23 hn_21 e_28 e_29 c_31 e_37 e_39 b_63 b_64 hn_62 e_66 c_67 e_73 e_77 e_79 e_81 e_99 e_103 e_105 (le_min v_104) (le_max v_104) (le_min x4_56) (le_max x4_56) (le_min a1) (le_max a1) (le_min x2_3) (le_max x2_3) (le_min x3_15) (le_max x3_15) (le_min r_27) (le_max r_27) (le_min v_36) (le_max v_36) (le_min v_38) (le_max v_38) (le_min v_65) (le_max v_65) (le_min v_72) (le_max v_72) (le_min v_76) (le_max v_76) (le_min v_78) (le_max v_78) (le_min v_80) (le_max v_80) (le_min v_98) (le_max v_98) (le_min v_102) (le_max v_102)) dX12_laysLaws_91 (fun v_106 e_107 => ?_)
                    refine lv_aload_n C0.1 C0.2.1 dX12_laysLaws_92 rfl (lv_at hl 3 rfl) ?_
                    refine lv_iload_n C0.1 C0.2.1 dX12_laysLaws_93 rfl (lv_at hl 1 rfl) ?_
                    refine lv_aload_n C0.1 C0.2.1 dX12_laysLaws_94 rfl (lv_at hl 3 rfl) ?_
                    refine ng_X12_from0 C0 h kSM_0 q_1464 dX12_laysLaws_95 (fun v_108 e_109 e_110 e_111 => ?_)
                    have q_112 : v_108.toInt = v_40.toInt := congrArg Int32.toInt (e_109.symm.trans (Eq.trans (Eq.trans (fI_of (u_95.1 0 (kd_ne (S := SM q0) kSM_0 kSM_11 (by decide)))) (Eq.trans (Fr.fI u_89 kSM_0 (by decide)) (Eq.trans (Fr.fI hF_58 kSM_0 (by decide)) (Eq.trans (fI_of (u_53.1 0 (kd_ne (S := SM q0) kSM_0 kSM_12 (by decide)))) (Fr.fI u_46 kSM_0 (by decide)))))) e_41))
                    refine lv_iload_n C0.1 C0.2.1 dX12_laysLaws_98 rfl (lv_at hl 2 rfl) ?_
                    refine y_iaddU C0 dX12_laysLaws_99 (fun v_113 => ?_)
                    refine lv_iload C0.1 C0.2.1 dX12_laysLaws_100 (lv_at hl 0 rfl) ?_
                    refine y_ci h (y_rV (As := [.int x3_15, .int v_113, .int x4_56]) (rest := [.int v_106, .ref (ad 10)]) C0 hZ h (c_X12_priceOf l G Z ad _ h.2 x3_15 v_113 x4_56 (o36_49 l1 u1 b_10 b_11 hn_9 c_12 b_22 b_23 hn_21 e_28 e_29 c_31 e_37 e_39 b_63 b_64 hn_62 e_66 c_67 e_73 e_77 e_79 e_81 e_99 e_103 e_105 e_107) (o36_50 l1 u1 b_10 b_11 hn_9 c_12 b_22 b_23 hn_21 e_28 e_29 c_31 e_37 e_39 b_63 b_64 hn_62 e_66 c_67 e_73 e_77 e_79 e_81 e_99 e_103 e_105 e_107) (o36_51 l1 u1 b_10 b_11 hn_9 c_12 b_22 b_23 hn_21 e_28 e_29 c_31 e_37 e_39 b_63 b_64 hn_62 e_66 c_67 e_73 e_77 e_79 e_81 e_99 e_103 e_105 e_107) (o36_52 l1 u1 b_10 b_11 hn_9 c_12 b_22 b_23 hn_21 e_28 e_29 c_31 e_37 e_39 b_63 b_64 hn_62 e_66 c_67 e_73 e_77 e_79 e_81 e_99 e_103 e_105 e_107) (J.pa hT hJ (Pa.tr (Pa.tr (Pa.tr (Pa.tr (Pa.tr (Pa.tr (Pa.tr (Pa.fr hF_5 (by decide)) (Pa.fr hF_17 (by decide))) (Pa.fr u_25 (by decide))) (Pa.fr u_46 (by decide))) (Pa.ud u_53.1 (by decide))) (Pa.fr hF_58 (by decide))) (Pa.fr u_89 (by decide))) (Pa.ud u_95.1 (by decide)))) (Laid.pa hLd (Pa.tr (Pa.tr (Pa.tr (Pa.tr (Pa.tr (Pa.tr (Pa.tr (Pa.fr hF_5 (by decide)) (Pa.fr hF_17 (by decide))) (Pa.fr u_25 (by decide))) (Pa.fr u_46 (by decide))) (Pa.ud u_53.1 (by decide))) (Pa.fr hF_58 (by decide))) (Pa.fr u_89 (by decide))) (Pa.ud u_95.1 (by decide))))) k_X12_priceOf q_1724 q_81 q_1722 kSM_0 rfl rfl rfl hl.1 rfl rfl (Nat.le_of_ble_eq_true rfl) dX12_laysLaws_102 ⟨Nat.le_of_ble_eq_true rfl, Nat.le_of_ble_eq_true rfl⟩ ⟨Nat.le_of_ble_eq_true rfl, Nat.le_of_ble_eq_true rfl⟩) (fun r_117 H locs ws_114 h u_115 p_116 => ?_)
                    have e_118 := p_116
                    refine y_iast C0 h kSM_10 rfl (by decide) (o36_53 l1 u1 b_10 b_11 hn_9 c_12 b_22 b_23 hn_21 e_28 e_29 c_31 e_37 e_39 b_63 b_64 hn_62 e_66 c_67 e_73 e_77 e_79 e_81 e_99 e_103 e_105 e_107) (o36_54 l1 u1 b_10 b_11 hn_9 c_12 b_22 b_23 hn_21 e_28 e_29 c_31 e_37 e_39 b_63 b_64 hn_62 e_66 c_67 e_73 e_77 e_79 e_81 e_99 e_103 e_105 e_107) (le_min r_117) (le_max r_117) dX12_laysLaws_105 (fun H locs ws_119 h u_120 => ?_)
                    refine y_inc (kp := 0) (n := 1) (fun v_121 => [(4, .int v_121), (3, .int x3_15), (2, .int x2_3), (0, .ref (ad 0)), (1, .int a1)]) C0 hl rfl (by decide) (by decide) (fun _ => rfl) (o36_55 l1 u1 b_10 b_11 hn_9 c_12 b_22 b_23 hn_21 e_28 e_29 c_31 e_37 e_39 b_63 b_64 hn_62 e_66 c_67 e_73 e_77 e_79 e_81 e_99 e_103 e_105 e_107 (le_min x4_56) (le_max x4_56) (le_min a1) (le_max a1) (le_min x2_3) (le_max x2_3) (le_min x3_15) (le_max x3_15) (le_min r_27) (le_max r_27) (le_min v_36) (le_max v_36) (le_min v_38) (le_max v_38) (le_min v_65) (le_max v_65) (le_min v_72) (le_max v_72) (le_min v_76) (le_max v_76) (le_min v_78) (le_max v_78) (le_min v_80) (le_max v_80) (le_min v_98) (le_max v_98) (le_min v_102) (le_max v_102) (le_min v_104) (le_max v_104) (le_min v_106) (le_max v_106)) (o36_56 l1 u1 b_10 b_11 hn_9 c_12 b_22 b_23 hn_21 e_28 e_29 c_31 e_37 e_39 b_63 b_64 hn_62 e_66 c_67 e_73 e_77 e_79 e_81 e_99 e_103 e_105 e_107 (le_min x4_56) (le_max x4_56) (le_min a1) (le_max a1) (le_min x2_3) (le_max x2_3) (le_min x3_15) (le_max x3_15) (le_min r_27) (le_max r_27) (le_min v_36) (le_max v_36) (le_min v_38) (le_max v_38) (le_min v_65) (le_max v_65) (le_min v_72) (le_max v_72) (le_min v_76) (le_max v_76) (le_min v_78) (le_max v_78) (le_min v_80) (le_max v_80) (le_min v_98) (le_max v_98) (le_min v_102) (le_max v_102) (le_min v_104) (le_max v_104) (le_min v_106) (le_max v_106)) dX12_laysLaws_106 (fun v_121 ls e_122 hl => ?_)
                    refine lv_goto (tgt := 42) C0.1 C0.2.1 dX12_laysLaws_109 (by decide) ?_
                    exact ih_60 v_121 _ _ _ _ (o36_57 l1 u1 b_10 b_11 hn_9 c_12 b_22 b_23 hn_21 e_28 e_29 c_31 e_37 e_39 b_63 b_64 hn_62 e_66 c_67 e_73 e_77 e_79 e_81 e_99 e_103 e_105 e_107 e_122) (o36_58 l1 u1 b_10 b_11 hn_9 c_12 b_22 b_23 hn_21 e_28 e_29 c_31 e_37 e_39 b_63 b_64 hn_62 e_66 c_67 e_73 e_77 e_79 e_81 e_99 e_103 e_105 e_107 e_122) (o36_59 l1 u1 b_10 b_11 hn_9 c_12 b_22 b_23 hn_21 e_28 e_29 c_31 e_37 e_39 b_63 b_64 hn_62 e_66 c_67 e_73 e_77 e_79 e_81 e_99 e_103 e_105 e_107 e_122) h (Fr.tr (Fr.tr (Fr.tr (Fr.tr hF_58 (Fr.mono u_89 (by decide))) (Fr.up u_95.1 kSM_11 (by decide))) (Fr.mono u_115 (by decide))) (Fr.up u_120.1 kSM_10 (by decide))) (lv_sub hl [0, 1, 2, 3, 4] rfl)
              exact lp_59 ((4 - v_54.toInt + 1).toNat) v_54 _ _ _ _ (o36_60 e_55) (o36_61 e_55) (o36_62 e_55) h Fr.rf (lv_sub hl [0, 1, 2, 3, 4] rfl)
        exact lp_18 ((25 - v_13.toInt + 1).toNat) v_13 _ _ _ _ (o36_63 e_14) (o36_61 e_14) (o36_64 e_14) h Fr.rf (lv_sub hl [0, 1, 2, 3] rfl)
  exact lp_6 ((61 - v_1.toInt + 1).toNat) v_1 _ _ _ _ (o36_65 e_2) (o36_61 e_2) (o36_66 e_2) h Fr.rf (lv_sub hl [0, 1, 2] rfl)
set_option maxHeartbeats 4000000 in
set_option maxRecDepth 100000 in
theorem c_X12_costOf_0 (l : Launch) (G : GG) (Z : RZ) (ad : Nat → Nat) (ws0 : va_W) (hT : Ty G (SM tt) ad ws0) (a1 : Int32) (a2 : Int32) (a3 : Int32) (a4 : Int32) (a5 : Int32) (l1 : 0 ≤ a1.toInt) (u1 : a1.toInt ≤ 60) (l2 : 0 ≤ a2.toInt) (u2 : a2.toInt ≤ 24) (l3 : 0 ≤ a3.toInt) (u3 : a3.toInt ≤ 3) (l4 : 0 ≤ a4.toInt) (u4 : a4.toInt ≤ 3) (l5 : 0 ≤ a5.toInt) (u5 : a5.toInt ≤ 0) (hLd : Laid ws0) : Mq l yX12_costOf cX12_costOf 7 (some .int) 4 G Z [.ref (ad 0), .int a1, .int a2, .int a3, .int a4, .int a5] ws0 (PI G (SM tt) ad [] ws0 (fun r u => (0 ≤ r.toInt) ∧ (r.toInt ≤ 1000000000) ∧ ((r.toInt = 1000000000 ∨ (0 ≤ r.toInt ∧ r.toInt ≤ 2))) ∧ (r.toInt = 1000000000 ∨ SG ws0 a2.toInt (dirI a3.toInt a4.toInt)))) := by
  refine Mq.start (by decide) (Nat.le_of_ble_eq_true rfl) ?_
  intro p e s m below meth c A ls C0 hZ h hl
  have hl : lv_has ls 7 [(0, .ref (ad 0)), (1, .int a1), (2, .int a2), (3, .int a3), (4, .int a4), (5, .int a5)] := hl
  have h : Wt G (SM tt) ad A s s.heap [] ws0 := ⟨h, hT⟩
  obtain ⟨args, hargs⟩ : ∃ z, z = ([.ref (ad 0), .int a1, .int a2, .int a3, .int a4, .int a5] : List Value).toArray := ⟨_, rfl⟩
  rw [← hargs] at C0 ⊢
  have C0 : Cx p s m args meth c RX12 cX12_costOf 7 (some .int) := C0
  obtain ⟨Q, hQ⟩ : ∃ z, z = MQ below ((PI G (SM tt) ad [] ws0 (fun r u => (0 ≤ r.toInt) ∧ (r.toInt ≤ 1000000000) ∧ ((r.toInt = 1000000000 ∨ (0 ≤ r.toInt ∧ r.toInt ≤ 2))) ∧ (r.toInt = 1000000000 ∨ SG ws0 a2.toInt (dirI a3.toInt a4.toInt)))) A) args s 0 0 A := ⟨_, rfl⟩
  rw [← hQ]
  refine lv_iload_n C0.1 C0.2.1 dX12_costOf_0 rfl (lv_at hl 3 rfl) ?_
  refine lv_iload C0.1 C0.2.1 dX12_costOf_1 (lv_at hl 4 rfl) ?_
  refine y_ci h (y_rS (As := [.int a3, .int a4]) (rest := []) C0 hZ h (c_X12_directionBy l G Z ad _ h.2 a3 a4 (o36_67 l3 u3) (o36_68 l3 u3) (o36_67 l4 u4) (o36_68 l4 u4)) k_X12_directionBy q_1761 q_1760 hl.1 rfl rfl (Nat.le_of_ble_eq_true rfl) dX12_costOf_3 ⟨Nat.le_of_ble_eq_true rfl, Nat.le_of_ble_eq_true rfl⟩ ⟨Nat.le_of_ble_eq_true rfl, Nat.le_of_ble_eq_true rfl⟩) (fun r_4 H locs ws_1 h u_2 p_3 => ?_)
  obtain ⟨e_5, e_6, e_7⟩ := p_3
  refine lv_istore (lv' := [(6, .int r_4), (0, .ref (ad 0)), (1, .int a1), (2, .int a2), (3, .int a3), (4, .int a4), (5, .int a5)]) C0.1 C0.2.1 dX12_costOf_6 hl (by decide) rfl (fun ls hl => ?_)
  refine lv_aload_n C0.1 C0.2.1 dX12_costOf_8 rfl (lv_at hl 1 rfl) ?_
  refine lv_iload_n C0.1 C0.2.1 dX12_costOf_9 rfl (lv_at hl 3 rfl) ?_
  refine lv_iload C0.1 C0.2.1 dX12_costOf_10 (lv_at hl 0 rfl) ?_
  refine y_ci h (y_rV (As := [.int a2, .int r_4]) (rest := []) C0 hZ h (c_X12_streetFrom l G Z ad _ h.2 a2 r_4 (o36_69 l2 u2) (o36_70 l2 u2) (o36_67 e_5 e_6) (o36_68 e_5 e_6) (Laid.pa hLd (Pa.fr u_2 (by decide)))) k_X12_streetFrom q_1713 q_80 q_1711 kSM_0 rfl rfl rfl hl.1 rfl rfl (Nat.le_of_ble_eq_true rfl) dX12_costOf_12 ⟨Nat.le_of_ble_eq_true rfl, Nat.le_of_ble_eq_true rfl⟩ ⟨Nat.le_of_ble_eq_true rfl, Nat.le_of_ble_eq_true rfl⟩) (fun r_11 H locs ws_8 h u_9 p_10 => ?_)
  obtain ⟨e_12, e_13, e_14⟩ := p_10
  refine y_c1 (n := (-1)) C0 (by decide) dX12_costOf_15 (fun v_15 e_16 => ?_)
  refine y_icmp_eq (tgt := 44) C0 dX12_costOf_16 (by decide) (fun c_17 => ?_) (fun c_17 => ?_)
  · -- 16
    refine y_c5 (n := 1000000000) C0 q_1887 (by decide) dX12_costOf_44 (fun v_18 e_19 => ?_)
    rw [hQ]
    exact y_iret C0 h (Fr.tr u_2 u_9) ⟨(o36_71 e_19), (o36_72 e_19), (o36_73 e_19), (Or.inl (o36_74 e_19))⟩ dX12_costOf_47
  · -- 16
    refine lv_iload C0.1 C0.2.1 dX12_costOf_19 (lv_at hl 5 rfl) ?_
    refine y_c1 (n := 1) C0 (by decide) dX12_costOf_21 (fun v_20 e_21 => ?_)
    refine y_icmp_le (tgt := 48) C0 dX12_costOf_22 (by decide) (fun c_22 => ?_) (fun c_22 => ?_)
    · -- 22
      refine lv_iload C0.1 C0.2.1 dX12_costOf_48 (lv_at hl 5 rfl) ?_
      refine y_c1 (n := 2) C0 (by decide) dX12_costOf_50 (fun v_23 e_24 => ?_)
      refine y_icmp_lt (tgt := 68) C0 dX12_costOf_51 (by decide) (fun c_25 => ?_) (fun c_25 => ((o36_75 l4 u4 e_21 c_22 e_24 c_25)).elim)
      refine y_c1 (n := 0) C0 (by decide) dX12_costOf_68 (fun v_26 e_27 => ?_)
      rw [hQ]
      exact y_iret C0 h (Fr.tr u_2 u_9) ⟨(o36_61 e_27), (o36_76 e_27), (o36_77 e_27), (Or.inr (sg_of (o36_70 l2 u2) (Pw.sy (Pw.fr u_2 (by decide))) e_7 e_14 (o36_78 e_12 e_13 e_16 c_17)))⟩ dX12_costOf_69
    · -- 22
      refine lv_aload_n C0.1 C0.2.1 dX12_costOf_25 rfl (lv_at hl 1 rfl) ?_
      refine ng_X12_mays C0 h kSM_0 q_1462 dX12_costOf_26 ?_
      refine y_c2 (n := 100) C0 (by decide) dX12_costOf_29 (fun v_28 e_29 => ?_)
      refine lv_iload_n C0.1 C0.2.1 dX12_costOf_31 rfl (lv_at hl 2 rfl) ?_
      refine y_cmul (n := 100) C0 (o36_25 e_29) (o36_79 l1 u1 (le_min a1) (le_max a1)) (o36_80 l1 u1 (le_min a1) (le_max a1)) dX12_costOf_32 (fun v_30 e_31 => ?_)
      refine y_c1 (n := 4) C0 (by decide) dX12_costOf_33 (fun v_32 e_33 => ?_)
      refine lv_iload_n C0.1 C0.2.1 dX12_costOf_34 rfl (lv_at hl 3 rfl) ?_
      refine y_cmul (n := 4) C0 (o36_28 e_33) (o36_81 l2 u2 (le_min a2) (le_max a2)) (o36_82 l2 u2 (le_min a2) (le_max a2)) dX12_costOf_35 (fun v_34 e_35 => ?_)
      refine y_add C0 (o36_83 l1 u1 l2 u2 e_31 e_35 (le_min v_30) (le_max v_30) (le_min v_34) (le_max v_34) (le_min a1) (le_max a1) (le_min a2) (le_max a2)) (o36_84 l1 u1 l2 u2 e_31 e_35 (le_min v_30) (le_max v_30) (le_min v_34) (le_max v_34) (le_min a1) (le_max a1) (le_min a2) (le_max a2)) dX12_costOf_36 (fun v_36 e_37 => ?_)
      refine lv_iload C0.1 C0.2.1 dX12_costOf_37 (lv_at hl 0 rfl) ?_
      refine y_add C0 (o36_85 l1 u1 l2 u2 e_5 e_6 e_31 e_35 e_37 (le_min v_36) (le_max v_36) (le_min r_4) (le_max r_4) (le_min a1) (le_max a1) (le_min a2) (le_max a2) (le_min v_30) (le_max v_30) (le_min v_34) (le_max v_34)) (o36_86 l1 u1 l2 u2 e_5 e_6 e_31 e_35 e_37 (le_min v_36) (le_max v_36) (le_min r_4) (le_max r_4) (le_min a1) (le_max a1) (le_min a2) (le_max a2) (le_min v_30) (le_max v_30) (le_min v_34) (le_max v_34)) dX12_costOf_39 (fun v_38 e_39 => ?_)
      refine y_zald C0 h kSM_11 rfl (by decide) (o36_87 l1 u1 l2 u2 e_5 e_6 e_31 e_35 e_37 e_39) (o36_88 l1 u1 l2 u2 e_5 e_6 e_31 e_35 e_37 e_39) dX12_costOf_40 (fun v_40 e_41 e_42 e_43 => ?_)
      refine y_if_ne (tgt := 48) C0 dX12_costOf_41 (by decide) (fun c_44 => ?_) (fun c_44 => ?_)
      · -- 41
        refine lv_iload C0.1 C0.2.1 dX12_costOf_48 (lv_at hl 5 rfl) ?_
        refine y_c1 (n := 2) C0 (by decide) dX12_costOf_50 (fun v_45 e_46 => ?_)
        refine y_icmp_lt (tgt := 68) C0 dX12_costOf_51 (by decide) (fun c_47 => ((o36_89 l4 u4 e_21 c_22 e_46 c_47)).elim) (fun c_47 => ?_)
        refine lv_aload_n C0.1 C0.2.1 dX12_costOf_54 rfl (lv_at hl 1 rfl) ?_
        refine ng_X12_frees C0 h kSM_0 q_1463 dX12_costOf_55 ?_
        refine y_c2 (n := 25) C0 (by decide) dX12_costOf_58 (fun v_48 e_49 => ?_)
        refine lv_iload_n C0.1 C0.2.1 dX12_costOf_60 rfl (lv_at hl 2 rfl) ?_
        refine y_cmul (n := 25) C0 (o36_8 e_49) (o36_90 l1 u1 l2 u2 e_5 e_6 e_31 e_35 e_37 e_39 (le_min a1) (le_max a1) (le_min a2) (le_max a2) (le_min r_4) (le_max r_4) (le_min v_30) (le_max v_30) (le_min v_34) (le_max v_34) (le_min v_36) (le_max v_36) (le_min v_38) (le_max v_38)) (o36_91 l1 u1 l2 u2 e_5 e_6 e_31 e_35 e_37 e_39 (le_min a1) (le_max a1) (le_min a2) (le_max a2) (le_min r_4) (le_max r_4) (le_min v_30) (le_max v_30) (le_min v_34) (le_max v_34) (le_min v_36) (le_max v_36) (le_min v_38) (le_max v_38)) dX12_costOf_61 (fun v_50 e_51 => ?_)
        refine lv_iload_n C0.1 C0.2.1 dX12_costOf_62 rfl (lv_at hl 3 rfl) ?_
        refine y_add C0 (o36_92 l1 u1 l2 u2 e_5 e_6 e_31 e_35 e_37 e_39 e_51 (le_min v_50) (le_max v_50) (le_min a2) (le_max a2) (le_min a1) (le_max a1) (le_min r_4) (le_max r_4) (le_min v_30) (le_max v_30) (le_min v_34) (le_max v_34) (le_min v_36) (le_max v_36) (le_min v_38) (le_max v_38)) (o36_93 l1 u1 l2 u2 e_5 e_6 e_31 e_35 e_37 e_39 e_51 (le_min v_50) (le_max v_50) (le_min a2) (le_max a2) (le_min a1) (le_max a1) (le_min r_4) (le_max r_4) (le_min v_30) (le_max v_30) (le_min v_34) (le_max v_34) (le_min v_36) (le_max v_36) (le_min v_38) (le_max v_38)) dX12_costOf_63 (fun v_52 e_53 => ?_)
        refine y_zald C0 h kSM_12 rfl (by decide) (o36_94 l1 u1 l2 u2 e_5 e_6 e_31 e_35 e_37 e_39 e_51 e_53) (o36_95 l1 u1 l2 u2 e_5 e_6 e_31 e_35 e_37 e_39 e_51 e_53) dX12_costOf_64 (fun v_54 e_55 e_56 e_57 => ?_)
        refine y_if_eq (tgt := 70) C0 dX12_costOf_65 (by decide) (fun c_58 => ?_) (fun c_58 => ?_)
        · -- 65
          refine lv_iload C0.1 C0.2.1 dX12_costOf_70 (lv_at hl 5 rfl) ?_
          refine y_ci h (y_rS (As := [.int a4]) (rest := []) C0 hZ h (c_X12_leftsOf l G Z ad _ h.2 a4 (o36_96 l4 u4 e_21 c_22 e_46 c_47) (o36_97 l4 u4 e_21 c_22 e_46 c_47)) k_X12_leftsOf q_1769 q_1768 hl.1 rfl rfl (Nat.le_of_ble_eq_true rfl) dX12_costOf_72 ⟨Nat.le_of_ble_eq_true rfl, Nat.le_of_ble_eq_true rfl⟩ ⟨Nat.le_of_ble_eq_true rfl, Nat.le_of_ble_eq_true rfl⟩) (fun r_62 H locs ws_59 h u_60 p_61 => ?_)
          obtain ⟨e_63, e_64, e_65⟩ := p_61
          refine lv_iload C0.1 C0.2.1 dX12_costOf_75 (lv_at hl 6 rfl) ?_
          refine y_if_eq (tgt := 99) C0 dX12_costOf_77 (by decide) (fun c_66 => ?_) (fun c_66 => ((o36_98 l5 u5 c_66)).elim)
          refine y_c1 (n := 1) C0 (by decide) dX12_costOf_99 (fun v_67 e_68 => ?_)
          refine y_mulc (n := 1) C0 (o36_99 e_68) (o36_100 l4 u4 e_21 c_22 e_46 c_47 e_63 e_64 e_65 (le_min r_62) (le_max r_62) (le_min a4) (le_max a4) (le_min v_20) (le_max v_20) (le_min v_45) (le_max v_45)) (o36_101 l4 u4 e_21 c_22 e_46 c_47 e_63 e_64 e_65 (le_min r_62) (le_max r_62) (le_min a4) (le_max a4) (le_min v_20) (le_max v_20) (le_min v_45) (le_max v_45)) dX12_costOf_100 (fun v_69 e_70 => ?_)
          rw [hQ]
          exact y_iret C0 h (Fr.tr (Fr.tr u_2 u_9) u_60) ⟨(o36_102 l4 u4 e_21 c_22 e_46 c_47 e_63 e_64 e_65 e_70), (o36_103 l4 u4 e_21 c_22 e_46 c_47 e_63 e_64 e_65 e_70), (o36_104 l4 u4 e_21 c_22 e_46 c_47 e_63 e_64 e_65 e_70), (Or.inr (sg_of (o36_105 l1 u1 l2 u2 e_5 e_6 e_31 e_35 e_37 e_39 e_51 e_53) (Pw.sy (Pw.fr u_2 (by decide))) e_7 e_14 (o36_78 e_12 e_13 e_16 c_17)))⟩ dX12_costOf_101
        · -- 65
          refine y_c1 (n := 0) C0 (by decide) dX12_costOf_68 (fun v_71 e_72 => ?_)
          rw [hQ]
          exact y_iret C0 h (Fr.tr u_2 u_9) ⟨(o36_61 e_72), (o36_76 e_72), (o36_77 e_72), (Or.inr (sg_of (o36_105 l1 u1 l2 u2 e_5 e_6 e_31 e_35 e_37 e_39 e_51 e_53) (Pw.sy (Pw.fr u_2 (by decide))) e_7 e_14 (o36_78 e_12 e_13 e_16 c_17)))⟩ dX12_costOf_69
      · -- 41
        refine y_c5 (n := 1000000000) C0 q_1887 (by decide) dX12_costOf_44 (fun v_73 e_74 => ?_)
        rw [hQ]
        exact y_iret C0 h (Fr.tr u_2 u_9) ⟨(o36_71 e_74), (o36_72 e_74), (o36_73 e_74), (Or.inl (o36_74 e_74))⟩ dX12_costOf_47
set_option maxHeartbeats 4000000 in
set_option maxRecDepth 100000 in
theorem c_X12_costOf_1 (l : Launch) (G : GG) (Z : RZ) (ad : Nat → Nat) (ws0 : va_W) (hT : Ty G (SM tt) ad ws0) (a1 : Int32) (a2 : Int32) (a3 : Int32) (a4 : Int32) (a5 : Int32) (l1 : 0 ≤ a1.toInt) (u1 : a1.toInt ≤ 60) (l2 : 0 ≤ a2.toInt) (u2 : a2.toInt ≤ 24) (l3 : 0 ≤ a3.toInt) (u3 : a3.toInt ≤ 3) (l4 : 0 ≤ a4.toInt) (u4 : a4.toInt ≤ 3) (l5 : 0 ≤ a5.toInt) (u5 : a5.toInt ≤ 1) (hLd : Laid ws0) : Mq l yX12_costOf cX12_costOf 7 (some .int) 4 G Z [.ref (ad 0), .int a1, .int a2, .int a3, .int a4, .int a5] ws0 (PI G (SM tt) ad [] ws0 (fun r u => (r.toInt = 1000000000 ∨ SG ws0 a2.toInt (dirI a3.toInt a4.toInt)))) := by
  refine Mq.start (by decide) (Nat.le_of_ble_eq_true rfl) ?_
  intro p e s m below meth c A ls C0 hZ h hl
  have hl : lv_has ls 7 [(0, .ref (ad 0)), (1, .int a1), (2, .int a2), (3, .int a3), (4, .int a4), (5, .int a5)] := hl
  have h : Wt G (SM tt) ad A s s.heap [] ws0 := ⟨h, hT⟩
  obtain ⟨args, hargs⟩ : ∃ z, z = ([.ref (ad 0), .int a1, .int a2, .int a3, .int a4, .int a5] : List Value).toArray := ⟨_, rfl⟩
  rw [← hargs] at C0 ⊢
  have C0 : Cx p s m args meth c RX12 cX12_costOf 7 (some .int) := C0
  obtain ⟨Q, hQ⟩ : ∃ z, z = MQ below ((PI G (SM tt) ad [] ws0 (fun r u => (r.toInt = 1000000000 ∨ SG ws0 a2.toInt (dirI a3.toInt a4.toInt)))) A) args s 0 0 A := ⟨_, rfl⟩
  rw [← hQ]
  refine lv_iload_n C0.1 C0.2.1 dX12_costOf_0 rfl (lv_at hl 3 rfl) ?_
  refine lv_iload C0.1 C0.2.1 dX12_costOf_1 (lv_at hl 4 rfl) ?_
  refine y_ci h (y_rS (As := [.int a3, .int a4]) (rest := []) C0 hZ h (c_X12_directionBy l G Z ad _ h.2 a3 a4 (o36_67 l3 u3) (o36_68 l3 u3) (o36_67 l4 u4) (o36_68 l4 u4)) k_X12_directionBy q_1761 q_1760 hl.1 rfl rfl (Nat.le_of_ble_eq_true rfl) dX12_costOf_3 ⟨Nat.le_of_ble_eq_true rfl, Nat.le_of_ble_eq_true rfl⟩ ⟨Nat.le_of_ble_eq_true rfl, Nat.le_of_ble_eq_true rfl⟩) (fun r_4 H locs ws_1 h u_2 p_3 => ?_)
  obtain ⟨e_5, e_6, e_7⟩ := p_3
  refine lv_istore (lv' := [(6, .int r_4), (0, .ref (ad 0)), (1, .int a1), (2, .int a2), (3, .int a3), (4, .int a4), (5, .int a5)]) C0.1 C0.2.1 dX12_costOf_6 hl (by decide) rfl (fun ls hl => ?_)
  refine lv_aload_n C0.1 C0.2.1 dX12_costOf_8 rfl (lv_at hl 1 rfl) ?_
  refine lv_iload_n C0.1 C0.2.1 dX12_costOf_9 rfl (lv_at hl 3 rfl) ?_
  refine lv_iload C0.1 C0.2.1 dX12_costOf_10 (lv_at hl 0 rfl) ?_
  refine y_ci h (y_rV (As := [.int a2, .int r_4]) (rest := []) C0 hZ h (c_X12_streetFrom l G Z ad _ h.2 a2 r_4 (o36_69 l2 u2) (o36_70 l2 u2) (o36_67 e_5 e_6) (o36_68 e_5 e_6) (Laid.pa hLd (Pa.fr u_2 (by decide)))) k_X12_streetFrom q_1713 q_80 q_1711 kSM_0 rfl rfl rfl hl.1 rfl rfl (Nat.le_of_ble_eq_true rfl) dX12_costOf_12 ⟨Nat.le_of_ble_eq_true rfl, Nat.le_of_ble_eq_true rfl⟩ ⟨Nat.le_of_ble_eq_true rfl, Nat.le_of_ble_eq_true rfl⟩) (fun r_11 H locs ws_8 h u_9 p_10 => ?_)
  obtain ⟨e_12, e_13, e_14⟩ := p_10
  refine y_c1 (n := (-1)) C0 (by decide) dX12_costOf_15 (fun v_15 e_16 => ?_)
  refine y_icmp_eq (tgt := 44) C0 dX12_costOf_16 (by decide) (fun c_17 => ?_) (fun c_17 => ?_)
  · -- 16
    refine y_c5 (n := 1000000000) C0 q_1887 (by decide) dX12_costOf_44 (fun v_18 e_19 => ?_)
    rw [hQ]
    exact y_iret C0 h (Fr.tr u_2 u_9) (Or.inl (o36_74 e_19)) dX12_costOf_47
  · -- 16
    refine lv_iload C0.1 C0.2.1 dX12_costOf_19 (lv_at hl 5 rfl) ?_
    refine y_c1 (n := 1) C0 (by decide) dX12_costOf_21 (fun v_20 e_21 => ?_)
    refine y_icmp_le (tgt := 48) C0 dX12_costOf_22 (by decide) (fun c_22 => ?_) (fun c_22 => ?_)
    · -- 22
      refine lv_iload C0.1 C0.2.1 dX12_costOf_48 (lv_at hl 5 rfl) ?_
      refine y_c1 (n := 2) C0 (by decide) dX12_costOf_50 (fun v_23 e_24 => ?_)
      refine y_icmp_lt (tgt := 68) C0 dX12_costOf_51 (by decide) (fun c_25 => ?_) (fun c_25 => ((o36_75 l4 u4 e_21 c_22 e_24 c_25)).elim)
      refine y_c1 (n := 0) C0 (by decide) dX12_costOf_68 (fun v_26 e_27 => ?_)
      rw [hQ]
      exact y_iret C0 h (Fr.tr u_2 u_9) (Or.inr (sg_of (o36_70 l2 u2) (Pw.sy (Pw.fr u_2 (by decide))) e_7 e_14 (o36_78 e_12 e_13 e_16 c_17))) dX12_costOf_69
    · -- 22
      refine lv_aload_n C0.1 C0.2.1 dX12_costOf_25 rfl (lv_at hl 1 rfl) ?_
      refine ng_X12_mays C0 h kSM_0 q_1462 dX12_costOf_26 ?_
      refine y_c2 (n := 100) C0 (by decide) dX12_costOf_29 (fun v_28 e_29 => ?_)
      refine lv_iload_n C0.1 C0.2.1 dX12_costOf_31 rfl (lv_at hl 2 rfl) ?_
      refine y_cmul (n := 100) C0 (o36_25 e_29) (o36_79 l1 u1 (le_min a1) (le_max a1)) (o36_80 l1 u1 (le_min a1) (le_max a1)) dX12_costOf_32 (fun v_30 e_31 => ?_)
      refine y_c1 (n := 4) C0 (by decide) dX12_costOf_33 (fun v_32 e_33 => ?_)
      refine lv_iload_n C0.1 C0.2.1 dX12_costOf_34 rfl (lv_at hl 3 rfl) ?_
      refine y_cmul (n := 4) C0 (o36_28 e_33) (o36_81 l2 u2 (le_min a2) (le_max a2)) (o36_82 l2 u2 (le_min a2) (le_max a2)) dX12_costOf_35 (fun v_34 e_35 => ?_)
      refine y_add C0 (o36_83 l1 u1 l2 u2 e_31 e_35 (le_min v_30) (le_max v_30) (le_min v_34) (le_max v_34) (le_min a1) (le_max a1) (le_min a2) (le_max a2)) (o36_84 l1 u1 l2 u2 e_31 e_35 (le_min v_30) (le_max v_30) (le_min v_34) (le_max v_34) (le_min a1) (le_max a1) (le_min a2) (le_max a2)) dX12_costOf_36 (fun v_36 e_37 => ?_)
      refine lv_iload C0.1 C0.2.1 dX12_costOf_37 (lv_at hl 0 rfl) ?_
      refine y_add C0 (o36_85 l1 u1 l2 u2 e_5 e_6 e_31 e_35 e_37 (le_min v_36) (le_max v_36) (le_min r_4) (le_max r_4) (le_min a1) (le_max a1) (le_min a2) (le_max a2) (le_min v_30) (le_max v_30) (le_min v_34) (le_max v_34)) (o36_86 l1 u1 l2 u2 e_5 e_6 e_31 e_35 e_37 (le_min v_36) (le_max v_36) (le_min r_4) (le_max r_4) (le_min a1) (le_max a1) (le_min a2) (le_max a2) (le_min v_30) (le_max v_30) (le_min v_34) (le_max v_34)) dX12_costOf_39 (fun v_38 e_39 => ?_)
      refine y_zald C0 h kSM_11 rfl (by decide) (o36_87 l1 u1 l2 u2 e_5 e_6 e_31 e_35 e_37 e_39) (o36_88 l1 u1 l2 u2 e_5 e_6 e_31 e_35 e_37 e_39) dX12_costOf_40 (fun v_40 e_41 e_42 e_43 => ?_)
      refine y_if_ne (tgt := 48) C0 dX12_costOf_41 (by decide) (fun c_44 => ?_) (fun c_44 => ?_)
      · -- 41
        refine lv_iload C0.1 C0.2.1 dX12_costOf_48 (lv_at hl 5 rfl) ?_
        refine y_c1 (n := 2) C0 (by decide) dX12_costOf_50 (fun v_45 e_46 => ?_)
        refine y_icmp_lt (tgt := 68) C0 dX12_costOf_51 (by decide) (fun c_47 => ((o36_89 l4 u4 e_21 c_22 e_46 c_47)).elim) (fun c_47 => ?_)
        refine lv_aload_n C0.1 C0.2.1 dX12_costOf_54 rfl (lv_at hl 1 rfl) ?_
        refine ng_X12_frees C0 h kSM_0 q_1463 dX12_costOf_55 ?_
        refine y_c2 (n := 25) C0 (by decide) dX12_costOf_58 (fun v_48 e_49 => ?_)
        refine lv_iload_n C0.1 C0.2.1 dX12_costOf_60 rfl (lv_at hl 2 rfl) ?_
        refine y_cmul (n := 25) C0 (o36_8 e_49) (o36_90 l1 u1 l2 u2 e_5 e_6 e_31 e_35 e_37 e_39 (le_min a1) (le_max a1) (le_min a2) (le_max a2) (le_min r_4) (le_max r_4) (le_min v_30) (le_max v_30) (le_min v_34) (le_max v_34) (le_min v_36) (le_max v_36) (le_min v_38) (le_max v_38)) (o36_91 l1 u1 l2 u2 e_5 e_6 e_31 e_35 e_37 e_39 (le_min a1) (le_max a1) (le_min a2) (le_max a2) (le_min r_4) (le_max r_4) (le_min v_30) (le_max v_30) (le_min v_34) (le_max v_34) (le_min v_36) (le_max v_36) (le_min v_38) (le_max v_38)) dX12_costOf_61 (fun v_50 e_51 => ?_)
        refine lv_iload_n C0.1 C0.2.1 dX12_costOf_62 rfl (lv_at hl 3 rfl) ?_
        refine y_add C0 (o36_92 l1 u1 l2 u2 e_5 e_6 e_31 e_35 e_37 e_39 e_51 (le_min v_50) (le_max v_50) (le_min a2) (le_max a2) (le_min a1) (le_max a1) (le_min r_4) (le_max r_4) (le_min v_30) (le_max v_30) (le_min v_34) (le_max v_34) (le_min v_36) (le_max v_36) (le_min v_38) (le_max v_38)) (o36_93 l1 u1 l2 u2 e_5 e_6 e_31 e_35 e_37 e_39 e_51 (le_min v_50) (le_max v_50) (le_min a2) (le_max a2) (le_min a1) (le_max a1) (le_min r_4) (le_max r_4) (le_min v_30) (le_max v_30) (le_min v_34) (le_max v_34) (le_min v_36) (le_max v_36) (le_min v_38) (le_max v_38)) dX12_costOf_63 (fun v_52 e_53 => ?_)
        refine y_zald C0 h kSM_12 rfl (by decide) (o36_94 l1 u1 l2 u2 e_5 e_6 e_31 e_35 e_37 e_39 e_51 e_53) (o36_95 l1 u1 l2 u2 e_5 e_6 e_31 e_35 e_37 e_39 e_51 e_53) dX12_costOf_64 (fun v_54 e_55 e_56 e_57 => ?_)
        refine y_if_eq (tgt := 70) C0 dX12_costOf_65 (by decide) (fun c_58 => ?_) (fun c_58 => ?_)
        · -- 65
          refine lv_iload C0.1 C0.2.1 dX12_costOf_70 (lv_at hl 5 rfl) ?_
          refine y_ci h (y_rS (As := [.int a4]) (rest := []) C0 hZ h (c_X12_leftsOf l G Z ad _ h.2 a4 (o36_96 l4 u4 e_21 c_22 e_46 c_47) (o36_97 l4 u4 e_21 c_22 e_46 c_47)) k_X12_leftsOf q_1769 q_1768 hl.1 rfl rfl (Nat.le_of_ble_eq_true rfl) dX12_costOf_72 ⟨Nat.le_of_ble_eq_true rfl, Nat.le_of_ble_eq_true rfl⟩ ⟨Nat.le_of_ble_eq_true rfl, Nat.le_of_ble_eq_true rfl⟩) (fun r_62 H locs ws_59 h u_60 p_61 => ?_)
          obtain ⟨e_63, e_64, e_65⟩ := p_61
          refine lv_iload C0.1 C0.2.1 dX12_costOf_75 (lv_at hl 6 rfl) ?_
          refine y_if_eq (tgt := 99) C0 dX12_costOf_77 (by decide) (fun c_66 => ?_) (fun c_66 => ?_)
          · -- 77
            refine y_c1 (n := 1) C0 (by decide) dX12_costOf_99 (fun v_67 e_68 => ?_)
            refine y_mulc (n := 1) C0 (o36_99 e_68) (o36_100 l4 u4 e_21 c_22 e_46 c_47 e_63 e_64 e_65 (le_min r_62) (le_max r_62) (le_min a4) (le_max a4) (le_min v_20) (le_max v_20) (le_min v_45) (le_max v_45)) (o36_101 l4 u4 e_21 c_22 e_46 c_47 e_63 e_64 e_65 (le_min r_62) (le_max r_62) (le_min a4) (le_max a4) (le_min v_20) (le_max v_20) (le_min v_45) (le_max v_45)) dX12_costOf_100 (fun v_69 e_70 => ?_)
            rw [hQ]
            exact y_iret C0 h (Fr.tr (Fr.tr u_2 u_9) u_60) (Or.inr (sg_of (o36_105 l1 u1 l2 u2 e_5 e_6 e_31 e_35 e_37 e_39 e_51 e_53) (Pw.sy (Pw.fr u_2 (by decide))) e_7 e_14 (o36_78 e_12 e_13 e_16 c_17))) dX12_costOf_101
          · -- 77
            refine lv_aload_n C0.1 C0.2.1 dX12_costOf_80 rfl (lv_at hl 1 rfl) ?_
            refine ng_X12_prices C0 h kSM_0 q_1461 dX12_costOf_81 ?_
            refine y_c2 (n := 100) C0 (by decide) dX12_costOf_84 (fun v_71 e_72 => ?_)
            refine lv_iload_n C0.1 C0.2.1 dX12_costOf_86 rfl (lv_at hl 2 rfl) ?_
            refine y_cmul (n := 100) C0 (o36_25 e_72) (o36_106 l1 u1 l2 u2 e_5 e_6 e_31 e_35 e_37 e_39 e_51 e_53 (le_min a1) (le_max a1) (le_min a2) (le_max a2) (le_min r_4) (le_max r_4) (le_min v_30) (le_max v_30) (le_min v_34) (le_max v_34) (le_min v_36) (le_max v_36) (le_min v_38) (le_max v_38) (le_min v_50) (le_max v_50) (le_min v_52) (le_max v_52)) (o36_107 l1 u1 l2 u2 e_5 e_6 e_31 e_35 e_37 e_39 e_51 e_53 (le_min a1) (le_max a1) (le_min a2) (le_max a2) (le_min r_4) (le_max r_4) (le_min v_30) (le_max v_30) (le_min v_34) (le_max v_34) (le_min v_36) (le_max v_36) (le_min v_38) (le_max v_38) (le_min v_50) (le_max v_50) (le_min v_52) (le_max v_52)) dX12_costOf_87 (fun v_73 e_74 => ?_)
            refine y_c1 (n := 4) C0 (by decide) dX12_costOf_88 (fun v_75 e_76 => ?_)
            refine lv_iload_n C0.1 C0.2.1 dX12_costOf_89 rfl (lv_at hl 3 rfl) ?_
            refine y_cmul (n := 4) C0 (o36_28 e_76) (o36_108 l1 u1 l2 u2 e_5 e_6 e_31 e_35 e_37 e_39 e_51 e_53 e_74 (le_min a2) (le_max a2) (le_min a1) (le_max a1) (le_min r_4) (le_max r_4) (le_min v_30) (le_max v_30) (le_min v_34) (le_max v_34) (le_min v_36) (le_max v_36) (le_min v_38) (le_max v_38) (le_min v_50) (le_max v_50) (le_min v_52) (le_max v_52) (le_min v_73) (le_max v_73)) (o36_109 l1 u1 l2 u2 e_5 e_6 e_31 e_35 e_37 e_39 e_51 e_53 e_74 (le_min a2) (le_max a2) (le_min a1) (le_max a1) (le_min r_4) (le_max r_4) (le_min v_30) (le_max v_30) (le_min v_34) (le_max v_34) (le_min v_36) (le_max v_36) (le_min v_38) (le_max v_38) (le_min v_50) (le_max v_50) (le_min v_52) (le_max v_52) (le_min v_73) (le_max v_73)) dX12_costOf_90 (fun v_77 e_78 => ?_)
            refine y_add C0 (o36_110 l1 u1 l2 u2 e_5 e_6 e_31 e_35 e_37 e_39 e_51 e_53 e_74 e_78 (le_min v_73) (le_max v_73) (le_min v_77) (le_max v_77) (le_min a1) (le_max a1) (le_min a2) (le_max a2) (le_min r_4) (le_max r_4) (le_min v_30) (le_max v_30) (le_min v_34) (le_max v_34) (le_min v_36) (le_max v_36) (le_min v_38) (le_max v_38) (le_min v_50) (le_max v_50) (le_min v_52) (le_max v_52)) (o36_111 l1 u1 l2 u2 e_5 e_6 e_31 e_35 e_37 e_39 e_51 e_53 e_74 e_78 (le_min v_73) (le_max v_73) (le_min v_77) (le_max v_77) (le_min a1) (le_max a1) (le_min a2) (le_max a2) (le_min r_4) (le_max r_4) (le_min v_30) (le_max v_30) (le_min v_34) (le_max v_34) (le_min v_36) (le_max v_36) (le_min v_38) (le_max v_38) (le_min v_50) (le_max v_50) (le_min v_52) (le_max v_52)) dX12_costOf_91 (fun v_79 e_80 => ?_)
            refine lv_iload C0.1 C0.2.1 dX12_costOf_92 (lv_at hl 0 rfl) ?_
            refine y_add C0 (o36_112 l1 u1 l2 u2 e_5 e_6 e_31 e_35 e_37 e_39 e_51 e_53 e_74 e_78 e_80 (le_min v_79) (le_max v_79) (le_min r_4) (le_max r_4) (le_min a1) (le_max a1) (le_min a2) (le_max a2) (le_min v_30) (le_max v_30) (le_min v_34) (le_max v_34) (le_min v_36) (le_max v_36) (le_min v_38) (le_max v_38) (le_min v_50) (le_max v_50) (le_min v_52) (le_max v_52) (le_min v_73) (le_max v_73) (le_min v_77) (le_max v_77)) (o36_113 l1 u1 l2 u2 e_5 e_6 e_31 e_35 e_37 e_39 e_51 e_53 e_74 e_78 e_80 (le_min v_79) (le_max v_79) (le_min r_4) (le_max r_4) (le_min a1) (le_max a1) (le_min a2) (le_max a2) (le_min v_30) (le_max v_30) (le_min v_34) (le_max v_34) (le_min v_36) (le_max v_36) (le_min v_38) (le_max v_38) (le_min v_50) (le_max v_50) (le_min v_52) (le_max v_52) (le_min v_73) (le_max v_73) (le_min v_77) (le_max v_77)) dX12_costOf_94 (fun v_81 e_82 => ?_)
            refine y_iald C0 h kSM_10 rfl (by decide) (o36_114 l1 u1 l2 u2 e_5 e_6 e_31 e_35 e_37 e_39 e_51 e_53 e_74 e_78 e_80 e_82) (o36_115 l1 u1 l2 u2 e_5 e_6 e_31 e_35 e_37 e_39 e_51 e_53 e_74 e_78 e_80 e_82) dX12_costOf_95 (fun v_83 e_84 e_85 e_86 => ?_)
            refine lv_goto (tgt := 100) C0.1 C0.2.1 dX12_costOf_96 (by decide) ?_
            refine y_imulU C0 dX12_costOf_100 (fun v_87 => ?_)
            rw [hQ]
            exact y_iret C0 h (Fr.tr (Fr.tr u_2 u_9) u_60) (Or.inr (sg_of (o36_116 l1 u1 l2 u2 e_5 e_6 e_31 e_35 e_37 e_39 e_51 e_53 e_74 e_78 e_80 e_82) (Pw.sy (Pw.fr u_2 (by decide))) e_7 e_14 (o36_78 e_12 e_13 e_16 c_17))) dX12_costOf_101
        · -- 65
          refine y_c1 (n := 0) C0 (by decide) dX12_costOf_68 (fun v_88 e_89 => ?_)
          rw [hQ]
          exact y_iret C0 h (Fr.tr u_2 u_9) (Or.inr (sg_of (o36_105 l1 u1 l2 u2 e_5 e_6 e_31 e_35 e_37 e_39 e_51 e_53) (Pw.sy (Pw.fr u_2 (by decide))) e_7 e_14 (o36_78 e_12 e_13 e_16 c_17))) dX12_costOf_69
      · -- 41
        refine y_c5 (n := 1000000000) C0 q_1887 (by decide) dX12_costOf_44 (fun v_90 e_91 => ?_)
        rw [hQ]
        exact y_iret C0 h (Fr.tr u_2 u_9) (Or.inl (o36_74 e_91)) dX12_costOf_47
set_option maxHeartbeats 4000000 in
set_option maxRecDepth 100000 in
theorem c_X12_laysSofar (l : Launch) (G : GG) (Z : RZ) (ad : Nat → Nat) (ws0 : va_W) (hT : Ty G (SM tt) ad ws0) (a1 : Int32) (a2 : Int32) (a3 : Int32) (a4 : Int32) (l1 : 0 ≤ a1.toInt) (u1 : a1.toInt ≤ 24) (l2 : 0 ≤ a2.toInt) (u2 : a2.toInt ≤ 3) (l3 : 0 ≤ a3.toInt) (u3 : a3.toInt ≤ 60) (l4 : 0 ≤ a4.toInt) (u4 : a4.toInt ≤ 1) (hLd : Laid ws0) : Mq l yX12_laysSofar cX12_laysSofar 11 none 5 G Z [.ref (ad 0), .int a1, .int a2, .int a3, .int a4] ws0 (PV G (SM tt) ad [8] ws0 (fun u => True)) := by
  refine Mq.start (by decide) (Nat.le_of_ble_eq_true rfl) ?_
  intro p e s m below meth c A ls C0 hZ h hl
  have hl : lv_has ls 11 [(0, .ref (ad 0)), (1, .int a1), (2, .int a2), (3, .int a3), (4, .int a4)] := hl
  have h : Wt G (SM tt) ad A s s.heap [] ws0 := ⟨h, hT⟩
  obtain ⟨args, hargs⟩ : ∃ z, z = ([.ref (ad 0), .int a1, .int a2, .int a3, .int a4] : List Value).toArray := ⟨_, rfl⟩
  rw [← hargs] at C0 ⊢
  have C0 : Cx p s m args meth c RX12 cX12_laysSofar 11 none := C0
  obtain ⟨Q, hQ⟩ : ∃ z, z = MQ below ((PV G (SM tt) ad [8] ws0 (fun u => True)) A) args s 0 0 A := ⟨_, rfl⟩
  rw [← hQ]
  refine y_c1 (n := 0) C0 (by decide) dX12_laysSofar_0 (fun v_1 e_2 => ?_)
  refine lv_istore (lv' := [(5, .int v_1), (0, .ref (ad 0)), (1, .int a1), (2, .int a2), (3, .int a3), (4, .int a4)]) C0.1 C0.2.1 dX12_laysSofar_1 hl (by decide) rfl (fun ls hl => ?_)
  have lp_6 : ∀ (n_8 : Nat) (x5_3 : Int32) (H : Heap) (locs : List Loc) (ls : Array Slot) (ws_4 : va_W), 6100 - x5_3.toInt < (n_8 : Int) → 0 ≤ x5_3.toInt → x5_3.toInt ≤ 6100 → Wt G (SM tt) ad A s H locs ws_4 → Fr (SM tt) [8] ws0 ws_4 → lv_has ls 11 [(5, .int x5_3), (0, .ref (ad 0)), (1, .int a1), (2, .int a2), (3, .int a3), (4, .int a4)] → W p l e (rmd 5 0 0) s m args below meth c H locs 0 0 Q (F0 m 3 ls []) := by
    intro n_8
    induction n_8 with
    | zero => intro x5_3 H locs ls ws_4 hn_9 b_10 b_11 h hF_5 hl; exact ((o36_117 b_10 b_11 hn_9)).elim
    | succ n_8 ih_7 =>
      intro x5_3 H locs ls ws_4 hn_9 b_10 b_11 h hF_5 hl
      refine lv_iload C0.1 C0.2.1 dX12_laysSofar_3 (lv_at hl 0 rfl) ?_
      refine y_c2 (n := 100) C0 (by decide) dX12_laysSofar_5 (fun v_12 e_13 => ?_)
      refine lv_iload_n C0.1 C0.2.1 dX12_laysSofar_7 rfl (lv_at hl 4 rfl) ?_
      refine y_c1 (n := 1) C0 (by decide) dX12_laysSofar_8 (fun v_14 e_15 => ?_)
      refine y_add C0 (o36_118 l3 u3 e_15 (le_min a3) (le_max a3) (le_min v_14) (le_max v_14)) (o36_119 l3 u3 e_15 (le_min a3) (le_max a3) (le_min v_14) (le_max v_14)) dX12_laysSofar_9 (fun v_16 e_17 => ?_)
      refine y_cmul (n := 100) C0 (o36_25 e_13) (o36_120 l3 u3 e_15 e_17 (le_min v_16) (le_max v_16) (le_min a3) (le_max a3) (le_min v_14) (le_max v_14)) (o36_121 l3 u3 e_15 e_17 (le_min v_16) (le_max v_16) (le_min a3) (le_max a3) (le_min v_14) (le_max v_14)) dX12_laysSofar_10 (fun v_18 e_19 => ?_)
      refine y_icmp_ge (tgt := 30) C0 dX12_laysSofar_11 (by decide) (fun c_20 => ?_) (fun c_20 => ?_)
      · -- 11
        refine lv_aload_n C0.1 C0.2.1 dX12_laysSofar_30 rfl (lv_at hl 1 rfl) ?_
        refine ng_X12_sofar C0 h kSM_0 q_1459 dX12_laysSofar_31 ?_
        refine y_c1 (n := 4) C0 (by decide) dX12_laysSofar_34 (fun v_21 e_22 => ?_)
        refine lv_iload_n C0.1 C0.2.1 dX12_laysSofar_35 rfl (lv_at hl 2 rfl) ?_
        refine y_cmul (n := 4) C0 (o36_28 e_22) (o36_81 l1 u1 (le_min a1) (le_max a1)) (o36_82 l1 u1 (le_min a1) (le_max a1)) dX12_laysSofar_36 (fun v_23 e_24 => ?_)
        refine lv_iload_n C0.1 C0.2.1 dX12_laysSofar_37 rfl (lv_at hl 3 rfl) ?_
        refine y_add C0 (o36_122 l1 u1 l2 u2 e_24 (le_min v_23) (le_max v_23) (le_min a2) (le_max a2) (le_min a1) (le_max a1)) (o36_123 l1 u1 l2 u2 e_24 (le_min v_23) (le_max v_23) (le_min a2) (le_max a2) (le_min a1) (le_max a1)) dX12_laysSofar_38 (fun v_25 e_26 => ?_)
        refine y_c1 (n := 0) C0 (by decide) dX12_laysSofar_39 (fun v_27 e_28 => ?_)
        refine y_iast C0 h kSM_8 rfl (by decide) (o36_124 l1 u1 l2 u2 e_24 e_26) (o36_125 l1 u1 l2 u2 e_24 e_26) (le_min v_27) (le_max v_27) dX12_laysSofar_40 (fun H locs ws_29 h u_30 => ?_)
        refine y_c1 (n := 0) C0 (by decide) dX12_laysSofar_41 (fun v_31 e_32 => ?_)
        refine lv_istore (lv' := [(5, .int v_31), (0, .ref (ad 0)), (1, .int a1), (2, .int a2), (3, .int a3), (4, .int a4)]) C0.1 C0.2.1 dX12_laysSofar_42 hl (by decide) rfl (fun ls hl => ?_)
        have lp_36 : ∀ (n_38 : Nat) (x5_33 : Int32) (H : Heap) (locs : List Loc) (ls : Array Slot) (ws_34 : va_W), 60 - x5_33.toInt < (n_38 : Int) → 0 ≤ x5_33.toInt → x5_33.toInt ≤ 60 → Wt G (SM tt) ad A s H locs ws_34 → Fr (SM tt) [8] ws_29 ws_34 → lv_has ls 11 [(5, .int x5_33), (0, .ref (ad 0)), (1, .int a1), (2, .int a2), (3, .int a3), (4, .int a4)] → W p l e (rmd 5 0 0) s m args below meth c H locs 0 0 Q (F0 m 44 ls []) := by
          intro n_38
          induction n_38 with
          | zero => intro x5_33 H locs ls ws_34 hn_39 b_40 b_41 h hF_35 hl; exact ((o36_126 b_40 b_41 hn_39)).elim
          | succ n_38 ih_37 =>
            intro x5_33 H locs ls ws_34 hn_39 b_40 b_41 h hF_35 hl
            refine lv_iload C0.1 C0.2.1 dX12_laysSofar_44 (lv_at hl 0 rfl) ?_
            refine lv_iload_n C0.1 C0.2.1 dX12_laysSofar_46 rfl (lv_at hl 4 rfl) ?_
            refine y_icmp_ge (tgt := 213) C0 dX12_laysSofar_47 (by decide) (fun c_42 => ?_) (fun c_42 => ?_)
            · -- 47
              rw [hQ]
              exact y_vret C0 h (Fr.tr (Fr.tr hF_5 (Fr.up u_30.1 kSM_8 (by decide))) hF_35) trivial dX12_laysSofar_213
            · -- 47
              refine y_c1 (n := 0) C0 (by decide) dX12_laysSofar_50 (fun v_43 e_44 => ?_)
              refine lv_istore (lv' := [(6, .int v_43), (5, .int x5_33), (0, .ref (ad 0)), (1, .int a1), (2, .int a2), (3, .int a3), (4, .int a4)]) C0.1 C0.2.1 dX12_laysSofar_51 hl (by decide) rfl (fun ls hl => ?_)
              have lp_48 : ∀ (n_50 : Nat) (x6_45 : Int32) (H : Heap) (locs : List Loc) (ls : Array Slot) (ws_46 : va_W), 100 - x6_45.toInt < (n_50 : Int) → 0 ≤ x6_45.toInt → x6_45.toInt ≤ 100 → Wt G (SM tt) ad A s H locs ws_46 → Fr (SM tt) [8] ws_34 ws_46 → lv_has ls 11 [(6, .int x6_45), (5, .int x5_33), (0, .ref (ad 0)), (1, .int a1), (2, .int a2), (3, .int a3), (4, .int a4)] → W p l e (rmd 5 0 0) s m args below meth c H locs 0 0 Q (F0 m 53 ls []) := by
                intro n_50
                induction n_50 with
                | zero => intro x6_45 H locs ls ws_46 hn_51 b_52 b_53 h hF_47 hl; exact ((o36_127 b_52 b_53 hn_51)).elim
                | succ n_50 ih_49 =>
                  intro x6_45 H locs ls ws_46 hn_51 b_52 b_53 h hF_47 hl
                  refine lv_iload C0.1 C0.2.1 dX12_laysSofar_53 (lv_at hl 0 rfl) ?_
                  refine y_c1 (n := 4) C0 (by decide) dX12_laysSofar_55 (fun v_54 e_55 => ?_)
                  refine lv_aload_n C0.1 C0.2.1 dX12_laysSofar_56 rfl (lv_at hl 2 rfl) ?_
                  refine y_ci h (y_rV (As := []) (rest := [.int v_54, .int x6_45]) C0 hZ h (c_X12_crossings l G Z ad _ h.2) k_X12_crossings q_1705 q_79 q_1703 kSM_0 rfl rfl rfl hl.1 rfl rfl (Nat.le_of_ble_eq_true rfl) dX12_laysSofar_57 ⟨Nat.le_of_ble_eq_true rfl, Nat.le_of_ble_eq_true rfl⟩ ⟨Nat.le_of_ble_eq_true rfl, Nat.le_of_ble_eq_true rfl⟩) (fun r_59 H locs ws_56 h u_57 p_58 => ?_)
                  obtain ⟨e_60, e_61, e_62⟩ := p_58
                  refine y_cmul (n := 4) C0 (o36_28 e_55) (o36_128 e_60 e_61 (le_min r_59) (le_max r_59)) (o36_129 e_60 e_61 (le_min r_59) (le_max r_59)) dX12_laysSofar_60 (fun v_63 e_64 => ?_)
                  refine y_icmp_ge (tgt := 207) C0 dX12_laysSofar_61 (by decide) (fun c_65 => ?_) (fun c_65 => ?_)
                  · -- 61
                    refine y_inc (kp := 1) (n := 1) (fun v_66 => [(5, .int v_66), (6, .int x6_45), (0, .ref (ad 0)), (1, .int a1), (2, .int a2), (3, .int a3), (4, .int a4)]) C0 hl rfl (by decide) (by decide) (fun _ => rfl) (o36_130 l3 u3 b_10 b_11 hn_9 e_15 e_17 e_19 c_20 b_40 b_41 hn_39 c_42 (le_min x5_33) (le_max x5_33) (le_min a3) (le_max a3) (le_min x5_3) (le_max x5_3) (le_min v_14) (le_max v_14) (le_min v_16) (le_max v_16) (le_min v_18) (le_max v_18)) (o36_131 l3 u3 b_10 b_11 hn_9 e_15 e_17 e_19 c_20 b_40 b_41 hn_39 c_42 (le_min x5_33) (le_max x5_33) (le_min a3) (le_max a3) (le_min x5_3) (le_max x5_3) (le_min v_14) (le_max v_14) (le_min v_16) (le_max v_16) (le_min v_18) (le_max v_18)) dX12_laysSofar_207 (fun v_66 ls e_67 hl => ?_)
                    refine lv_goto (tgt := 44) C0.1 C0.2.1 dX12_laysSofar_210 (by decide) ?_
                    exact ih_37 v_66 _ _ _ _ (o36_132 l3 u3 b_10 b_11 hn_9 e_15 e_17 e_19 c_20 b_40 b_41 hn_39 c_42 e_67) (o36_133 l3 u3 b_10 b_11 hn_9 e_15 e_17 e_19 c_20 b_40 b_41 hn_39 c_42 e_67) (o36_134 l3 u3 b_10 b_11 hn_9 e_15 e_17 e_19 c_20 b_40 b_41 hn_39 c_42 e_67) h (Fr.tr (Fr.tr hF_35 hF_47) (Fr.mono u_57 (by decide))) (lv_sub hl [0, 2, 3, 4, 5, 6] rfl)
                  · -- 61
                    refine lv_aload_n C0.1 C0.2.1 dX12_laysSofar_64 rfl (lv_at hl 2 rfl) ?_
                    refine ng_X12_sofar C0 h kSM_0 q_1459 dX12_laysSofar_65 ?_
                    refine y_c2 (n := 100) C0 (by decide) dX12_laysSofar_68 (fun v_68 e_69 => ?_)
                    refine lv_iload C0.1 C0.2.1 dX12_laysSofar_70 (lv_at hl 1 rfl) ?_
                    refine y_cmul (n := 100) C0 (o36_25 e_69) (o36_135 l3 u3 b_10 b_11 hn_9 e_15 e_17 e_19 c_20 b_40 b_41 hn_39 c_42 (le_min x5_33) (le_max x5_33) (le_min a3) (le_max a3) (le_min x5_3) (le_max x5_3) (le_min v_14) (le_max v_14) (le_min v_16) (le_max v_16) (le_min v_18) (le_max v_18)) (o36_136 l3 u3 b_10 b_11 hn_9 e_15 e_17 e_19 c_20 b_40 b_41 hn_39 c_42 (le_min x5_33) (le_max x5_33) (le_min a3) (le_max a3) (le_min x5_3) (le_max x5_3) (le_min v_14) (le_max v_14) (le_min v_16) (le_max v_16) (le_min v_18) (le_max v_18)) dX12_laysSofar_72 (fun v_70 e_71 => ?_)
                    refine lv_iload C0.1 C0.2.1 dX12_laysSofar_73 (lv_at hl 0 rfl) ?_
                    refine y_add C0 (o36_137 l3 u3 b_10 b_11 hn_9 e_15 e_17 e_19 c_20 b_40 b_41 hn_39 c_42 b_52 b_53 hn_51 e_60 e_61 e_64 c_65 e_71 (le_min v_70) (le_max v_70) (le_min x6_45) (le_max x6_45) (le_min a3) (le_max a3) (le_min x5_3) (le_max x5_3) (le_min v_14) (le_max v_14) (le_min v_16) (le_max v_16) (le_min v_18) (le_max v_18) (le_min x5_33) (le_max x5_33) (le_min r_59) (le_max r_59) (le_min v_63) (le_max v_63)) (o36_138 l3 u3 b_10 b_11 hn_9 e_15 e_17 e_19 c_20 b_40 b_41 hn_39 c_42 b_52 b_53 hn_51 e_60 e_61 e_64 c_65 e_71 (le_min v_70) (le_max v_70) (le_min x6_45) (le_max x6_45) (le_min a3) (le_max a3) (le_min x5_3) (le_max x5_3) (le_min v_14) (le_max v_14) (le_min v_16) (le_max v_16) (le_min v_18) (le_max v_18) (le_min x5_33) (le_max x5_33) (le_min r_59) (le_max r_59) (le_min v_63) (le_max v_63)) dX12_laysSofar_75 (fun v_72 e_73 => ?_)
                    refine y_iald C0 h kSM_8 rfl (by decide) (o36_139 l3 u3 b_10 b_11 hn_9 e_15 e_17 e_19 c_20 b_40 b_41 hn_39 c_42 b_52 b_53 hn_51 e_60 e_61 e_64 c_65 e_71 e_73) (o36_140 l3 u3 b_10 b_11 hn_9 e_15 e_17 e_19 c_20 b_40 b_41 hn_39 c_42 b_52 b_53 hn_51 e_60 e_61 e_64 c_65 e_71 e_73) dX12_laysSofar_76 (fun v_74 e_75 e_76 e_77 => ?_)
                    refine y_c5 (n := 1000000000) C0 q_1887 (by decide) dX12_laysSofar_77 (fun v_78 e_79 => ?_)
                    refine y_icmp_ne (tgt := 86) C0 dX12_laysSofar_80 (by decide) (fun c_80 => ?_) (fun c_80 => ?_)
                    · -- 80
                      refine y_c1 (n := 0) C0 (by decide) dX12_laysSofar_86 (fun v_81 e_82 => ?_)
                      refine lv_istore (lv' := [(7, .int v_81), (6, .int x6_45), (5, .int x5_33), (0, .ref (ad 0)), (1, .int a1), (2, .int a2), (3, .int a3), (4, .int a4)]) C0.1 C0.2.1 dX12_laysSofar_87 hl (by decide) rfl (fun ls hl => ?_)
                      have lp_86 : ∀ (n_88 : Nat) (x7_83 : Int32) (H : Heap) (locs : List Loc) (ls : Array Slot) (ws_84 : va_W), 4 - x7_83.toInt < (n_88 : Int) → 0 ≤ x7_83.toInt → x7_83.toInt ≤ 4 → Wt G (SM tt) ad A s H locs ws_84 → Fr (SM tt) [8] ws_56 ws_84 → lv_has ls 11 [(7, .int x7_83), (6, .int x6_45), (5, .int x5_33), (0, .ref (ad 0)), (1, .int a1), (2, .int a2), (3, .int a3), (4, .int a4)] → W p l e (rmd 5 0 0) s m args below meth c H locs 0 0 Q (F0 m 89 ls []) := by
                        intro n_88
                        induction n_88 with
                        | zero => intro x7_83 H locs ls ws_84 hn_89 b_90 b_91 h hF_85 hl; exact ((o36_19 b_90 b_91 hn_89)).elim
                        | succ n_88 ih_87 =>
                          intro x7_83 H locs ls ws_84 hn_89 b_90 b_91 h hF_85 hl
                          refine lv_iload C0.1 C0.2.1 dX12_laysSofar_89 (lv_at hl 0 rfl) ?_
                          refine y_c1 (n := 4) C0 (by decide) dX12_laysSofar_91 (fun v_92 e_93 => ?_)
                          refine y_icmp_ge (tgt := 201) C0 dX12_laysSofar_92 (by decide) (fun c_94 => ?_) (fun c_94 => ?_)
                          · -- 92
                            refine y_inc (kp := 1) (n := 1) (fun v_95 => [(6, .int v_95), (7, .int x7_83), (5, .int x5_33), (0, .ref (ad 0)), (1, .int a1), (2, .int a2), (3, .int a3), (4, .int a4)]) C0 hl rfl (by decide) (by decide) (fun _ => rfl) (o36_141 l3 u3 b_10 b_11 hn_9 e_15 e_17 e_19 c_20 b_40 b_41 hn_39 c_42 b_52 b_53 hn_51 e_60 e_61 e_64 c_65 e_71 e_73 (le_min x6_45) (le_max x6_45) (le_min a3) (le_max a3) (le_min x5_3) (le_max x5_3) (le_min v_14) (le_max v_14) (le_min v_16) (le_max v_16) (le_min v_18) (le_max v_18) (le_min x5_33) (le_max x5_33) (le_min r_59) (le_max r_59) (le_min v_63) (le_max v_63) (le_min v_70) (le_max v_70) (le_min v_72) (le_max v_72)) (o36_142 l3 u3 b_10 b_11 hn_9 e_15 e_17 e_19 c_20 b_40 b_41 hn_39 c_42 b_52 b_53 hn_51 e_60 e_61 e_64 c_65 e_71 e_73 (le_min x6_45) (le_max x6_45) (le_min a3) (le_max a3) (le_min x5_3) (le_max x5_3) (le_min v_14) (le_max v_14) (le_min v_16) (le_max v_16) (le_min v_18) (le_max v_18) (le_min x5_33) (le_max x5_33) (le_min r_59) (le_max r_59) (le_min v_63) (le_max v_63) (le_min v_70) (le_max v_70) (le_min v_72) (le_max v_72)) dX12_laysSofar_201 (fun v_95 ls e_96 hl => ?_)
                            refine lv_goto (tgt := 53) C0.1 C0.2.1 dX12_laysSofar_204 (by decide) ?_
                            exact ih_49 v_95 _ _ _ _ (o36_143 l3 u3 b_10 b_11 hn_9 e_15 e_17 e_19 c_20 b_40 b_41 hn_39 c_42 b_52 b_53 hn_51 e_60 e_61 e_64 c_65 e_71 e_73 e_96) (o36_144 l3 u3 b_10 b_11 hn_9 e_15 e_17 e_19 c_20 b_40 b_41 hn_39 c_42 b_52 b_53 hn_51 e_60 e_61 e_64 c_65 e_71 e_73 e_96) (o36_145 l3 u3 b_10 b_11 hn_9 e_15 e_17 e_19 c_20 b_40 b_41 hn_39 c_42 b_52 b_53 hn_51 e_60 e_61 e_64 c_65 e_71 e_73 e_96) h (Fr.tr (Fr.tr hF_47 (Fr.mono u_57 (by decide))) hF_85) (lv_sub hl [0, 2, 3, 4, 5, 6, 7] rfl)
                          · -- 92
                            refine lv_aload_n C0.1 C0.2.1 dX12_laysSofar_95 rfl (lv_at hl 3 rfl) ?_
                            refine lv_iload C0.1 C0.2.1 dX12_laysSofar_96 (lv_at hl 2 rfl) ?_
                            refine lv_iload C0.1 C0.2.1 dX12_laysSofar_98 (lv_at hl 1 rfl) ?_
                            refine y_c1 (n := 4) C0 (by decide) dX12_laysSofar_100 (fun v_97 e_98 => ?_)
                            refine y_divc (n := 4) C0 (o36_28 e_98) (by decide) (o36_146 l3 u3 b_10 b_11 hn_9 e_15 e_17 e_19 c_20 b_40 b_41 hn_39 c_42 b_52 b_53 hn_51 e_60 e_61 e_64 c_65 e_71 e_73) dX12_laysSofar_101 (fun v_99 e_100 => ?_)
                            refine lv_iload C0.1 C0.2.1 dX12_laysSofar_102 (lv_at hl 1 rfl) ?_
                            refine y_c1 (n := 4) C0 (by decide) dX12_laysSofar_104 (fun v_101 e_102 => ?_)
                            refine y_remc (n := 4) C0 (o36_28 e_102) (by decide) (o36_147 l3 u3 b_10 b_11 hn_9 e_15 e_17 e_19 c_20 b_40 b_41 hn_39 c_42 b_52 b_53 hn_51 e_60 e_61 e_64 c_65 e_71 e_73 e_100) dX12_laysSofar_105 (fun v_103 e_104 => ?_)
                            refine lv_iload C0.1 C0.2.1 dX12_laysSofar_106 (lv_at hl 0 rfl) ?_
                            refine lv_iload C0.1 C0.2.1 dX12_laysSofar_108 (lv_at hl 7 rfl) ?_
                            refine y_ci h (y_rV (As := [.int x5_33, .int v_99, .int v_103, .int x7_83, .int a4]) (rest := []) C0 hZ h (c_X12_costOf_1 l G Z ad _ h.2 x5_33 v_99 v_103 x7_83 a4 (o36_148 l3 u3 b_10 b_11 hn_9 e_15 e_17 e_19 c_20 b_40 b_41 hn_39 c_42 b_52 b_53 hn_51 e_60 e_61 e_64 c_65 e_71 e_73 e_100 e_104) (o36_149 l3 u3 b_10 b_11 hn_9 e_15 e_17 e_19 c_20 b_40 b_41 hn_39 c_42 b_52 b_53 hn_51 e_60 e_61 e_64 c_65 e_71 e_73 e_100 e_104) (o36_150 l3 u3 b_10 b_11 hn_9 e_15 e_17 e_19 c_20 b_40 b_41 hn_39 c_42 b_52 b_53 hn_51 e_60 e_61 e_64 c_65 e_71 e_73 e_100 e_104) (o36_151 l3 u3 b_10 b_11 hn_9 e_15 e_17 e_19 c_20 b_40 b_41 hn_39 c_42 b_52 b_53 hn_51 e_60 e_61 e_64 c_65 e_71 e_73 e_100 e_104) (o36_152 l3 u3 b_10 b_11 hn_9 e_15 e_17 e_19 c_20 b_40 b_41 hn_39 c_42 b_52 b_53 hn_51 e_60 e_61 e_64 c_65 e_71 e_73 e_100 e_104) (o36_153 l3 u3 b_10 b_11 hn_9 e_15 e_17 e_19 c_20 b_40 b_41 hn_39 c_42 b_52 b_53 hn_51 e_60 e_61 e_64 c_65 e_71 e_73 e_100 e_104) (o36_154 b_90 b_91 hn_89 e_93 c_94) (o36_155 b_90 b_91 hn_89 e_93 c_94) (o36_17 l4 u4) (o36_18 l4 u4) (Laid.pa hLd (Pa.tr (Pa.tr (Pa.tr (Pa.tr (Pa.tr (Pa.fr hF_5 (by decide)) (Pa.ud u_30.1 (by decide))) (Pa.fr hF_35 (by decide))) (Pa.fr hF_47 (by decide))) (Pa.fr u_57 (by decide))) (Pa.fr hF_85 (by decide))))) k_X12_costOf q_1890 q_104 q_1888 kSM_0 rfl rfl rfl hl.1 rfl rfl (Nat.le_of_ble_eq_true rfl) dX12_laysSofar_110 ⟨Nat.le_of_ble_eq_true rfl, Nat.le_of_ble_eq_true rfl⟩ ⟨Nat.le_of_ble_eq_true rfl, Nat.le_of_ble_eq_true rfl⟩) (fun r_108 H locs ws_105 h u_106 p_107 => ?_)
                            have e_109 := p_107
                            refine lv_istore (lv' := [(8, .int r_108), (7, .int x7_83), (6, .int x6_45), (5, .int x5_33), (0, .ref (ad 0)), (1, .int a1), (2, .int a2), (3, .int a3), (4, .int a4)]) C0.1 C0.2.1 dX12_laysSofar_113 hl (by decide) rfl (fun ls hl => ?_)
                            refine lv_iload C0.1 C0.2.1 dX12_laysSofar_115 (lv_at hl 0 rfl) ?_
                            refine y_c5 (n := 1000000000) C0 q_1887 (by decide) dX12_laysSofar_117 (fun v_110 e_111 => ?_)
                            refine y_icmp_ne (tgt := 126) C0 dX12_laysSofar_120 (by decide) (fun c_112 => ?_) (fun c_112 => ?_)
                            · -- 120
                              refine lv_iload C0.1 C0.2.1 dX12_laysSofar_126 (lv_at hl 2 rfl) ?_
                              refine y_c1 (n := 4) C0 (by decide) dX12_laysSofar_128 (fun v_113 e_114 => ?_)
                              refine y_remc (n := 4) C0 (o36_28 e_114) (by decide) (o36_156 l3 u3 b_10 b_11 hn_9 e_15 e_17 e_19 c_20 b_40 b_41 hn_39 c_42 b_52 b_53 hn_51 e_60 e_61 e_64 c_65 e_71 e_73 e_100 e_104) dX12_laysSofar_129 (fun v_115 e_116 => ?_)
                              refine lv_iload C0.1 C0.2.1 dX12_laysSofar_130 (lv_at hl 1 rfl) ?_
                              refine y_ci h (y_rS (As := [.int v_115, .int x7_83]) (rest := []) C0 hZ h (c_X12_directionBy l G Z ad _ h.2 v_115 x7_83 (o36_157 l3 u3 b_10 b_11 hn_9 e_15 e_17 e_19 c_20 b_40 b_41 hn_39 c_42 b_52 b_53 hn_51 e_60 e_61 e_64 c_65 e_71 e_73 e_100 e_104 e_116) (o36_158 l3 u3 b_10 b_11 hn_9 e_15 e_17 e_19 c_20 b_40 b_41 hn_39 c_42 b_52 b_53 hn_51 e_60 e_61 e_64 c_65 e_71 e_73 e_100 e_104 e_116) (o36_154 b_90 b_91 hn_89 e_93 c_94) (o36_155 b_90 b_91 hn_89 e_93 c_94)) k_X12_directionBy q_1761 q_1760 hl.1 rfl rfl (Nat.le_of_ble_eq_true rfl) dX12_laysSofar_132 ⟨Nat.le_of_ble_eq_true rfl, Nat.le_of_ble_eq_true rfl⟩ ⟨Nat.le_of_ble_eq_true rfl, Nat.le_of_ble_eq_true rfl⟩) (fun r_120 H locs ws_117 h u_118 p_119 => ?_)
                              obtain ⟨e_121, e_122, e_123⟩ := p_119
                              refine lv_istore (lv' := [(9, .int r_120), (8, .int r_108), (7, .int x7_83), (6, .int x6_45), (5, .int x5_33), (0, .ref (ad 0)), (1, .int a1), (2, .int a2), (3, .int a3), (4, .int a4)]) C0.1 C0.2.1 dX12_laysSofar_135 hl (by decide) rfl (fun ls hl => ?_)
                              refine y_c2 (n := 100) C0 (by decide) dX12_laysSofar_137 (fun v_124 e_125 => ?_)
                              refine lv_iload C0.1 C0.2.1 dX12_laysSofar_139 (lv_at hl 4 rfl) ?_
                              refine y_c1 (n := 1) C0 (by decide) dX12_laysSofar_141 (fun v_126 e_127 => ?_)
                              refine y_add C0 (o36_159 l3 u3 b_10 b_11 hn_9 e_15 e_17 e_19 c_20 b_40 b_41 hn_39 c_42 b_52 b_53 hn_51 e_60 e_61 e_64 c_65 e_71 e_73 e_100 e_104 e_116 e_127 (le_min x5_33) (le_max x5_33) (le_min v_126) (le_max v_126) (le_min a3) (le_max a3) (le_min x5_3) (le_max x5_3) (le_min v_14) (le_max v_14) (le_min v_16) (le_max v_16) (le_min v_18) (le_max v_18) (le_min x6_45) (le_max x6_45) (le_min r_59) (le_max r_59) (le_min v_63) (le_max v_63) (le_min v_70) (le_max v_70) (le_min v_72) (le_max v_72) (le_min v_99) (le_max v_99) (le_min v_103) (le_max v_103) (le_min v_115) (le_max v_115)) (o36_160 l3 u3 b_10 b_11 hn_9 e_15 e_17 e_19 c_20 b_40 b_41 hn_39 c_42 b_52 b_53 hn_51 e_60 e_61 e_64 c_65 e_71 e_73 e_100 e_104 e_116 e_127 (le_min x5_33) (le_max x5_33) (le_min v_126) (le_max v_126) (le_min a3) (le_max a3) (le_min x5_3) (le_max x5_3) (le_min v_14) (le_max v_14) (le_min v_16) (le_max v_16) (le_min v_18) (le_max v_18) (le_min x6_45) (le_max x6_45) (le_min r_59) (le_max r_59) (le_min v_63) (le_max v_63) (le_min v_70) (le_max v_70) (le_min v_72) (le_max v_72) (le_min v_99) (le_max v_99) (le_min v_103) (le_max v_103) (le_min v_115) (le_max v_115)) dX12_laysSofar_142 (fun v_128 e_129 => ?_)
                              refine y_cmul (n := 100) C0 (o36_25 e_125) (o36_161 l3 u3 b_10 b_11 hn_9 e_15 e_17 e_19 c_20 b_40 b_41 hn_39 c_42 b_52 b_53 hn_51 e_60 e_61 e_64 c_65 e_71 e_73 e_100 e_104 e_116 e_127 e_129 (le_min v_128) (le_max v_128) (le_min a3) (le_max a3) (le_min x5_3) (le_max x5_3) (le_min v_14) (le_max v_14) (le_min v_16) (le_max v_16) (le_min v_18) (le_max v_18) (le_min x5_33) (le_max x5_33) (le_min x6_45) (le_max x6_45) (le_min r_59) (le_max r_59) (le_min v_63) (le_max v_63) (le_min v_70) (le_max v_70) (le_min v_72) (le_max v_72) (le_min v_99) (le_max v_99) (le_min v_103) (le_max v_103) (le_min v_115) (le_max v_115) (le_min v_126) (le_max v_126)) (o36_162 l3 u3 b_10 b_11 hn_9 e_15 e_17 e_19 c_20 b_40 b_41 hn_39 c_42 b_52 b_53 hn_51 e_60 e_61 e_64 c_65 e_71 e_73 e_100 e_104 e_116 e_127 e_129 (le_min v_128) (le_max v_128) (le_min a3) (le_max a3) (le_min x5_3) (le_max x5_3) (le_min v_14) (le_max v_14) (le_min v_16) (le_max v_16) (le_min v_18) (le_max v_18) (le_min x5_33) (le_max x5_33) (le_min x6_45) (le_max x6_45) (le_min r_59) (le_max r_59) (le_min v_63) (le_max v_63) (le_min v_70) (le_max v_70) (le_min v_72) (le_max v_72) (le_min v_99) (le_max v_99) (le_min v_103) (le_max v_103) (le_min v_115) (le_max v_115) (le_min v_126) (le_max v_126)) dX12_laysSofar_143 (fun v_130 e_131 => ?_)
                              refine y_c1 (n := 4) C0 (by decide) dX12_laysSofar_144 (fun v_132 e_133 => ?_)
                              refine lv_aload_n C0.1 C0.2.1 dX12_laysSofar_145 rfl (lv_at hl 5 rfl) ?_
                              refine lv_iload C0.1 C0.2.1 dX12_laysSofar_146 (lv_at hl 3 rfl) ?_
                              refine y_c1 (n := 4) C0 (by decide) dX12_laysSofar_148 (fun v_134 e_135 => ?_)
                              refine y_divc (n := 4) C0 (o36_28 e_135) (by decide) (o36_163 l3 u3 b_10 b_11 hn_9 e_15 e_17 e_19 c_20 b_40 b_41 hn_39 c_42 b_52 b_53 hn_51 e_60 e_61 e_64 c_65 e_71 e_73 e_100 e_104 e_116 e_127 e_129 e_131) dX12_laysSofar_149 (fun v_136 e_137 => ?_)
                              refine lv_iload C0.1 C0.2.1 dX12_laysSofar_150 (lv_at hl 0 rfl) ?_
                              refine y_ci h (y_rV (As := [.int v_136, .int r_120]) (rest := [.int v_132, .int v_130]) C0 hZ h (c_X12_streetFrom l G Z ad _ h.2 v_136 r_120 (o36_164 l3 u3 b_10 b_11 hn_9 e_15 e_17 e_19 c_20 b_40 b_41 hn_39 c_42 b_52 b_53 hn_51 e_60 e_61 e_64 c_65 e_71 e_73 e_100 e_104 e_116 e_127 e_129 e_131 e_137) (o36_165 l3 u3 b_10 b_11 hn_9 e_15 e_17 e_19 c_20 b_40 b_41 hn_39 c_42 b_52 b_53 hn_51 e_60 e_61 e_64 c_65 e_71 e_73 e_100 e_104 e_116 e_127 e_129 e_131 e_137) (o36_67 e_121 e_122) (o36_68 e_121 e_122) (Laid.pa hLd (Pa.tr (Pa.tr (Pa.tr (Pa.tr (Pa.tr (Pa.tr (Pa.tr (Pa.fr hF_5 (by decide)) (Pa.ud u_30.1 (by decide))) (Pa.fr hF_35 (by decide))) (Pa.fr hF_47 (by decide))) (Pa.fr u_57 (by decide))) (Pa.fr hF_85 (by decide))) (Pa.fr u_106 (by decide))) (Pa.fr u_118 (by decide))))) k_X12_streetFrom q_1713 q_80 q_1711 kSM_0 rfl rfl rfl hl.1 rfl rfl (Nat.le_of_ble_eq_true rfl) dX12_laysSofar_152 ⟨Nat.le_of_ble_eq_true rfl, Nat.le_of_ble_eq_true rfl⟩ ⟨Nat.le_of_ble_eq_true rfl, Nat.le_of_ble_eq_true rfl⟩) (fun r_141 H locs ws_138 h u_139 p_140 => ?_)
                              obtain ⟨e_142, e_143, e_144⟩ := p_140
                              have g_145 := sf_ge (Pw.tr (Pw.fr u_106 (by decide)) (Pw.fr u_118 (by decide))) e_109 (o36_166 e_111 c_112) e_144 (o36_167 l3 u3 b_10 b_11 hn_9 e_15 e_17 e_19 c_20 b_40 b_41 hn_39 c_42 b_52 b_53 hn_51 e_60 e_61 e_64 c_65 e_71 e_73 e_100 e_104 e_116 e_127 e_129 e_131 e_137) (o36_168 l3 u3 b_10 b_11 hn_9 e_15 e_17 e_19 c_20 b_40 b_41 hn_39 c_42 b_52 b_53 hn_51 e_60 e_61 e_64 c_65 e_71 e_73 e_100 e_104 e_116 e_127 e_129 e_131 e_137) e_123 (o36_169 l3 u3 b_10 b_11 hn_9 e_15 e_17 e_19 c_20 b_40 b_41 hn_39 c_42 b_52 b_53 hn_51 e_60 e_61 e_64 c_65 e_71 e_73 e_100 e_104 e_116 e_127 e_129 e_131 e_137) (o36_170 b_90 b_91 hn_89 e_93 c_94)
                              refine y_cmul (n := 4) C0 (o36_28 e_133) (o36_171 e_142 e_143 g_145 (le_min r_141) (le_max r_141)) (o36_172 e_142 e_143 g_145 (le_min r_141) (le_max r_141)) dX12_laysSofar_155 (fun v_146 e_147 => ?_)
                              refine y_add C0 (o36_173 l3 u3 b_10 b_11 hn_9 e_15 e_17 e_19 c_20 b_40 b_41 hn_39 c_42 b_52 b_53 hn_51 e_60 e_61 e_64 c_65 e_71 e_73 e_100 e_104 e_116 e_127 e_129 e_131 e_137 e_142 e_143 g_145 e_147 (le_min v_130) (le_max v_130) (le_min v_146) (le_max v_146) (le_min a3) (le_max a3) (le_min x5_3) (le_max x5_3) (le_min v_14) (le_max v_14) (le_min v_16) (le_max v_16) (le_min v_18) (le_max v_18) (le_min x5_33) (le_max x5_33) (le_min x6_45) (le_max x6_45) (le_min r_59) (le_max r_59) (le_min v_63) (le_max v_63) (le_min v_70) (le_max v_70) (le_min v_72) (le_max v_72) (le_min v_99) (le_max v_99) (le_min v_103) (le_max v_103) (le_min v_115) (le_max v_115) (le_min v_126) (le_max v_126) (le_min v_128) (le_max v_128) (le_min v_136) (le_max v_136) (le_min r_141) (le_max r_141)) (o36_174 l3 u3 b_10 b_11 hn_9 e_15 e_17 e_19 c_20 b_40 b_41 hn_39 c_42 b_52 b_53 hn_51 e_60 e_61 e_64 c_65 e_71 e_73 e_100 e_104 e_116 e_127 e_129 e_131 e_137 e_142 e_143 g_145 e_147 (le_min v_130) (le_max v_130) (le_min v_146) (le_max v_146) (le_min a3) (le_max a3) (le_min x5_3) (le_max x5_3) (le_min v_14) (le_max v_14) (le_min v_16) (le_max v_16) (le_min v_18) (le_max v_18) (le_min x5_33) (le_max x5_33) (le_min x6_45) (le_max x6_45) (le_min r_59) (le_max r_59) (le_min v_63) (le_max v_63) (le_min v_70) (le_max v_70) (le_min v_72) (le_max v_72) (le_min v_99) (le_max v_99) (le_min v_103) (le_max v_103) (le_min v_115) (le_max v_115) (le_min v_126) (le_max v_126) (le_min v_128) (le_max v_128) (le_min v_136) (le_max v_136) (le_min r_141) (le_max r_141)) dX12_laysSofar_156 (fun v_148 e_149 => ?_)
                              refine lv_iload C0.1 C0.2.1 dX12_laysSofar_157 (lv_at hl 0 rfl) ?_
                              refine y_add C0 (o36_175 l3 u3 b_10 b_11 hn_9 e_15 e_17 e_19 c_20 b_40 b_41 hn_39 c_42 b_52 b_53 hn_51 e_60 e_61 e_64 c_65 e_71 e_73 e_100 e_104 e_116 e_121 e_122 e_127 e_129 e_131 e_137 e_142 e_143 g_145 e_147 e_149 (le_min v_148) (le_max v_148) (le_min r_120) (le_max r_120) (le_min a3) (le_max a3) (le_min x5_3) (le_max x5_3) (le_min v_14) (le_max v_14) (le_min v_16) (le_max v_16) (le_min v_18) (le_max v_18) (le_min x5_33) (le_max x5_33) (le_min x6_45) (le_max x6_45) (le_min r_59) (le_max r_59) (le_min v_63) (le_max v_63) (le_min v_70) (le_max v_70) (le_min v_72) (le_max v_72) (le_min v_99) (le_max v_99) (le_min v_103) (le_max v_103) (le_min v_115) (le_max v_115) (le_min v_126) (le_max v_126) (le_min v_128) (le_max v_128) (le_min v_130) (le_max v_130) (le_min v_136) (le_max v_136) (le_min r_141) (le_max r_141) (le_min v_146) (le_max v_146)) (o36_176 l3 u3 b_10 b_11 hn_9 e_15 e_17 e_19 c_20 b_40 b_41 hn_39 c_42 b_52 b_53 hn_51 e_60 e_61 e_64 c_65 e_71 e_73 e_100 e_104 e_116 e_121 e_122 e_127 e_129 e_131 e_137 e_142 e_143 g_145 e_147 e_149 (le_min v_148) (le_max v_148) (le_min r_120) (le_max r_120) (le_min a3) (le_max a3) (le_min x5_3) (le_max x5_3) (le_min v_14) (le_max v_14) (le_min v_16) (le_max v_16) (le_min v_18) (le_max v_18) (le_min x5_33) (le_max x5_33) (le_min x6_45) (le_max x6_45) (le_min r_59) (le_max r_59) (le_min v_63) (le_max v_63) (le_min v_70) (le_max v_70) (le_min v_72) (le_max v_72) (le_min v_99) (le_max v_99) (le_min v_103) (le_max v_103) (le_min v_115) (le_max v_115) (le_min v_126) (le_max v_126) (le_min v_128) (le_max v_128) (le_min v_130) (le_max v_130) (le_min v_136) (le_max v_136) (le_min r_141) (le_max r_141) (le_min v_146) (le_max v_146)) dX12_laysSofar_159 (fun v_150 e_151 => ?_)
                              refine lv_istore (lv' := [(10, .int v_150), (9, .int r_120), (8, .int r_108), (7, .int x7_83), (6, .int x6_45), (5, .int x5_33), (0, .ref (ad 0)), (1, .int a1), (2, .int a2), (3, .int a3), (4, .int a4)]) C0.1 C0.2.1 dX12_laysSofar_160 hl (by decide) rfl (fun ls hl => ?_)
                              refine lv_aload_n C0.1 C0.2.1 dX12_laysSofar_162 rfl (lv_at hl 6 rfl) ?_
                              refine ng_X12_sofar C0 h kSM_0 q_1459 dX12_laysSofar_163 ?_
                              refine lv_iload C0.1 C0.2.1 dX12_laysSofar_166 (lv_at hl 0 rfl) ?_
                              refine lv_aload_n C0.1 C0.2.1 dX12_laysSofar_168 rfl (lv_at hl 6 rfl) ?_
                              refine ng_X12_sofar C0 h kSM_0 q_1459 dX12_laysSofar_169 ?_
                              refine lv_iload C0.1 C0.2.1 dX12_laysSofar_172 (lv_at hl 0 rfl) ?_
                              refine y_iald C0 h kSM_8 rfl (by decide) (o36_177 l3 u3 b_10 b_11 hn_9 e_15 e_17 e_19 c_20 b_40 b_41 hn_39 c_42 b_52 b_53 hn_51 e_60 e_61 e_64 c_65 e_71 e_73 e_100 e_104 e_116 e_121 e_122 e_127 e_129 e_131 e_137 e_142 e_143 g_145 e_147 e_149 e_151) (o36_178 l3 u3 b_10 b_11 hn_9 e_15 e_17 e_19 c_20 b_40 b_41 hn_39 c_42 b_52 b_53 hn_51 e_60 e_61 e_64 c_65 e_71 e_73 e_100 e_104 e_116 e_121 e_122 e_127 e_129 e_131 e_137 e_142 e_143 g_145 e_147 e_149 e_151) dX12_laysSofar_174 (fun v_152 e_153 e_154 e_155 => ?_)
                              refine lv_aload_n C0.1 C0.2.1 dX12_laysSofar_175 rfl (lv_at hl 6 rfl) ?_
                              refine ng_X12_sofar C0 h kSM_0 q_1459 dX12_laysSofar_176 ?_
                              refine y_c2 (n := 100) C0 (by decide) dX12_laysSofar_179 (fun v_156 e_157 => ?_)
                              refine lv_iload C0.1 C0.2.1 dX12_laysSofar_181 (lv_at hl 5 rfl) ?_
                              refine y_cmul (n := 100) C0 (o36_25 e_157) (o36_179 l3 u3 b_10 b_11 hn_9 e_15 e_17 e_19 c_20 b_40 b_41 hn_39 c_42 b_52 b_53 hn_51 e_60 e_61 e_64 c_65 e_71 e_73 e_100 e_104 e_116 e_121 e_122 e_127 e_129 e_131 e_137 e_142 e_143 g_145 e_147 e_149 e_151 (le_min x5_33) (le_max x5_33) (le_min a3) (le_max a3) (le_min x5_3) (le_max x5_3) (le_min v_14) (le_max v_14) (le_min v_16) (le_max v_16) (le_min v_18) (le_max v_18) (le_min x6_45) (le_max x6_45) (le_min r_59) (le_max r_59) (le_min v_63) (le_max v_63) (le_min v_70) (le_max v_70) (le_min v_72) (le_max v_72) (le_min v_99) (le_max v_99) (le_min v_103) (le_max v_103) (le_min v_115) (le_max v_115) (le_min r_120) (le_max r_120) (le_min v_126) (le_max v_126) (le_min v_128) (le_max v_128) (le_min v_130) (le_max v_130) (le_min v_136) (le_max v_136) (le_min r_141) (le_max r_141) (le_min v_146) (le_max v_146) (le_min v_148) (le_max v_148) (le_min v_150) (le_max v_150)) (o36_180 l3 u3 b_10 b_11 hn_9 e_15 e_17 e_19 c_20 b_40 b_41 hn_39 c_42 b_52 b_53 hn_51 e_60 e_61 e_64 c_65 e_71 e_73 e_100 e_104 e_116 e_121 e_122 e_127 e_129 e_131 e_137 e_142 e_143 g_145 e_147 e_149 e_151 (le_min x5_33) (le_max x5_33) (le_min a3) (le_max a3) (le_min x5_3) (le_max x5_3) (le_min v_14) (le_max v_14) (le_min v_16) (le_max v_16) (le_min v_18) (le_max v_18) (le_min x6_45) (le_max x6_45) (le_min r_59) (le_max r_59) (le_min v_63) (le_max v_63) (le_min v_70) (le_max v_70) (le_min v_72) (le_max v_72) (le_min v_99) (le_max v_99) (le_min v_103) (le_max v_103) (le_min v_115) (le_max v_115) (le_min r_120) (le_max r_120) (le_min v_126) (le_max v_126) (le_min v_128) (le_max v_128) (le_min v_130) (le_max v_130) (le_min v_136) (le_max v_136) (le_min r_141) (le_max r_141) (le_min v_146) (le_max v_146) (le_min v_148) (le_max v_148) (le_min v_150) (le_max v_150)) dX12_laysSofar_183 (fun v_158 e_159 => ?_)
                              refine lv_iload C0.1 C0.2.1 dX12_laysSofar_184 (lv_at hl 4 rfl) ?_
                              refine y_add C0 (o36_181 l3 u3 b_10 b_11 hn_9 e_15 e_17 e_19 c_20 b_40 b_41 hn_39 c_42 b_52 b_53 hn_51 e_60 e_61 e_64 c_65 e_71 e_73 e_100 e_104 e_116 e_121 e_122 e_127 e_129 e_131 e_137 e_142 e_143 g_145 e_147 e_149 e_151 e_159 (le_min v_158) (le_max v_158) (le_min x6_45) (le_max x6_45) (le_min a3) (le_max a3) (le_min x5_3) (le_max x5_3) (le_min v_14) (le_max v_14) (le_min v_16) (le_max v_16) (le_min v_18) (le_max v_18) (le_min x5_33) (le_max x5_33) (le_min r_59) (le_max r_59) (le_min v_63) (le_max v_63) (le_min v_70) (le_max v_70) (le_min v_72) (le_max v_72) (le_min v_99) (le_max v_99) (le_min v_103) (le_max v_103) (le_min v_115) (le_max v_115) (le_min r_120) (le_max r_120) (le_min v_126) (le_max v_126) (le_min v_128) (le_max v_128) (le_min v_130) (le_max v_130) (le_min v_136) (le_max v_136) (le_min r_141) (le_max r_141) (le_min v_146) (le_max v_146) (le_min v_148) (le_max v_148) (le_min v_150) (le_max v_150)) (o36_182 l3 u3 b_10 b_11 hn_9 e_15 e_17 e_19 c_20 b_40 b_41 hn_39 c_42 b_52 b_53 hn_51 e_60 e_61 e_64 c_65 e_71 e_73 e_100 e_104 e_116 e_121 e_122 e_127 e_129 e_131 e_137 e_142 e_143 g_145 e_147 e_149 e_151 e_159 (le_min v_158) (le_max v_158) (le_min x6_45) (le_max x6_45) (le_min a3) (le_max a3) (le_min x5_3) (le_max x5_3) (le_min v_14) (le_max v_14) (le_min v_16) (le_max v_16) (le_min v_18) (le_max v_18) (le_min x5_33) (le_max x5_33) (le_min r_59) (le_max r_59) (le_min v_63) (le_max v_63) (le_min v_70) (le_max v_70) (le_min v_72) (le_max v_72) (le_min v_99) (le_max v_99) (le_min v_103) (le_max v_103) (le_min v_115) (le_max v_115) (le_min r_120) (le_max r_120) (le_min v_126) (le_max v_126) (le_min v_128) (le_max v_128) (le_min v_130) (le_max v_130) (le_min v_136) (le_max v_136) (le_min r_141) (le_max r_141) (le_min v_146) (le_max v_146) (le_min v_148) (le_max v_148) (le_min v_150) (le_max v_150)) dX12_laysSofar_186 (fun v_160 e_161 => ?_)
                              refine y_iald C0 h kSM_8 rfl (by decide) (o36_183 l3 u3 b_10 b_11 hn_9 e_15 e_17 e_19 c_20 b_40 b_41 hn_39 c_42 b_52 b_53 hn_51 e_60 e_61 e_64 c_65 e_71 e_73 e_100 e_104 e_116 e_121 e_122 e_127 e_129 e_131 e_137 e_142 e_143 g_145 e_147 e_149 e_151 e_159 e_161) (o36_184 l3 u3 b_10 b_11 hn_9 e_15 e_17 e_19 c_20 b_40 b_41 hn_39 c_42 b_52 b_53 hn_51 e_60 e_61 e_64 c_65 e_71 e_73 e_100 e_104 e_116 e_121 e_122 e_127 e_129 e_131 e_137 e_142 e_143 g_145 e_147 e_149 e_151 e_159 e_161) dX12_laysSofar_187 (fun v_162 e_163 e_164 e_165 => ?_)
                              refine lv_iload C0.1 C0.2.1 dX12_laysSofar_188 (lv_at hl 2 rfl) ?_
                              refine y_iaddU C0 dX12_laysSofar_190 (fun v_166 => ?_)
                              refine y_ci h (y_rS (As := [.int v_152, .int v_166]) (rest := [.int v_150, .ref (ad 8)]) C0 hZ h (c_X12_lesser l G Z ad _ h.2 v_152 v_166) k_X12_lesser q_1784 q_1783 hl.1 rfl rfl (Nat.le_of_ble_eq_true rfl) dX12_laysSofar_191 ⟨Nat.le_of_ble_eq_true rfl, Nat.le_of_ble_eq_true rfl⟩ ⟨Nat.le_of_ble_eq_true rfl, Nat.le_of_ble_eq_true rfl⟩) (fun r_170 H locs ws_167 h u_168 p_169 => ?_)
                              obtain ⟨e_171, e_172⟩ := p_169
                              refine y_iast C0 h kSM_8 rfl (by decide) (o36_185 l3 u3 b_10 b_11 hn_9 e_15 e_17 e_19 c_20 b_40 b_41 hn_39 c_42 b_52 b_53 hn_51 e_60 e_61 e_64 c_65 e_71 e_73 e_100 e_104 e_116 e_121 e_122 e_127 e_129 e_131 e_137 e_142 e_143 g_145 e_147 e_149 e_151 e_159 e_161) (o36_186 l3 u3 b_10 b_11 hn_9 e_15 e_17 e_19 c_20 b_40 b_41 hn_39 c_42 b_52 b_53 hn_51 e_60 e_61 e_64 c_65 e_71 e_73 e_100 e_104 e_116 e_121 e_122 e_127 e_129 e_131 e_137 e_142 e_143 g_145 e_147 e_149 e_151 e_159 e_161) (le_min r_170) (le_max r_170) dX12_laysSofar_194 (fun H locs ws_173 h u_174 => ?_)
                              refine y_inc (kp := 3) (n := 1) (fun v_175 => [(7, .int v_175), (10, .int v_150), (9, .int r_120), (8, .int r_108), (6, .int x6_45), (5, .int x5_33), (0, .ref (ad 0)), (1, .int a1), (2, .int a2), (3, .int a3), (4, .int a4)]) C0 hl rfl (by decide) (by decide) (fun _ => rfl) (o36_187 b_90 b_91 hn_89 e_93 c_94 (le_min x7_83) (le_max x7_83) (le_min v_92) (le_max v_92)) (o36_188 b_90 b_91 hn_89 e_93 c_94 (le_min x7_83) (le_max x7_83) (le_min v_92) (le_max v_92)) dX12_laysSofar_195 (fun v_175 ls e_176 hl => ?_)
                              refine lv_goto (tgt := 89) C0.1 C0.2.1 dX12_laysSofar_198 (by decide) ?_
                              exact ih_87 v_175 _ _ _ _ (o36_189 b_90 b_91 hn_89 e_93 c_94 e_176) (o36_190 b_90 b_91 hn_89 e_93 c_94 e_176) (o36_191 b_90 b_91 hn_89 e_93 c_94 e_176) h (Fr.tr (Fr.tr (Fr.tr (Fr.tr (Fr.tr hF_85 (Fr.mono u_106 (by decide))) (Fr.mono u_118 (by decide))) (Fr.mono u_139 (by decide))) (Fr.mono u_168 (by decide))) (Fr.up u_174.1 kSM_8 (by decide))) (lv_sub hl [0, 4, 5, 6, 7, 8, 9, 10] rfl)
                            · -- 120
                              refine lv_goto (tgt := 195) C0.1 C0.2.1 dX12_laysSofar_123 (by decide) ?_
                              refine y_inc (kp := 1) (n := 1) (fun v_177 => [(7, .int v_177), (8, .int r_108), (6, .int x6_45), (5, .int x5_33), (0, .ref (ad 0)), (1, .int a1), (2, .int a2), (3, .int a3), (4, .int a4)]) C0 hl rfl (by decide) (by decide) (fun _ => rfl) (o36_187 b_90 b_91 hn_89 e_93 c_94 (le_min x7_83) (le_max x7_83) (le_min v_92) (le_max v_92)) (o36_188 b_90 b_91 hn_89 e_93 c_94 (le_min x7_83) (le_max x7_83) (le_min v_92) (le_max v_92)) dX12_laysSofar_195 (fun v_177 ls e_178 hl => ?_)
                              refine lv_goto (tgt := 89) C0.1 C0.2.1 dX12_laysSofar_198 (by decide) ?_
                              exact ih_87 v_177 _ _ _ _ (o36_189 b_90 b_91 hn_89 e_93 c_94 e_178) (o36_190 b_90 b_91 hn_89 e_93 c_94 e_178) (o36_191 b_90 b_91 hn_89 e_93 c_94 e_178) h (Fr.tr hF_85 (Fr.mono u_106 (by decide))) (lv_sub hl [0, 2, 3, 4, 5, 6, 7, 8] rfl)
                      exact lp_86 ((4 - v_81.toInt + 1).toNat) v_81 _ _ _ _ (o36_60 e_82) (o36_61 e_82) (o36_62 e_82) h Fr.rf (lv_sub hl [0, 1, 2, 3, 4, 5, 6, 7] rfl)
                    · -- 80
                      refine lv_goto (tgt := 201) C0.1 C0.2.1 dX12_laysSofar_83 (by decide) ?_
                      refine y_inc (kp := 0) (n := 1) (fun v_179 => [(6, .int v_179), (5, .int x5_33), (0, .ref (ad 0)), (1, .int a1), (2, .int a2), (3, .int a3), (4, .int a4)]) C0 hl rfl (by decide) (by decide) (fun _ => rfl) (o36_141 l3 u3 b_10 b_11 hn_9 e_15 e_17 e_19 c_20 b_40 b_41 hn_39 c_42 b_52 b_53 hn_51 e_60 e_61 e_64 c_65 e_71 e_73 (le_min x6_45) (le_max x6_45) (le_min a3) (le_max a3) (le_min x5_3) (le_max x5_3) (le_min v_14) (le_max v_14) (le_min v_16) (le_max v_16) (le_min v_18) (le_max v_18) (le_min x5_33) (le_max x5_33) (le_min r_59) (le_max r_59) (le_min v_63) (le_max v_63) (le_min v_70) (le_max v_70) (le_min v_72) (le_max v_72)) (o36_142 l3 u3 b_10 b_11 hn_9 e_15 e_17 e_19 c_20 b_40 b_41 hn_39 c_42 b_52 b_53 hn_51 e_60 e_61 e_64 c_65 e_71 e_73 (le_min x6_45) (le_max x6_45) (le_min a3) (le_max a3) (le_min x5_3) (le_max x5_3) (le_min v_14) (le_max v_14) (le_min v_16) (le_max v_16) (le_min v_18) (le_max v_18) (le_min x5_33) (le_max x5_33) (le_min r_59) (le_max r_59) (le_min v_63) (le_max v_63) (le_min v_70) (le_max v_70) (le_min v_72) (le_max v_72)) dX12_laysSofar_201 (fun v_179 ls e_180 hl => ?_)
                      refine lv_goto (tgt := 53) C0.1 C0.2.1 dX12_laysSofar_204 (by decide) ?_
                      exact ih_49 v_179 _ _ _ _ (o36_143 l3 u3 b_10 b_11 hn_9 e_15 e_17 e_19 c_20 b_40 b_41 hn_39 c_42 b_52 b_53 hn_51 e_60 e_61 e_64 c_65 e_71 e_73 e_180) (o36_144 l3 u3 b_10 b_11 hn_9 e_15 e_17 e_19 c_20 b_40 b_41 hn_39 c_42 b_52 b_53 hn_51 e_60 e_61 e_64 c_65 e_71 e_73 e_180) (o36_145 l3 u3 b_10 b_11 hn_9 e_15 e_17 e_19 c_20 b_40 b_41 hn_39 c_42 b_52 b_53 hn_51 e_60 e_61 e_64 c_65 e_71 e_73 e_180) h (Fr.tr hF_47 (Fr.mono u_57 (by decide))) (lv_sub hl [0, 1, 2, 3, 4, 5, 6] rfl)
              exact lp_48 ((100 - v_43.toInt + 1).toNat) v_43 _ _ _ _ (o36_192 e_44) (o36_61 e_44) (o36_193 e_44) h Fr.rf (lv_sub hl [0, 1, 2, 3, 4, 5, 6] rfl)
        exact lp_36 ((60 - v_31.toInt + 1).toNat) v_31 _ _ _ _ (o36_194 e_32) (o36_61 e_32) (o36_195 e_32) h Fr.rf (lv_sub hl [0, 1, 2, 3, 4, 5] rfl)
      · -- 11
        refine lv_aload_n C0.1 C0.2.1 dX12_laysSofar_14 rfl (lv_at hl 1 rfl) ?_
        refine ng_X12_sofar C0 h kSM_0 q_1459 dX12_laysSofar_15 ?_
        refine lv_iload C0.1 C0.2.1 dX12_laysSofar_18 (lv_at hl 0 rfl) ?_
        refine y_c5 (n := 1000000000) C0 q_1887 (by decide) dX12_laysSofar_20 (fun v_181 e_182 => ?_)
        refine y_iast C0 h kSM_8 rfl (by decide) (o36_196 l3 u3 b_10 b_11 hn_9 e_15 e_17 e_19 c_20) (o36_197 l3 u3 b_10 b_11 hn_9 e_15 e_17 e_19 c_20) (le_min v_181) (le_max v_181) dX12_laysSofar_23 (fun H locs ws_183 h u_184 => ?_)
        refine y_inc (kp := 0) (n := 1) (fun v_185 => [(5, .int v_185), (0, .ref (ad 0)), (1, .int a1), (2, .int a2), (3, .int a3), (4, .int a4)]) C0 hl rfl (by decide) (by decide) (fun _ => rfl) (o36_198 l3 u3 b_10 b_11 hn_9 e_15 e_17 e_19 c_20 (le_min x5_3) (le_max x5_3) (le_min a3) (le_max a3) (le_min v_14) (le_max v_14) (le_min v_16) (le_max v_16) (le_min v_18) (le_max v_18)) (o36_199 l3 u3 b_10 b_11 hn_9 e_15 e_17 e_19 c_20 (le_min x5_3) (le_max x5_3) (le_min a3) (le_max a3) (le_min v_14) (le_max v_14) (le_min v_16) (le_max v_16) (le_min v_18) (le_max v_18)) dX12_laysSofar_24 (fun v_185 ls e_186 hl => ?_)
        refine lv_goto (tgt := 3) C0.1 C0.2.1 dX12_laysSofar_27 (by decide) ?_
        exact ih_7 v_185 _ _ _ _ (o36_200 l3 u3 b_10 b_11 hn_9 e_15 e_17 e_19 c_20 e_186) (o36_201 l3 u3 b_10 b_11 hn_9 e_15 e_17 e_19 c_20 e_186) (o36_202 l3 u3 b_10 b_11 hn_9 e_15 e_17 e_19 c_20 e_186) h (Fr.tr hF_5 (Fr.up u_184.1 kSM_8 (by decide))) (lv_sub hl [0, 1, 2, 3, 4, 5] rfl)
  exact lp_6 ((6100 - v_1.toInt + 1).toNat) v_1 _ _ _ _ (o36_203 e_2) (o36_61 e_2) (o36_204 e_2) h Fr.rf (lv_sub hl [0, 1, 2, 3, 4, 5] rfl)
set_option maxHeartbeats 4000000 in
set_option maxRecDepth 100000 in
theorem c_X12_stillBy (l : Launch) (G : GG) (Z : RZ) (ad : Nat → Nat) (ws0 : va_W) (hT : Ty G (SM tt) ad ws0) (a1 : Int32) (a2 : Int32) (l1 : 0 ≤ a1.toInt) (u1 : a1.toInt ≤ 59) (l2 : 0 ≤ a2.toInt) (u2 : a2.toInt ≤ 99) (hLd : Laid ws0) : Mq l yX12_stillBy cX12_stillBy 6 (some .int) 5 G Z [.ref (ad 0), .int a1, .int a2] ws0 (PI G (SM tt) ad [] ws0 (fun r u => True)) := by
  refine Mq.start (by decide) (Nat.le_of_ble_eq_true rfl) ?_
  intro p e s m below meth c A ls C0 hZ h hl
  have hl : lv_has ls 6 [(0, .ref (ad 0)), (1, .int a1), (2, .int a2)] := hl
  have h : Wt G (SM tt) ad A s s.heap [] ws0 := ⟨h, hT⟩
  obtain ⟨args, hargs⟩ : ∃ z, z = ([.ref (ad 0), .int a1, .int a2] : List Value).toArray := ⟨_, rfl⟩
  rw [← hargs] at C0 ⊢
  have C0 : Cx p s m args meth c RX12 cX12_stillBy 6 (some .int) := C0
  obtain ⟨Q, hQ⟩ : ∃ z, z = MQ below ((PI G (SM tt) ad [] ws0 (fun r u => True)) A) args s 0 0 A := ⟨_, rfl⟩
  rw [← hQ]
  refine y_c5 (n := 1000000000) C0 q_1887 (by decide) dX12_stillBy_0 (fun v_1 e_2 => ?_)
  refine lv_istore_n (lv' := [(3, .int v_1), (0, .ref (ad 0)), (1, .int a1), (2, .int a2)]) C0.1 C0.2.1 dX12_stillBy_3 rfl hl (by decide) rfl (fun ls hl => ?_)
  refine y_c1 (n := 0) C0 (by decide) dX12_stillBy_4 (fun v_3 e_4 => ?_)
  refine lv_istore (lv' := [(4, .int v_3), (3, .int v_1), (0, .ref (ad 0)), (1, .int a1), (2, .int a2)]) C0.1 C0.2.1 dX12_stillBy_5 hl (by decide) rfl (fun ls hl => ?_)
  have lp_9 : ∀ (n_11 : Nat) (x4_5 : Int32) (x3_6 : Int32) (H : Heap) (locs : List Loc) (ls : Array Slot) (ws_7 : va_W), 4 - x4_5.toInt < (n_11 : Int) → 0 ≤ x4_5.toInt → x4_5.toInt ≤ 4 → Wt G (SM tt) ad A s H locs ws_7 → Fr (SM tt) [] ws0 ws_7 → lv_has ls 6 [(4, .int x4_5), (3, .int x3_6), (0, .ref (ad 0)), (1, .int a1), (2, .int a2)] → W p l e (rmd 5 0 0) s m args below meth c H locs 0 0 Q (F0 m 7 ls []) := by
    intro n_11
    induction n_11 with
    | zero => intro x4_5 x3_6 H locs ls ws_7 hn_12 b_13 b_14 h hF_8 hl; exact ((o36_19 b_13 b_14 hn_12)).elim
    | succ n_11 ih_10 =>
      intro x4_5 x3_6 H locs ls ws_7 hn_12 b_13 b_14 h hF_8 hl
      refine lv_iload C0.1 C0.2.1 dX12_stillBy_7 (lv_at hl 0 rfl) ?_
      refine y_c1 (n := 4) C0 (by decide) dX12_stillBy_9 (fun v_15 e_16 => ?_)
      refine y_icmp_ge (tgt := 89) C0 dX12_stillBy_10 (by decide) (fun c_17 => ?_) (fun c_17 => ?_)
      · -- 10
        refine lv_iload_n C0.1 C0.2.1 dX12_stillBy_89 rfl (lv_at hl 1 rfl) ?_
        rw [hQ]
        exact y_iret C0 h hF_8 trivial dX12_stillBy_90
      · -- 10
        refine lv_aload_n C0.1 C0.2.1 dX12_stillBy_13 rfl (lv_at hl 2 rfl) ?_
        refine lv_iload_n C0.1 C0.2.1 dX12_stillBy_14 rfl (lv_at hl 3 rfl) ?_
        refine lv_iload_n C0.1 C0.2.1 dX12_stillBy_15 rfl (lv_at hl 4 rfl) ?_
        refine y_c1 (n := 4) C0 (by decide) dX12_stillBy_16 (fun v_18 e_19 => ?_)
        refine y_divc (n := 4) C0 (o36_28 e_19) (by decide) (o36_205 l2 u2) dX12_stillBy_17 (fun v_20 e_21 => ?_)
        refine lv_iload_n C0.1 C0.2.1 dX12_stillBy_18 rfl (lv_at hl 4 rfl) ?_
        refine y_c1 (n := 4) C0 (by decide) dX12_stillBy_19 (fun v_22 e_23 => ?_)
        refine y_remc (n := 4) C0 (o36_28 e_23) (by decide) (o36_206 l2 u2 e_21) dX12_stillBy_20 (fun v_24 e_25 => ?_)
        refine lv_iload C0.1 C0.2.1 dX12_stillBy_21 (lv_at hl 0 rfl) ?_
        refine y_c1 (n := 0) C0 (by decide) dX12_stillBy_23 (fun v_26 e_27 => ?_)
        refine y_ci h (y_rV (As := [.int a1, .int v_20, .int v_24, .int x4_5, .int v_26]) (rest := []) C0 hZ h (c_X12_costOf_0 l G Z ad _ h.2 a1 v_20 v_24 x4_5 v_26 (o36_207 l1 u1) (o36_208 l1 u1) (o36_209 l2 u2 e_21 e_25) (o36_210 l2 u2 e_21 e_25) (o36_211 l2 u2 e_21 e_25) (o36_212 l2 u2 e_21 e_25) (o36_154 b_13 b_14 hn_12 e_16 c_17) (o36_155 b_13 b_14 hn_12 e_16 c_17) (o36_61 e_27) (o36_213 e_27) (Laid.pa hLd (Pa.fr hF_8 (by decide)))) k_X12_costOf q_1890 q_104 q_1888 kSM_0 rfl rfl rfl hl.1 rfl rfl (Nat.le_of_ble_eq_true rfl) dX12_stillBy_24 ⟨Nat.le_of_ble_eq_true rfl, Nat.le_of_ble_eq_true rfl⟩ ⟨Nat.le_of_ble_eq_true rfl, Nat.le_of_ble_eq_true rfl⟩) (fun r_31 H locs ws_28 h u_29 p_30 => ?_)
        obtain ⟨e_32, e_33, e_34, e_35⟩ := p_30
        refine lv_istore (lv' := [(5, .int r_31), (4, .int x4_5), (3, .int x3_6), (0, .ref (ad 0)), (1, .int a1), (2, .int a2)]) C0.1 C0.2.1 dX12_stillBy_27 hl (by decide) rfl (fun ls hl => ?_)
        refine lv_iload C0.1 C0.2.1 dX12_stillBy_29 (lv_at hl 0 rfl) ?_
        refine y_c5 (n := 1000000000) C0 q_1887 (by decide) dX12_stillBy_31 (fun v_36 e_37 => ?_)
        refine y_icmp_eq (tgt := 83) C0 dX12_stillBy_34 (by decide) (fun c_38 => ?_) (fun c_38 => ?_)
        · -- 34
          refine y_inc (kp := 1) (n := 1) (fun v_39 => [(4, .int v_39), (5, .int r_31), (3, .int x3_6), (0, .ref (ad 0)), (1, .int a1), (2, .int a2)]) C0 hl rfl (by decide) (by decide) (fun _ => rfl) (o36_187 b_13 b_14 hn_12 e_16 c_17 (le_min x4_5) (le_max x4_5) (le_min v_15) (le_max v_15)) (o36_188 b_13 b_14 hn_12 e_16 c_17 (le_min x4_5) (le_max x4_5) (le_min v_15) (le_max v_15)) dX12_stillBy_83 (fun v_39 ls e_40 hl => ?_)
          refine lv_goto (tgt := 7) C0.1 C0.2.1 dX12_stillBy_86 (by decide) ?_
          exact ih_10 v_39 x3_6 _ _ _ _ (o36_189 b_13 b_14 hn_12 e_16 c_17 e_40) (o36_190 b_13 b_14 hn_12 e_16 c_17 e_40) (o36_191 b_13 b_14 hn_12 e_16 c_17 e_40) h (Fr.tr hF_8 u_29) (lv_sub hl [0, 2, 3, 4, 5] rfl)
        · -- 34
          refine lv_iload_n C0.1 C0.2.1 dX12_stillBy_37 rfl (lv_at hl 2 rfl) ?_
          refine lv_iload C0.1 C0.2.1 dX12_stillBy_38 (lv_at hl 0 rfl) ?_
          refine lv_aload_n C0.1 C0.2.1 dX12_stillBy_40 rfl (lv_at hl 3 rfl) ?_
          refine ng_X12_still C0 h kSM_0 q_1460 dX12_stillBy_41 ?_
          refine y_c2 (n := 100) C0 (by decide) dX12_stillBy_44 (fun v_41 e_42 => ?_)
          refine lv_iload_n C0.1 C0.2.1 dX12_stillBy_46 rfl (lv_at hl 4 rfl) ?_
          refine y_c1 (n := 1) C0 (by decide) dX12_stillBy_47 (fun v_43 e_44 => ?_)
          refine y_add C0 (o36_214 l1 u1 e_44 (le_min a1) (le_max a1) (le_min v_43) (le_max v_43)) (o36_215 l1 u1 e_44 (le_min a1) (le_max a1) (le_min v_43) (le_max v_43)) dX12_stillBy_48 (fun v_45 e_46 => ?_)
          refine y_cmul (n := 100) C0 (o36_25 e_42) (o36_216 l1 u1 e_44 e_46 (le_min v_45) (le_max v_45) (le_min a1) (le_max a1) (le_min v_43) (le_max v_43)) (o36_217 l1 u1 e_44 e_46 (le_min v_45) (le_max v_45) (le_min a1) (le_max a1) (le_min v_43) (le_max v_43)) dX12_stillBy_49 (fun v_47 e_48 => ?_)
          refine y_c1 (n := 4) C0 (by decide) dX12_stillBy_50 (fun v_49 e_50 => ?_)
          refine lv_aload_n C0.1 C0.2.1 dX12_stillBy_51 rfl (lv_at hl 3 rfl) ?_
          refine lv_iload_n C0.1 C0.2.1 dX12_stillBy_52 rfl (lv_at hl 5 rfl) ?_
          refine y_c1 (n := 4) C0 (by decide) dX12_stillBy_53 (fun v_51 e_52 => ?_)
          refine y_divc (n := 4) C0 (o36_28 e_52) (by decide) (o36_218 l2 u2 e_21 e_25) dX12_stillBy_54 (fun v_53 e_54 => ?_)
          refine lv_iload_n C0.1 C0.2.1 dX12_stillBy_55 rfl (lv_at hl 5 rfl) ?_
          refine y_c1 (n := 4) C0 (by decide) dX12_stillBy_56 (fun v_55 e_56 => ?_)
          refine y_remc (n := 4) C0 (o36_28 e_56) (by decide) (o36_219 l2 u2 e_21 e_25 e_54) dX12_stillBy_57 (fun v_57 e_58 => ?_)
          refine lv_iload C0.1 C0.2.1 dX12_stillBy_58 (lv_at hl 1 rfl) ?_
          refine y_ci h (y_rS (As := [.int v_57, .int x4_5]) (rest := [.int v_53, .ref (ad 0), .int v_49, .int v_47, .ref (ad 9), .int r_31, .int x3_6]) C0 hZ h (c_X12_directionBy l G Z ad _ h.2 v_57 x4_5 (o36_220 l2 u2 e_21 e_25 e_54 e_58) (o36_221 l2 u2 e_21 e_25 e_54 e_58) (o36_154 b_13 b_14 hn_12 e_16 c_17) (o36_155 b_13 b_14 hn_12 e_16 c_17)) k_X12_directionBy q_1761 q_1760 hl.1 rfl rfl (Nat.le_of_ble_eq_true rfl) dX12_stillBy_60 ⟨Nat.le_of_ble_eq_true rfl, Nat.le_of_ble_eq_true rfl⟩ ⟨Nat.le_of_ble_eq_true rfl, Nat.le_of_ble_eq_true rfl⟩) (fun r_62 H locs ws_59 h u_60 p_61 => ?_)
          obtain ⟨e_63, e_64, e_65⟩ := p_61
          refine y_ci h (y_rV (As := [.int v_53, .int r_62]) (rest := [.int v_49, .int v_47, .ref (ad 9), .int r_31, .int x3_6]) C0 hZ h (c_X12_streetFrom l G Z ad _ h.2 v_53 r_62 (o36_222 l2 u2 e_21 e_25 e_54 e_58) (o36_223 l2 u2 e_21 e_25 e_54 e_58) (o36_67 e_63 e_64) (o36_68 e_63 e_64) (Laid.pa hLd (Pa.tr (Pa.tr (Pa.fr hF_8 (by decide)) (Pa.fr u_29 (by decide))) (Pa.fr u_60 (by decide))))) k_X12_streetFrom q_1713 q_80 q_1711 kSM_0 rfl rfl rfl hl.1 rfl rfl (Nat.le_of_ble_eq_true rfl) dX12_stillBy_63 ⟨Nat.le_of_ble_eq_true rfl, Nat.le_of_ble_eq_true rfl⟩ ⟨Nat.le_of_ble_eq_true rfl, Nat.le_of_ble_eq_true rfl⟩) (fun r_69 H locs ws_66 h u_67 p_68 => ?_)
          obtain ⟨e_70, e_71, e_72⟩ := p_68
          have g_73 := sf_ge (Pw.tr (Pw.fr u_29 (by decide)) (Pw.fr u_60 (by decide))) e_35 (o36_224 e_32 e_33 e_34 e_37 c_38) e_72 (o36_225 l2 u2 e_21 e_25 e_54 e_58) (o36_226 l2 u2 e_21 e_25 e_54 e_58) e_65 (o36_227 l2 u2 e_21 e_25 e_54 e_58) (o36_170 b_13 b_14 hn_12 e_16 c_17)
          refine y_cmul (n := 4) C0 (o36_28 e_50) (o36_171 e_70 e_71 g_73 (le_min r_69) (le_max r_69)) (o36_172 e_70 e_71 g_73 (le_min r_69) (le_max r_69)) dX12_stillBy_66 (fun v_74 e_75 => ?_)
          refine y_add C0 (o36_228 l1 u1 e_44 e_46 e_48 e_70 e_71 g_73 e_75 (le_min v_47) (le_max v_47) (le_min v_74) (le_max v_74) (le_min a1) (le_max a1) (le_min v_43) (le_max v_43) (le_min v_45) (le_max v_45) (le_min r_69) (le_max r_69)) (o36_229 l1 u1 e_44 e_46 e_48 e_70 e_71 g_73 e_75 (le_min v_47) (le_max v_47) (le_min v_74) (le_max v_74) (le_min a1) (le_max a1) (le_min v_43) (le_max v_43) (le_min v_45) (le_max v_45) (le_min r_69) (le_max r_69)) dX12_stillBy_67 (fun v_76 e_77 => ?_)
          refine lv_iload_n C0.1 C0.2.1 dX12_stillBy_68 rfl (lv_at hl 5 rfl) ?_
          refine y_c1 (n := 4) C0 (by decide) dX12_stillBy_69 (fun v_78 e_79 => ?_)
          refine y_remc (n := 4) C0 (o36_28 e_79) (by decide) (o36_230 l2 u2 e_21 e_25 e_54 e_58) dX12_stillBy_70 (fun v_80 e_81 => ?_)
          refine lv_iload C0.1 C0.2.1 dX12_stillBy_71 (lv_at hl 1 rfl) ?_
          refine y_ci h (y_rS (As := [.int v_80, .int x4_5]) (rest := [.int v_76, .ref (ad 9), .int r_31, .int x3_6]) C0 hZ h (c_X12_directionBy l G Z ad _ h.2 v_80 x4_5 (o36_231 l2 u2 e_21 e_25 e_54 e_58 e_81) (o36_232 l2 u2 e_21 e_25 e_54 e_58 e_81) (o36_154 b_13 b_14 hn_12 e_16 c_17) (o36_155 b_13 b_14 hn_12 e_16 c_17)) k_X12_directionBy q_1761 q_1760 hl.1 rfl rfl (Nat.le_of_ble_eq_true rfl) dX12_stillBy_73 ⟨Nat.le_of_ble_eq_true rfl, Nat.le_of_ble_eq_true rfl⟩ ⟨Nat.le_of_ble_eq_true rfl, Nat.le_of_ble_eq_true rfl⟩) (fun r_85 H locs ws_82 h u_83 p_84 => ?_)
          obtain ⟨e_86, e_87, e_88⟩ := p_84
          refine y_add C0 (o36_233 l1 u1 e_44 e_46 e_48 e_70 e_71 g_73 e_75 e_77 e_86 e_87 (le_min v_76) (le_max v_76) (le_min r_85) (le_max r_85) (le_min a1) (le_max a1) (le_min v_43) (le_max v_43) (le_min v_45) (le_max v_45) (le_min v_47) (le_max v_47) (le_min r_69) (le_max r_69) (le_min v_74) (le_max v_74)) (o36_234 l1 u1 e_44 e_46 e_48 e_70 e_71 g_73 e_75 e_77 e_86 e_87 (le_min v_76) (le_max v_76) (le_min r_85) (le_max r_85) (le_min a1) (le_max a1) (le_min v_43) (le_max v_43) (le_min v_45) (le_max v_45) (le_min v_47) (le_max v_47) (le_min r_69) (le_max r_69) (le_min v_74) (le_max v_74)) dX12_stillBy_76 (fun v_89 e_90 => ?_)
          refine y_iald C0 h kSM_9 rfl (by decide) (o36_235 l1 u1 e_44 e_46 e_48 e_70 e_71 g_73 e_75 e_77 e_86 e_87 e_90) (o36_236 l1 u1 e_44 e_46 e_48 e_70 e_71 g_73 e_75 e_77 e_86 e_87 e_90) dX12_stillBy_77 (fun v_91 e_92 e_93 e_94 => ?_)
          refine y_iaddU C0 dX12_stillBy_78 (fun v_95 => ?_)
          refine y_ci h (y_rS (As := [.int x3_6, .int v_95]) (rest := []) C0 hZ h (c_X12_lesser l G Z ad _ h.2 x3_6 v_95) k_X12_lesser q_1784 q_1783 hl.1 rfl rfl (Nat.le_of_ble_eq_true rfl) dX12_stillBy_79 ⟨Nat.le_of_ble_eq_true rfl, Nat.le_of_ble_eq_true rfl⟩ ⟨Nat.le_of_ble_eq_true rfl, Nat.le_of_ble_eq_true rfl⟩) (fun r_99 H locs ws_96 h u_97 p_98 => ?_)
          obtain ⟨e_100, e_101⟩ := p_98
          refine lv_istore_n (lv' := [(3, .int r_99), (5, .int r_31), (4, .int x4_5), (0, .ref (ad 0)), (1, .int a1), (2, .int a2)]) C0.1 C0.2.1 dX12_stillBy_82 rfl hl (by decide) rfl (fun ls hl => ?_)
          refine y_inc (kp := 2) (n := 1) (fun v_102 => [(4, .int v_102), (3, .int r_99), (5, .int r_31), (0, .ref (ad 0)), (1, .int a1), (2, .int a2)]) C0 hl rfl (by decide) (by decide) (fun _ => rfl) (o36_187 b_13 b_14 hn_12 e_16 c_17 (le_min x4_5) (le_max x4_5) (le_min v_15) (le_max v_15)) (o36_188 b_13 b_14 hn_12 e_16 c_17 (le_min x4_5) (le_max x4_5) (le_min v_15) (le_max v_15)) dX12_stillBy_83 (fun v_102 ls e_103 hl => ?_)
          refine lv_goto (tgt := 7) C0.1 C0.2.1 dX12_stillBy_86 (by decide) ?_
          exact ih_10 v_102 r_99 _ _ _ _ (o36_189 b_13 b_14 hn_12 e_16 c_17 e_103) (o36_190 b_13 b_14 hn_12 e_16 c_17 e_103) (o36_191 b_13 b_14 hn_12 e_16 c_17 e_103) h (Fr.tr (Fr.tr (Fr.tr (Fr.tr (Fr.tr hF_8 u_29) u_60) u_67) u_83) u_97) (lv_sub hl [0, 1, 3, 4, 5] rfl)
  exact lp_9 ((4 - v_3.toInt + 1).toNat) v_3 v_1 _ _ _ _ (o36_60 e_4) (o36_61 e_4) (o36_62 e_4) h Fr.rf (lv_sub hl [0, 1, 2, 3, 4] rfl)
set_option maxHeartbeats 4000000 in
set_option maxRecDepth 100000 in
theorem c_X12_laysStill (l : Launch) (G : GG) (Z : RZ) (ad : Nat → Nat) (ws0 : va_W) (hT : Ty G (SM tt) ad ws0) (a1 : Int32) (a2 : Int32) (l2 : 0 ≤ a2.toInt) (u2 : a2.toInt ≤ 60) (hLd : Laid ws0) : Mq l yX12_laysStill cX12_laysStill 5 none 6 G Z [.ref (ad 0), .int a1, .int a2] ws0 (PV G (SM tt) ad [9] ws0 (fun u => True)) := by
  refine Mq.start (by decide) (Nat.le_of_ble_eq_true rfl) ?_
  intro p e s m below meth c A ls C0 hZ h hl
  have hl : lv_has ls 5 [(0, .ref (ad 0)), (1, .int a1), (2, .int a2)] := hl
  have h : Wt G (SM tt) ad A s s.heap [] ws0 := ⟨h, hT⟩
  obtain ⟨args, hargs⟩ : ∃ z, z = ([.ref (ad 0), .int a1, .int a2] : List Value).toArray := ⟨_, rfl⟩
  rw [← hargs] at C0 ⊢
  have C0 : Cx p s m args meth c RX12 cX12_laysStill 5 none := C0
  obtain ⟨Q, hQ⟩ : ∃ z, z = MQ below ((PV G (SM tt) ad [9] ws0 (fun u => True)) A) args s 0 0 A := ⟨_, rfl⟩
  rw [← hQ]
  refine y_c1 (n := 0) C0 (by decide) dX12_laysStill_0 (fun v_1 e_2 => ?_)
  refine lv_istore_n (lv' := [(3, .int v_1), (0, .ref (ad 0)), (1, .int a1), (2, .int a2)]) C0.1 C0.2.1 dX12_laysStill_1 rfl hl (by decide) rfl (fun ls hl => ?_)
  have lp_6 : ∀ (n_8 : Nat) (x3_3 : Int32) (H : Heap) (locs : List Loc) (ls : Array Slot) (ws_4 : va_W), 100 - x3_3.toInt < (n_8 : Int) → 0 ≤ x3_3.toInt → x3_3.toInt ≤ 100 → Wt G (SM tt) ad A s H locs ws_4 → Fr (SM tt) [9] ws0 ws_4 → lv_has ls 5 [(3, .int x3_3), (0, .ref (ad 0)), (1, .int a1), (2, .int a2)] → W p l e (rmd 6 0 0) s m args below meth c H locs 0 0 Q (F0 m 2 ls []) := by
    intro n_8
    induction n_8 with
    | zero => intro x3_3 H locs ls ws_4 hn_9 b_10 b_11 h hF_5 hl; exact ((o36_127 b_10 b_11 hn_9)).elim
    | succ n_8 ih_7 =>
      intro x3_3 H locs ls ws_4 hn_9 b_10 b_11 h hF_5 hl
      refine lv_iload_n C0.1 C0.2.1 dX12_laysStill_2 rfl (lv_at hl 0 rfl) ?_
      refine y_c1 (n := 4) C0 (by decide) dX12_laysStill_3 (fun v_12 e_13 => ?_)
      refine lv_aload_n C0.1 C0.2.1 dX12_laysStill_4 rfl (lv_at hl 1 rfl) ?_
      refine y_ci h (y_rV (As := []) (rest := [.int v_12, .int x3_3]) C0 hZ h (c_X12_crossings l G Z ad _ h.2) k_X12_crossings q_1705 q_79 q_1703 kSM_0 rfl rfl rfl hl.1 rfl rfl (Nat.le_of_ble_eq_true rfl) dX12_laysStill_5 ⟨Nat.le_of_ble_eq_true rfl, Nat.le_of_ble_eq_true rfl⟩ ⟨Nat.le_of_ble_eq_true rfl, Nat.le_of_ble_eq_true rfl⟩) (fun r_17 H locs ws_14 h u_15 p_16 => ?_)
      obtain ⟨e_18, e_19, e_20⟩ := p_16
      refine y_cmul (n := 4) C0 (o36_28 e_13) (o36_128 e_18 e_19 (le_min r_17) (le_max r_17)) (o36_129 e_18 e_19 (le_min r_17) (le_max r_17)) dX12_laysStill_8 (fun v_21 e_22 => ?_)
      refine y_icmp_ge (tgt := 43) C0 dX12_laysStill_9 (by decide) (fun c_23 => ?_) (fun c_23 => ?_)
      · -- 9
        refine lv_iload_n C0.1 C0.2.1 dX12_laysStill_43 rfl (lv_at hl 3 rfl) ?_
        refine y_c1 (n := 1) C0 (by decide) dX12_laysStill_44 (fun v_24 e_25 => ?_)
        refine y_sub C0 (o36_237 l2 u2 e_25 (le_min a2) (le_max a2) (le_min v_24) (le_max v_24)) (o36_238 l2 u2 e_25 (le_min a2) (le_max a2) (le_min v_24) (le_max v_24)) dX12_laysStill_45 (fun v_26 e_27 => ?_)
        refine lv_istore_n (lv' := [(3, .int v_26), (0, .ref (ad 0)), (1, .int a1), (2, .int a2)]) C0.1 C0.2.1 dX12_laysStill_46 rfl hl (by decide) rfl (fun ls hl => ?_)
        have lp_31 : ∀ (n_33 : Nat) (x3_28 : Int32) (H : Heap) (locs : List Loc) (ls : Array Slot) (ws_29 : va_W), x3_28.toInt - (-1) < (n_33 : Int) → (-1) ≤ x3_28.toInt → x3_28.toInt ≤ 59 → Wt G (SM tt) ad A s H locs ws_29 → Fr (SM tt) [9] ws_14 ws_29 → lv_has ls 5 [(3, .int x3_28), (0, .ref (ad 0)), (1, .int a1), (2, .int a2)] → W p l e (rmd 6 0 0) s m args below meth c H locs 0 0 Q (F0 m 47 ls []) := by
          intro n_33
          induction n_33 with
          | zero => intro x3_28 H locs ls ws_29 hn_34 b_35 b_36 h hF_30 hl; exact ((o36_239 b_35 b_36 hn_34)).elim
          | succ n_33 ih_32 =>
            intro x3_28 H locs ls ws_29 hn_34 b_35 b_36 h hF_30 hl
            refine lv_iload_n C0.1 C0.2.1 dX12_laysStill_47 rfl (lv_at hl 0 rfl) ?_
            refine y_if_lt (tgt := 96) C0 dX12_laysStill_48 (by decide) (fun c_37 => ?_) (fun c_37 => ?_)
            · -- 48
              rw [hQ]
              exact y_vret C0 h (Fr.tr (Fr.tr hF_5 (Fr.mono u_15 (by decide))) hF_30) trivial dX12_laysStill_96
            · -- 48
              refine y_c1 (n := 0) C0 (by decide) dX12_laysStill_51 (fun v_38 e_39 => ?_)
              refine lv_istore (lv' := [(4, .int v_38), (3, .int x3_28), (0, .ref (ad 0)), (1, .int a1), (2, .int a2)]) C0.1 C0.2.1 dX12_laysStill_52 hl (by decide) rfl (fun ls hl => ?_)
              have lp_43 : ∀ (n_45 : Nat) (x4_40 : Int32) (H : Heap) (locs : List Loc) (ls : Array Slot) (ws_41 : va_W), 100 - x4_40.toInt < (n_45 : Int) → 0 ≤ x4_40.toInt → x4_40.toInt ≤ 100 → Wt G (SM tt) ad A s H locs ws_41 → Fr (SM tt) [9] ws_29 ws_41 → lv_has ls 5 [(4, .int x4_40), (3, .int x3_28), (0, .ref (ad 0)), (1, .int a1), (2, .int a2)] → W p l e (rmd 6 0 0) s m args below meth c H locs 0 0 Q (F0 m 54 ls []) := by
                intro n_45
                induction n_45 with
                | zero => intro x4_40 H locs ls ws_41 hn_46 b_47 b_48 h hF_42 hl; exact ((o36_127 b_47 b_48 hn_46)).elim
                | succ n_45 ih_44 =>
                  intro x4_40 H locs ls ws_41 hn_46 b_47 b_48 h hF_42 hl
                  refine lv_iload C0.1 C0.2.1 dX12_laysStill_54 (lv_at hl 0 rfl) ?_
                  refine y_c1 (n := 4) C0 (by decide) dX12_laysStill_56 (fun v_49 e_50 => ?_)
                  refine lv_aload_n C0.1 C0.2.1 dX12_laysStill_57 rfl (lv_at hl 2 rfl) ?_
                  refine y_ci h (y_rV (As := []) (rest := [.int v_49, .int x4_40]) C0 hZ h (c_X12_crossings l G Z ad _ h.2) k_X12_crossings q_1705 q_79 q_1703 kSM_0 rfl rfl rfl hl.1 rfl rfl (Nat.le_of_ble_eq_true rfl) dX12_laysStill_58 ⟨Nat.le_of_ble_eq_true rfl, Nat.le_of_ble_eq_true rfl⟩ ⟨Nat.le_of_ble_eq_true rfl, Nat.le_of_ble_eq_true rfl⟩) (fun r_54 H locs ws_51 h u_52 p_53 => ?_)
                  obtain ⟨e_55, e_56, e_57⟩ := p_53
                  refine y_cmul (n := 4) C0 (o36_28 e_50) (o36_128 e_55 e_56 (le_min r_54) (le_max r_54)) (o36_129 e_55 e_56 (le_min r_54) (le_max r_54)) dX12_laysStill_61 (fun v_58 e_59 => ?_)
                  refine y_icmp_ge (tgt := 90) C0 dX12_laysStill_62 (by decide) (fun c_60 => ?_) (fun c_60 => ?_)
                  · -- 62
                    refine y_inc (kp := 1) (n := (-1)) (fun v_61 => [(3, .int v_61), (4, .int x4_40), (0, .ref (ad 0)), (1, .int a1), (2, .int a2)]) C0 hl rfl (by decide) (by decide) (fun _ => rfl) (o36_240 b_35 b_36 hn_34 c_37 (le_min x3_28) (le_max x3_28)) (o36_241 b_35 b_36 hn_34 c_37 (le_min x3_28) (le_max x3_28)) dX12_laysStill_90 (fun v_61 ls e_62 hl => ?_)
                    refine lv_goto (tgt := 47) C0.1 C0.2.1 dX12_laysStill_93 (by decide) ?_
                    exact ih_32 v_61 _ _ _ _ (o36_242 b_35 b_36 hn_34 c_37 e_62) (o36_243 b_35 b_36 hn_34 c_37 e_62) (o36_244 b_35 b_36 hn_34 c_37 e_62) h (Fr.tr (Fr.tr hF_30 hF_42) (Fr.mono u_52 (by decide))) (lv_sub hl [0, 2, 3, 4] rfl)
                  · -- 62
                    refine lv_aload_n C0.1 C0.2.1 dX12_laysStill_65 rfl (lv_at hl 2 rfl) ?_
                    refine ng_X12_still C0 h kSM_0 q_1460 dX12_laysStill_66 ?_
                    refine y_c2 (n := 100) C0 (by decide) dX12_laysStill_69 (fun v_63 e_64 => ?_)
                    refine lv_iload_n C0.1 C0.2.1 dX12_laysStill_71 rfl (lv_at hl 1 rfl) ?_
                    refine y_cmul (n := 100) C0 (o36_25 e_64) (o36_245 b_35 b_36 hn_34 c_37 (le_min x3_28) (le_max x3_28)) (o36_246 b_35 b_36 hn_34 c_37 (le_min x3_28) (le_max x3_28)) dX12_laysStill_72 (fun v_65 e_66 => ?_)
                    refine lv_iload C0.1 C0.2.1 dX12_laysStill_73 (lv_at hl 0 rfl) ?_
                    refine y_add C0 (o36_247 b_35 b_36 hn_34 c_37 b_47 b_48 hn_46 e_55 e_56 e_59 c_60 e_66 (le_min v_65) (le_max v_65) (le_min x4_40) (le_max x4_40) (le_min x3_28) (le_max x3_28) (le_min r_54) (le_max r_54) (le_min v_58) (le_max v_58)) (o36_248 b_35 b_36 hn_34 c_37 b_47 b_48 hn_46 e_55 e_56 e_59 c_60 e_66 (le_min v_65) (le_max v_65) (le_min x4_40) (le_max x4_40) (le_min x3_28) (le_max x3_28) (le_min r_54) (le_max r_54) (le_min v_58) (le_max v_58)) dX12_laysStill_75 (fun v_67 e_68 => ?_)
                    refine lv_aload_n C0.1 C0.2.1 dX12_laysStill_76 rfl (lv_at hl 2 rfl) ?_
                    refine lv_iload_n C0.1 C0.2.1 dX12_laysStill_77 rfl (lv_at hl 1 rfl) ?_
                    refine lv_iload C0.1 C0.2.1 dX12_laysStill_78 (lv_at hl 0 rfl) ?_
                    refine y_ci h (y_rV (As := [.int x3_28, .int x4_40]) (rest := [.int v_67, .ref (ad 9)]) C0 hZ h (c_X12_stillBy l G Z ad _ h.2 x3_28 x4_40 (o36_249 b_35 b_36 hn_34 c_37 b_47 b_48 hn_46 e_55 e_56 e_59 c_60 e_66 e_68) (o36_250 b_35 b_36 hn_34 c_37 b_47 b_48 hn_46 e_55 e_56 e_59 c_60 e_66 e_68) (o36_251 b_35 b_36 hn_34 c_37 b_47 b_48 hn_46 e_55 e_56 e_59 c_60 e_66 e_68) (o36_252 b_35 b_36 hn_34 c_37 b_47 b_48 hn_46 e_55 e_56 e_59 c_60 e_66 e_68) (Laid.pa hLd (Pa.tr (Pa.tr (Pa.tr (Pa.tr (Pa.fr hF_5 (by decide)) (Pa.fr u_15 (by decide))) (Pa.fr hF_30 (by decide))) (Pa.fr hF_42 (by decide))) (Pa.fr u_52 (by decide))))) k_X12_stillBy q_1918 q_110 q_1916 kSM_0 rfl rfl rfl hl.1 rfl rfl (Nat.le_of_ble_eq_true rfl) dX12_laysStill_80 ⟨Nat.le_of_ble_eq_true rfl, Nat.le_of_ble_eq_true rfl⟩ ⟨Nat.le_of_ble_eq_true rfl, Nat.le_of_ble_eq_true rfl⟩) (fun r_72 H locs ws_69 h u_70 p_71 => ?_)
                    refine y_iast C0 h kSM_9 rfl (by decide) (o36_253 b_35 b_36 hn_34 c_37 b_47 b_48 hn_46 e_55 e_56 e_59 c_60 e_66 e_68) (o36_254 b_35 b_36 hn_34 c_37 b_47 b_48 hn_46 e_55 e_56 e_59 c_60 e_66 e_68) (le_min r_72) (le_max r_72) dX12_laysStill_83 (fun H locs ws_73 h u_74 => ?_)
                    refine y_inc (kp := 0) (n := 1) (fun v_75 => [(4, .int v_75), (3, .int x3_28), (0, .ref (ad 0)), (1, .int a1), (2, .int a2)]) C0 hl rfl (by decide) (by decide) (fun _ => rfl) (o36_255 b_35 b_36 hn_34 c_37 b_47 b_48 hn_46 e_55 e_56 e_59 c_60 e_66 e_68 (le_min x4_40) (le_max x4_40) (le_min x3_28) (le_max x3_28) (le_min r_54) (le_max r_54) (le_min v_58) (le_max v_58) (le_min v_65) (le_max v_65) (le_min v_67) (le_max v_67)) (o36_256 b_35 b_36 hn_34 c_37 b_47 b_48 hn_46 e_55 e_56 e_59 c_60 e_66 e_68 (le_min x4_40) (le_max x4_40) (le_min x3_28) (le_max x3_28) (le_min r_54) (le_max r_54) (le_min v_58) (le_max v_58) (le_min v_65) (le_max v_65) (le_min v_67) (le_max v_67)) dX12_laysStill_84 (fun v_75 ls e_76 hl => ?_)
                    refine lv_goto (tgt := 54) C0.1 C0.2.1 dX12_laysStill_87 (by decide) ?_
                    exact ih_44 v_75 _ _ _ _ (o36_257 b_35 b_36 hn_34 c_37 b_47 b_48 hn_46 e_55 e_56 e_59 c_60 e_66 e_68 e_76) (o36_258 b_35 b_36 hn_34 c_37 b_47 b_48 hn_46 e_55 e_56 e_59 c_60 e_66 e_68 e_76) (o36_259 b_35 b_36 hn_34 c_37 b_47 b_48 hn_46 e_55 e_56 e_59 c_60 e_66 e_68 e_76) h (Fr.tr (Fr.tr (Fr.tr hF_42 (Fr.mono u_52 (by decide))) (Fr.mono u_70 (by decide))) (Fr.up u_74.1 kSM_9 (by decide))) (lv_sub hl [0, 1, 2, 3, 4] rfl)
              exact lp_43 ((100 - v_38.toInt + 1).toNat) v_38 _ _ _ _ (o36_192 e_39) (o36_61 e_39) (o36_193 e_39) h Fr.rf (lv_sub hl [0, 1, 2, 3, 4] rfl)
        exact lp_31 ((v_26.toInt - (-1) + 1).toNat) v_26 _ _ _ _ (o36_260 l2 u2 e_25 e_27) (o36_261 l2 u2 e_25 e_27) (o36_262 l2 u2 e_25 e_27) h Fr.rf (lv_sub hl [0, 1, 2, 3] rfl)
      · -- 9
        refine lv_aload_n C0.1 C0.2.1 dX12_laysStill_12 rfl (lv_at hl 1 rfl) ?_
        refine ng_X12_still C0 h kSM_0 q_1460 dX12_laysStill_13 ?_
        refine y_c2 (n := 100) C0 (by decide) dX12_laysStill_16 (fun v_77 e_78 => ?_)
        refine lv_iload_n C0.1 C0.2.1 dX12_laysStill_18 rfl (lv_at hl 3 rfl) ?_
        refine y_cmul (n := 100) C0 (o36_25 e_78) (o36_79 l2 u2 (le_min a2) (le_max a2)) (o36_80 l2 u2 (le_min a2) (le_max a2)) dX12_laysStill_19 (fun v_79 e_80 => ?_)
        refine lv_iload_n C0.1 C0.2.1 dX12_laysStill_20 rfl (lv_at hl 0 rfl) ?_
        refine y_add C0 (o36_263 l2 u2 b_10 b_11 hn_9 e_18 e_19 e_22 c_23 e_80 (le_min v_79) (le_max v_79) (le_min x3_3) (le_max x3_3) (le_min a2) (le_max a2) (le_min r_17) (le_max r_17) (le_min v_21) (le_max v_21)) (o36_264 l2 u2 b_10 b_11 hn_9 e_18 e_19 e_22 c_23 e_80 (le_min v_79) (le_max v_79) (le_min x3_3) (le_max x3_3) (le_min a2) (le_max a2) (le_min r_17) (le_max r_17) (le_min v_21) (le_max v_21)) dX12_laysStill_21 (fun v_81 e_82 => ?_)
        refine lv_iload_n C0.1 C0.2.1 dX12_laysStill_22 rfl (lv_at hl 0 rfl) ?_
        refine y_c1 (n := 4) C0 (by decide) dX12_laysStill_23 (fun v_83 e_84 => ?_)
        refine y_divc (n := 4) C0 (o36_28 e_84) (by decide) (o36_265 l2 u2 b_10 b_11 hn_9 e_18 e_19 e_22 c_23 e_80 e_82) dX12_laysStill_24 (fun v_85 e_86 => ?_)
        refine lv_iload_n C0.1 C0.2.1 dX12_laysStill_25 rfl (lv_at hl 2 rfl) ?_
        refine y_icmp_ne (tgt := 33) C0 dX12_laysStill_26 (by decide) (fun c_87 => ?_) (fun c_87 => ?_)
        · -- 26
          refine y_c5 (n := 1000000000) C0 q_1887 (by decide) dX12_laysStill_33 (fun v_88 e_89 => ?_)
          refine y_iast C0 h kSM_9 rfl (by decide) (o36_266 l2 u2 b_10 b_11 hn_9 e_18 e_19 e_22 c_23 e_80 e_82 e_86 c_87) (o36_267 l2 u2 b_10 b_11 hn_9 e_18 e_19 e_22 c_23 e_80 e_82 e_86 c_87) (le_min v_88) (le_max v_88) dX12_laysStill_36 (fun H locs ws_90 h u_91 => ?_)
          refine y_inc (kp := 0) (n := 1) (fun v_92 => [(3, .int v_92), (0, .ref (ad 0)), (1, .int a1), (2, .int a2)]) C0 hl rfl (by decide) (by decide) (fun _ => rfl) (o36_268 l2 u2 b_10 b_11 hn_9 e_18 e_19 e_22 c_23 e_80 e_82 e_86 c_87 (le_min x3_3) (le_max x3_3) (le_min a2) (le_max a2) (le_min r_17) (le_max r_17) (le_min v_21) (le_max v_21) (le_min v_79) (le_max v_79) (le_min v_81) (le_max v_81) (le_min v_85) (le_max v_85) (le_min a1) (le_max a1)) (o36_269 l2 u2 b_10 b_11 hn_9 e_18 e_19 e_22 c_23 e_80 e_82 e_86 c_87 (le_min x3_3) (le_max x3_3) (le_min a2) (le_max a2) (le_min r_17) (le_max r_17) (le_min v_21) (le_max v_21) (le_min v_79) (le_max v_79) (le_min v_81) (le_max v_81) (le_min v_85) (le_max v_85) (le_min a1) (le_max a1)) dX12_laysStill_37 (fun v_92 ls e_93 hl => ?_)
          refine lv_goto (tgt := 2) C0.1 C0.2.1 dX12_laysStill_40 (by decide) ?_
          exact ih_7 v_92 _ _ _ _ (o36_270 l2 u2 b_10 b_11 hn_9 e_18 e_19 e_22 c_23 e_80 e_82 e_86 c_87 e_93) (o36_271 l2 u2 b_10 b_11 hn_9 e_18 e_19 e_22 c_23 e_80 e_82 e_86 c_87 e_93) (o36_272 l2 u2 b_10 b_11 hn_9 e_18 e_19 e_22 c_23 e_80 e_82 e_86 c_87 e_93) h (Fr.tr (Fr.tr hF_5 (Fr.mono u_15 (by decide))) (Fr.up u_91.1 kSM_9 (by decide))) (lv_sub hl [0, 1, 2, 3] rfl)
        · -- 26
          refine y_c1 (n := 0) C0 (by decide) dX12_laysStill_29 (fun v_94 e_95 => ?_)
          refine lv_goto (tgt := 36) C0.1 C0.2.1 dX12_laysStill_30 (by decide) ?_
          refine y_iast C0 h kSM_9 rfl (by decide) (o36_273 l2 u2 b_10 b_11 hn_9 e_18 e_19 e_22 c_23 e_80 e_82 e_86 c_87) (o36_274 l2 u2 b_10 b_11 hn_9 e_18 e_19 e_22 c_23 e_80 e_82 e_86 c_87) (le_min v_94) (le_max v_94) dX12_laysStill_36 (fun H locs ws_96 h u_97 => ?_)
          refine y_inc (kp := 0) (n := 1) (fun v_98 => [(3, .int v_98), (0, .ref (ad 0)), (1, .int a1), (2, .int a2)]) C0 hl rfl (by decide) (by decide) (fun _ => rfl) (o36_275 l2 u2 b_10 b_11 hn_9 e_18 e_19 e_22 c_23 e_80 e_82 e_86 c_87 (le_min x3_3) (le_max x3_3) (le_min a2) (le_max a2) (le_min r_17) (le_max r_17) (le_min v_21) (le_max v_21) (le_min v_79) (le_max v_79) (le_min v_81) (le_max v_81) (le_min v_85) (le_max v_85) (le_min a1) (le_max a1)) (o36_276 l2 u2 b_10 b_11 hn_9 e_18 e_19 e_22 c_23 e_80 e_82 e_86 c_87 (le_min x3_3) (le_max x3_3) (le_min a2) (le_max a2) (le_min r_17) (le_max r_17) (le_min v_21) (le_max v_21) (le_min v_79) (le_max v_79) (le_min v_81) (le_max v_81) (le_min v_85) (le_max v_85) (le_min a1) (le_max a1)) dX12_laysStill_37 (fun v_98 ls e_99 hl => ?_)
          refine lv_goto (tgt := 2) C0.1 C0.2.1 dX12_laysStill_40 (by decide) ?_
          exact ih_7 v_98 _ _ _ _ (o36_277 l2 u2 b_10 b_11 hn_9 e_18 e_19 e_22 c_23 e_80 e_82 e_86 c_87 e_99) (o36_278 l2 u2 b_10 b_11 hn_9 e_18 e_19 e_22 c_23 e_80 e_82 e_86 c_87 e_99) (o36_279 l2 u2 b_10 b_11 hn_9 e_18 e_19 e_22 c_23 e_80 e_82 e_86 c_87 e_99) h (Fr.tr (Fr.tr hF_5 (Fr.mono u_15 (by decide))) (Fr.up u_97.1 kSM_9 (by decide))) (lv_sub hl [0, 1, 2, 3] rfl)
  exact lp_6 ((100 - v_1.toInt + 1).toNat) v_1 _ _ _ _ (o36_192 e_2) (o36_61 e_2) (o36_193 e_2) h Fr.rf (lv_sub hl [0, 1, 2, 3] rfl)
set_option maxHeartbeats 4000000 in
set_option maxRecDepth 100000 in
theorem c_X12_leastAt (l : Launch) (G : GG) (Z : RZ) (ad : Nat → Nat) (ws0 : va_W) (hT : Ty G (SM tt) ad ws0) (a1 : Int32) (a2 : Int32) (l1 : 0 ≤ a1.toInt) (u1 : a1.toInt ≤ 60) (l2 : 0 ≤ a2.toInt) (u2 : a2.toInt ≤ 24) : Mq l yX12_leastAt cX12_leastAt 5 (some .int) 2 G Z [.ref (ad 0), .int a1, .int a2] ws0 (PI G (SM tt) ad [] ws0 (fun r u => (r.toInt = lA ws0 a1.toInt a2.toInt 4))) := by
  refine Mq.start (by decide) (Nat.le_of_ble_eq_true rfl) ?_
  intro p e s m below meth c A ls C0 hZ h hl
  have hl : lv_has ls 5 [(0, .ref (ad 0)), (1, .int a1), (2, .int a2)] := hl
  have h : Wt G (SM tt) ad A s s.heap [] ws0 := ⟨h, hT⟩
  obtain ⟨args, hargs⟩ : ∃ z, z = ([.ref (ad 0), .int a1, .int a2] : List Value).toArray := ⟨_, rfl⟩
  rw [← hargs] at C0 ⊢
  have C0 : Cx p s m args meth c RX12 cX12_leastAt 5 (some .int) := C0
  obtain ⟨Q, hQ⟩ : ∃ z, z = MQ below ((PI G (SM tt) ad [] ws0 (fun r u => (r.toInt = lA ws0 a1.toInt a2.toInt 4))) A) args s 0 0 A := ⟨_, rfl⟩
  rw [← hQ]
  refine y_c5 (n := 1000000000) C0 q_1887 (by decide) dX12_leastAt_0 (fun v_1 e_2 => ?_)
  refine lv_istore_n (lv' := [(3, .int v_1), (0, .ref (ad 0)), (1, .int a1), (2, .int a2)]) C0.1 C0.2.1 dX12_leastAt_3 rfl hl (by decide) rfl (fun ls hl => ?_)
  refine y_c1 (n := 0) C0 (by decide) dX12_leastAt_4 (fun v_3 e_4 => ?_)
  refine lv_istore (lv' := [(4, .int v_3), (3, .int v_1), (0, .ref (ad 0)), (1, .int a1), (2, .int a2)]) C0.1 C0.2.1 dX12_leastAt_5 hl (by decide) rfl (fun ls hl => ?_)
  have lp_9 : ∀ (n_11 : Nat) (x4_5 : Int32) (x3_6 : Int32) (H : Heap) (locs : List Loc) (ls : Array Slot) (ws_7 : va_W), 4 - x4_5.toInt < (n_11 : Int) → 0 ≤ x4_5.toInt → x4_5.toInt ≤ 4 → (x3_6.toInt = lA ws0 a1.toInt a2.toInt x4_5.toInt.toNat) → Wt G (SM tt) ad A s H locs ws_7 → Fr (SM tt) [] ws0 ws_7 → lv_has ls 5 [(4, .int x4_5), (3, .int x3_6), (0, .ref (ad 0)), (1, .int a1), (2, .int a2)] → W p l e (rmd 2 0 0) s m args below meth c H locs 0 0 Q (F0 m 7 ls []) := by
    intro n_11
    induction n_11 with
    | zero => intro x4_5 x3_6 H locs ls ws_7 hn_12 b_13 b_14 hLA h hF_8 hl; exact ((o36_19 b_13 b_14 hn_12)).elim
    | succ n_11 ih_10 =>
      intro x4_5 x3_6 H locs ls ws_7 hn_12 b_13 b_14 hLA h hF_8 hl
      refine lv_iload C0.1 C0.2.1 dX12_leastAt_7 (lv_at hl 0 rfl) ?_
      refine y_c1 (n := 4) C0 (by decide) dX12_leastAt_9 (fun v_15 e_16 => ?_)
      refine y_icmp_ge (tgt := 40) C0 dX12_leastAt_10 (by decide) (fun c_17 => ?_) (fun c_17 => ?_)
      · -- 10
        refine lv_iload_n C0.1 C0.2.1 dX12_leastAt_40 rfl (lv_at hl 1 rfl) ?_
        rw [hQ]
        exact y_iret C0 h hF_8 (lA_e hLA (o36_280 b_13 b_14 hn_12 e_16 c_17)) dX12_leastAt_41
      · -- 10
        refine lv_iload_n C0.1 C0.2.1 dX12_leastAt_13 rfl (lv_at hl 1 rfl) ?_
        refine lv_aload_n C0.1 C0.2.1 dX12_leastAt_14 rfl (lv_at hl 2 rfl) ?_
        refine ng_X12_sofar C0 h kSM_0 q_1459 dX12_leastAt_15 ?_
        refine y_c2 (n := 100) C0 (by decide) dX12_leastAt_18 (fun v_18 e_19 => ?_)
        refine lv_iload_n C0.1 C0.2.1 dX12_leastAt_20 rfl (lv_at hl 3 rfl) ?_
        refine y_cmul (n := 100) C0 (o36_25 e_19) (o36_79 l1 u1 (le_min a1) (le_max a1)) (o36_80 l1 u1 (le_min a1) (le_max a1)) dX12_leastAt_21 (fun v_20 e_21 => ?_)
        refine y_c1 (n := 4) C0 (by decide) dX12_leastAt_22 (fun v_22 e_23 => ?_)
        refine lv_iload_n C0.1 C0.2.1 dX12_leastAt_23 rfl (lv_at hl 4 rfl) ?_
        refine y_cmul (n := 4) C0 (o36_28 e_23) (o36_81 l2 u2 (le_min a2) (le_max a2)) (o36_82 l2 u2 (le_min a2) (le_max a2)) dX12_leastAt_24 (fun v_24 e_25 => ?_)
        refine y_add C0 (o36_83 l1 u1 l2 u2 e_21 e_25 (le_min v_20) (le_max v_20) (le_min v_24) (le_max v_24) (le_min a1) (le_max a1) (le_min a2) (le_max a2)) (o36_84 l1 u1 l2 u2 e_21 e_25 (le_min v_20) (le_max v_20) (le_min v_24) (le_max v_24) (le_min a1) (le_max a1) (le_min a2) (le_max a2)) dX12_leastAt_25 (fun v_26 e_27 => ?_)
        refine lv_iload C0.1 C0.2.1 dX12_leastAt_26 (lv_at hl 0 rfl) ?_
        refine y_add C0 (o36_281 l1 u1 l2 u2 b_13 b_14 hn_12 e_16 c_17 e_21 e_25 e_27 (le_min v_26) (le_max v_26) (le_min x4_5) (le_max x4_5) (le_min a1) (le_max a1) (le_min a2) (le_max a2) (le_min v_15) (le_max v_15) (le_min v_20) (le_max v_20) (le_min v_24) (le_max v_24)) (o36_282 l1 u1 l2 u2 b_13 b_14 hn_12 e_16 c_17 e_21 e_25 e_27 (le_min v_26) (le_max v_26) (le_min x4_5) (le_max x4_5) (le_min a1) (le_max a1) (le_min a2) (le_max a2) (le_min v_15) (le_max v_15) (le_min v_20) (le_max v_20) (le_min v_24) (le_max v_24)) dX12_leastAt_28 (fun v_28 e_29 => ?_)
        refine y_iald C0 h kSM_8 rfl (by decide) (o36_283 l1 u1 l2 u2 b_13 b_14 hn_12 e_16 c_17 e_21 e_25 e_27 e_29) (o36_284 l1 u1 l2 u2 b_13 b_14 hn_12 e_16 c_17 e_21 e_25 e_27 e_29) dX12_leastAt_29 (fun v_30 e_31 e_32 e_33 => ?_)
        refine y_ci h (y_rS (As := [.int x3_6, .int v_30]) (rest := []) C0 hZ h (c_X12_lesser l G Z ad _ h.2 x3_6 v_30) k_X12_lesser q_1784 q_1783 hl.1 rfl rfl (Nat.le_of_ble_eq_true rfl) dX12_leastAt_30 ⟨Nat.le_of_ble_eq_true rfl, Nat.le_of_ble_eq_true rfl⟩ ⟨Nat.le_of_ble_eq_true rfl, Nat.le_of_ble_eq_true rfl⟩) (fun r_37 H locs ws_34 h u_35 p_36 => ?_)
        obtain ⟨e_38, e_39⟩ := p_36
        refine lv_istore_n (lv' := [(3, .int r_37), (4, .int x4_5), (0, .ref (ad 0)), (1, .int a1), (2, .int a2)]) C0.1 C0.2.1 dX12_leastAt_33 rfl hl (by decide) rfl (fun ls hl => ?_)
        refine y_inc (kp := 1) (n := 1) (fun v_40 => [(4, .int v_40), (3, .int r_37), (0, .ref (ad 0)), (1, .int a1), (2, .int a2)]) C0 hl rfl (by decide) (by decide) (fun _ => rfl) (o36_285 l1 u1 l2 u2 b_13 b_14 hn_12 e_16 c_17 e_21 e_25 e_27 e_29 (le_min x4_5) (le_max x4_5) (le_min a1) (le_max a1) (le_min a2) (le_max a2) (le_min v_15) (le_max v_15) (le_min v_20) (le_max v_20) (le_min v_24) (le_max v_24) (le_min v_26) (le_max v_26) (le_min v_28) (le_max v_28)) (o36_286 l1 u1 l2 u2 b_13 b_14 hn_12 e_16 c_17 e_21 e_25 e_27 e_29 (le_min x4_5) (le_max x4_5) (le_min a1) (le_max a1) (le_min a2) (le_max a2) (le_min v_15) (le_max v_15) (le_min v_20) (le_max v_20) (le_min v_24) (le_max v_24) (le_min v_26) (le_max v_26) (le_min v_28) (le_max v_28)) dX12_leastAt_34 (fun v_40 ls e_41 hl => ?_)
        refine lv_goto (tgt := 7) C0.1 C0.2.1 dX12_leastAt_37 (by decide) ?_
        exact ih_10 v_40 r_37 _ _ _ _ (o36_287 l1 u1 l2 u2 b_13 b_14 hn_12 e_16 c_17 e_21 e_25 e_27 e_29 e_41) (o36_288 l1 u1 l2 u2 b_13 b_14 hn_12 e_16 c_17 e_21 e_25 e_27 e_29 e_41) (o36_289 l1 u1 l2 u2 b_13 b_14 hn_12 e_16 c_17 e_21 e_25 e_27 e_29 e_41) ((lA_s hLA (o36_290 l1 u1 l2 u2 b_13 b_14 hn_12 e_16 c_17 e_21 e_25 e_27 e_29 e_41) (Eq.trans (Eq.symm (Fr.aI hF_8 kSM_8 (by decide))) e_31) (o36_291 l1 u1 l2 u2 b_13 b_14 hn_12 e_16 c_17 e_21 e_25 e_27 e_29 e_41) e_41 (o36_292 e_38 e_39))) h (Fr.tr hF_8 u_35) (lv_sub hl [0, 1, 2, 3, 4] rfl)
  exact lp_9 ((4 - v_3.toInt + 1).toNat) v_3 v_1 _ _ _ _ (o36_60 e_4) (o36_61 e_4) (o36_62 e_4) ((lA_i e_2 e_4)) h Fr.rf (lv_sub hl [0, 1, 2, 3, 4] rfl)
set_option maxHeartbeats 4000000 in
set_option maxRecDepth 100000 in
theorem c_X12_leastWithin (l : Launch) (G : GG) (Z : RZ) (ad : Nat → Nat) (ws0 : va_W) (hT : Ty G (SM tt) ad ws0) (a1 : Int32) (a2 : Int32) (l1 : 0 ≤ a1.toInt) (u1 : a1.toInt ≤ 24) (l2 : 0 ≤ a2.toInt) (u2 : a2.toInt ≤ 60) : Mq l yX12_leastWithin cX12_leastWithin 5 (some .int) 3 G Z [.ref (ad 0), .int a1, .int a2] ws0 (PI G (SM tt) ad [] ws0 (fun r u => (r.toInt = 1000000000 ∨ ∃ j : Int, 0 ≤ j ∧ j ≤ a2.toInt ∧ lA ws0 j a1.toInt 4 ≤ r.toInt))) := by
  refine Mq.start (by decide) (Nat.le_of_ble_eq_true rfl) ?_
  intro p e s m below meth c A ls C0 hZ h hl
  have hl : lv_has ls 5 [(0, .ref (ad 0)), (1, .int a1), (2, .int a2)] := hl
  have h : Wt G (SM tt) ad A s s.heap [] ws0 := ⟨h, hT⟩
  obtain ⟨args, hargs⟩ : ∃ z, z = ([.ref (ad 0), .int a1, .int a2] : List Value).toArray := ⟨_, rfl⟩
  rw [← hargs] at C0 ⊢
  have C0 : Cx p s m args meth c RX12 cX12_leastWithin 5 (some .int) := C0
  obtain ⟨Q, hQ⟩ : ∃ z, z = MQ below ((PI G (SM tt) ad [] ws0 (fun r u => (r.toInt = 1000000000 ∨ ∃ j : Int, 0 ≤ j ∧ j ≤ a2.toInt ∧ lA ws0 j a1.toInt 4 ≤ r.toInt))) A) args s 0 0 A := ⟨_, rfl⟩
  rw [← hQ]
  refine y_c5 (n := 1000000000) C0 q_1887 (by decide) dX12_leastWithin_0 (fun v_1 e_2 => ?_)
  refine lv_istore_n (lv' := [(3, .int v_1), (0, .ref (ad 0)), (1, .int a1), (2, .int a2)]) C0.1 C0.2.1 dX12_leastWithin_3 rfl hl (by decide) rfl (fun ls hl => ?_)
  refine y_c1 (n := 0) C0 (by decide) dX12_leastWithin_4 (fun v_3 e_4 => ?_)
  refine lv_istore (lv' := [(4, .int v_3), (3, .int v_1), (0, .ref (ad 0)), (1, .int a1), (2, .int a2)]) C0.1 C0.2.1 dX12_leastWithin_5 hl (by decide) rfl (fun ls hl => ?_)
  have lp_9 : ∀ (n_11 : Nat) (x4_5 : Int32) (x3_6 : Int32) (H : Heap) (locs : List Loc) (ls : Array Slot) (ws_7 : va_W), 61 - x4_5.toInt < (n_11 : Int) → 0 ≤ x4_5.toInt → x4_5.toInt ≤ 61 → x4_5.toInt ≤ a2.toInt + 1 → (x3_6.toInt = 1000000000 ∨ ∃ j : Int, 0 ≤ j ∧ j < x4_5.toInt ∧ lA ws0 j a1.toInt 4 ≤ x3_6.toInt) → Wt G (SM tt) ad A s H locs ws_7 → Fr (SM tt) [] ws0 ws_7 → lv_has ls 5 [(4, .int x4_5), (3, .int x3_6), (0, .ref (ad 0)), (1, .int a1), (2, .int a2)] → W p l e (rmd 3 0 0) s m args below meth c H locs 0 0 Q (F0 m 7 ls []) := by
    intro n_11
    induction n_11 with
    | zero => intro x4_5 x3_6 H locs ls ws_7 hn_12 b_13 b_14 b_15 hLW h hF_8 hl; exact ((o36_293 l2 u2 b_13 b_14 b_15 hn_12)).elim
    | succ n_11 ih_10 =>
      intro x4_5 x3_6 H locs ls ws_7 hn_12 b_13 b_14 b_15 hLW h hF_8 hl
      refine lv_iload C0.1 C0.2.1 dX12_leastWithin_7 (lv_at hl 0 rfl) ?_
      refine lv_iload_n C0.1 C0.2.1 dX12_leastWithin_9 rfl (lv_at hl 4 rfl) ?_
      refine y_icmp_gt (tgt := 31) C0 dX12_leastWithin_10 (by decide) (fun c_16 => ?_) (fun c_16 => ?_)
      · -- 10
        refine lv_iload_n C0.1 C0.2.1 dX12_leastWithin_31 rfl (lv_at hl 1 rfl) ?_
        rw [hQ]
        exact y_iret C0 h hF_8 (lW_e hLW (o36_294 l2 u2 b_13 b_14 b_15 hn_12 c_16)) dX12_leastWithin_32
      · -- 10
        refine lv_iload_n C0.1 C0.2.1 dX12_leastWithin_13 rfl (lv_at hl 1 rfl) ?_
        refine lv_aload_n C0.1 C0.2.1 dX12_leastWithin_14 rfl (lv_at hl 2 rfl) ?_
        refine lv_iload C0.1 C0.2.1 dX12_leastWithin_15 (lv_at hl 0 rfl) ?_
        refine lv_iload_n C0.1 C0.2.1 dX12_leastWithin_17 rfl (lv_at hl 3 rfl) ?_
        refine y_ci h (y_rV (As := [.int x4_5, .int a1]) (rest := [.int x3_6]) C0 hZ h (c_X12_leastAt l G Z ad _ h.2 x4_5 a1 (o36_295 l2 u2 b_13 b_14 b_15 hn_12 c_16) (o36_296 l2 u2 b_13 b_14 b_15 hn_12 c_16) (o36_69 l1 u1) (o36_70 l1 u1)) k_X12_leastAt q_1898 q_106 q_1896 kSM_0 rfl rfl rfl hl.1 rfl rfl (Nat.le_of_ble_eq_true rfl) dX12_leastWithin_18 ⟨Nat.le_of_ble_eq_true rfl, Nat.le_of_ble_eq_true rfl⟩ ⟨Nat.le_of_ble_eq_true rfl, Nat.le_of_ble_eq_true rfl⟩) (fun r_20 H locs ws_17 h u_18 p_19 => ?_)
        have e_21 := p_19
        refine y_ci h (y_rS (As := [.int x3_6, .int r_20]) (rest := []) C0 hZ h (c_X12_lesser l G Z ad _ h.2 x3_6 r_20) k_X12_lesser q_1784 q_1783 hl.1 rfl rfl (Nat.le_of_ble_eq_true rfl) dX12_leastWithin_21 ⟨Nat.le_of_ble_eq_true rfl, Nat.le_of_ble_eq_true rfl⟩ ⟨Nat.le_of_ble_eq_true rfl, Nat.le_of_ble_eq_true rfl⟩) (fun r_25 H locs ws_22 h u_23 p_24 => ?_)
        obtain ⟨e_26, e_27⟩ := p_24
        refine lv_istore_n (lv' := [(3, .int r_25), (4, .int x4_5), (0, .ref (ad 0)), (1, .int a1), (2, .int a2)]) C0.1 C0.2.1 dX12_leastWithin_24 rfl hl (by decide) rfl (fun ls hl => ?_)
        refine y_inc (kp := 1) (n := 1) (fun v_28 => [(4, .int v_28), (3, .int r_25), (0, .ref (ad 0)), (1, .int a1), (2, .int a2)]) C0 hl rfl (by decide) (by decide) (fun _ => rfl) (o36_297 l2 u2 b_13 b_14 b_15 hn_12 c_16 (le_min x4_5) (le_max x4_5) (le_min a2) (le_max a2)) (o36_298 l2 u2 b_13 b_14 b_15 hn_12 c_16 (le_min x4_5) (le_max x4_5) (le_min a2) (le_max a2)) dX12_leastWithin_25 (fun v_28 ls e_29 hl => ?_)
        refine lv_goto (tgt := 7) C0.1 C0.2.1 dX12_leastWithin_28 (by decide) ?_
        exact ih_10 v_28 r_25 _ _ _ _ (o36_299 l2 u2 b_13 b_14 b_15 hn_12 c_16 e_29) (o36_300 l2 u2 b_13 b_14 b_15 hn_12 c_16 e_29) (o36_301 l2 u2 b_13 b_14 b_15 hn_12 c_16 e_29) (o36_302 l2 u2 b_13 b_14 b_15 hn_12 c_16 e_29) ((lW_s hLW (Eq.trans e_21 (lA_cg (M := []) hF_8 (by decide) _ _ 4)) (o36_303 l2 u2 b_13 b_14 b_15 hn_12 c_16 e_29) e_29 (o36_304 e_26 e_27))) h (Fr.tr (Fr.tr hF_8 u_18) u_23) (lv_sub hl [0, 1, 2, 3, 4] rfl)
  exact lp_9 ((61 - v_3.toInt + 1).toNat) v_3 v_1 _ _ _ _ (o36_65 e_4) (o36_61 e_4) (o36_66 e_4) (o36_305 l2 u2 e_4) ((lW_i e_2)) h Fr.rf (lv_sub hl [0, 1, 2, 3, 4] rfl)
set_option maxHeartbeats 4000000 in
set_option maxRecDepth 100000 in
theorem c_X12_laysFor (l : Launch) (G : GG) (Z : RZ) (ad : Nat → Nat) (ws0 : va_W) (hT : Ty G (SM tt) ad ws0) (a1 : Int32) (a2 : Int32) (a3 : Int32) (l1 : 0 ≤ a1.toInt) (u1 : a1.toInt ≤ 4) (l2 : 0 ≤ a2.toInt) (u2 : a2.toInt ≤ 60) (l3 : 0 ≤ a3.toInt) (u3 : a3.toInt ≤ 1) (hJ : J ws0) (hLd : Laid ws0) : Mq l yX12_laysFor cX12_laysFor 4 none 6 G Z [.ref (ad 0), .int a1, .int a2, .int a3] ws0 (PV G (SM tt) ad [0, 5, 8, 10, 11, 12] ws0 (fun u => True)) := by
  refine Mq.start (by decide) (Nat.le_of_ble_eq_true rfl) ?_
  intro p e s m below meth c A ls C0 hZ h hl
  have hl : lv_has ls 4 [(0, .ref (ad 0)), (1, .int a1), (2, .int a2), (3, .int a3)] := hl
  have h : Wt G (SM tt) ad A s s.heap [] ws0 := ⟨h, hT⟩
  obtain ⟨args, hargs⟩ : ∃ z, z = ([.ref (ad 0), .int a1, .int a2, .int a3] : List Value).toArray := ⟨_, rfl⟩
  rw [← hargs] at C0 ⊢
  have C0 : Cx p s m args meth c RX12 cX12_laysFor 4 none := C0
  obtain ⟨Q, hQ⟩ : ∃ z, z = MQ below ((PV G (SM tt) ad [0, 5, 8, 10, 11, 12] ws0 (fun u => True)) A) args s 0 0 A := ⟨_, rfl⟩
  rw [← hQ]
  refine lv_aload_n C0.1 C0.2.1 dX12_laysFor_0 rfl (lv_at hl 0 rfl) ?_
  refine y_c1 (n := 0) C0 (by decide) dX12_laysFor_1 (fun v_1 e_2 => ?_)
  refine np_X12_from0 C0 h kSM_0 q_1464 (le_min v_1) (le_max v_1) dX12_laysFor_2 (fun H locs ws_3 h u_4 => ?_)
  refine lv_aload_n C0.1 C0.2.1 dX12_laysFor_5 rfl (lv_at hl 0 rfl) ?_
  refine lv_iload_n C0.1 C0.2.1 dX12_laysFor_6 rfl (lv_at hl 2 rfl) ?_
  refine y_cv h (y_rV (As := [.int a2]) (rest := []) C0 hZ h (c_X12_laysLaws l G Z ad _ h.2 a2 (o36_306 l2 u2) (o36_307 l2 u2) (J.pa hT hJ (Pa.ud u_4.1 (by decide))) (Laid.pa hLd (Pa.ud u_4.1 (by decide)))) k_X12_laysLaws q_1881 q_102 q_1879 kSM_0 rfl rfl rfl hl.1 rfl rfl (Nat.le_of_ble_eq_true rfl) dX12_laysFor_7 ⟨Nat.le_of_ble_eq_true rfl, Nat.le_of_ble_eq_true rfl⟩ ⟨Nat.le_of_ble_eq_true rfl, Nat.le_of_ble_eq_true rfl⟩) (fun H locs ws_5 h u_6 p_7 => ?_)
  refine lv_aload_n C0.1 C0.2.1 dX12_laysFor_10 rfl (lv_at hl 0 rfl) ?_
  refine lv_aload_n C0.1 C0.2.1 dX12_laysFor_11 rfl (lv_at hl 0 rfl) ?_
  refine ng_X12_all C0 h kSM_0 q_1439 dX12_laysFor_12 ?_
  refine y_c2 (n := 36) C0 (by decide) dX12_laysFor_15 (fun v_8 e_9 => ?_)
  refine lv_iload_n C0.1 C0.2.1 dX12_laysFor_17 rfl (lv_at hl 1 rfl) ?_
  refine y_add C0 (o36_308 l1 u1 e_9 (le_min v_8) (le_max v_8) (le_min a1) (le_max a1)) (o36_309 l1 u1 e_9 (le_min v_8) (le_max v_8) (le_min a1) (le_max a1)) dX12_laysFor_18 (fun v_10 e_11 => ?_)
  refine y_iald C0 h kSM_1 rfl (by decide) (o36_310 l1 u1 e_9 e_11) (o36_311 l1 u1 e_9 e_11) dX12_laysFor_19 (fun v_12 e_13 e_14 e_15 => ?_)
  have f_16 := o36_312 v_10.toInt.toNat (o36_313 l1 u1 e_9 e_11) (o36_314 l1 u1 e_9 e_11)
  refine lv_aload_n C0.1 C0.2.1 dX12_laysFor_20 rfl (lv_at hl 0 rfl) ?_
  refine ng_X12_all C0 h kSM_0 q_1439 dX12_laysFor_21 ?_
  refine y_c2 (n := 41) C0 (by decide) dX12_laysFor_24 (fun v_17 e_18 => ?_)
  refine lv_iload_n C0.1 C0.2.1 dX12_laysFor_26 rfl (lv_at hl 1 rfl) ?_
  refine y_add C0 (o36_315 l1 u1 e_9 e_11 e_18 (le_min v_17) (le_max v_17) (le_min a1) (le_max a1) (le_min v_8) (le_max v_8) (le_min v_10) (le_max v_10)) (o36_316 l1 u1 e_9 e_11 e_18 (le_min v_17) (le_max v_17) (le_min a1) (le_max a1) (le_min v_8) (le_max v_8) (le_min v_10) (le_max v_10)) dX12_laysFor_27 (fun v_19 e_20 => ?_)
  refine y_iald C0 h kSM_1 rfl (by decide) (o36_317 l1 u1 e_9 e_11 e_18 e_20) (o36_318 l1 u1 e_9 e_11 e_18 e_20) dX12_laysFor_28 (fun v_21 e_22 e_23 e_24 => ?_)
  have f_25 := o36_319 v_19.toInt.toNat (o36_320 l1 u1 e_9 e_11 e_18 e_20) (o36_321 l1 u1 e_9 e_11 e_18 e_20)
  refine lv_iload_n C0.1 C0.2.1 dX12_laysFor_29 rfl (lv_at hl 2 rfl) ?_
  refine lv_iload_n C0.1 C0.2.1 dX12_laysFor_30 rfl (lv_at hl 3 rfl) ?_
  refine y_cv h (y_rV (As := [.int v_12, .int v_21, .int a2, .int a3]) (rest := []) C0 hZ h (c_X12_laysSofar l G Z ad _ h.2 v_12 v_21 a2 a3 (o36_69 (Int.le_trans f_16.1 e_14) (Int.le_trans e_15 f_16.2)) (o36_70 (Int.le_trans f_16.1 e_14) (Int.le_trans e_15 f_16.2)) (o36_67 (Int.le_trans f_25.1 e_23) (Int.le_trans e_24 f_25.2)) (o36_68 (Int.le_trans f_25.1 e_23) (Int.le_trans e_24 f_25.2)) (o36_306 l2 u2) (o36_307 l2 u2) (o36_17 l3 u3) (o36_18 l3 u3) (Laid.pa hLd (Pa.tr (Pa.ud u_4.1 (by decide)) (Pa.fr u_6 (by decide))))) k_X12_laysSofar q_1885 q_103 q_1883 kSM_0 rfl rfl rfl hl.1 rfl rfl (Nat.le_of_ble_eq_true rfl) dX12_laysFor_31 ⟨Nat.le_of_ble_eq_true rfl, Nat.le_of_ble_eq_true rfl⟩ ⟨Nat.le_of_ble_eq_true rfl, Nat.le_of_ble_eq_true rfl⟩) (fun H locs ws_26 h u_27 p_28 => ?_)
  rw [hQ]
  exact y_vret C0 h (Fr.tr (Fr.tr (Fr.up u_4.1 kSM_0 (by decide)) (Fr.mono u_6 (by decide))) (Fr.mono u_27 (by decide))) trivial dX12_laysFor_34
set_option maxHeartbeats 4000000 in
set_option maxRecDepth 100000 in
theorem c_X12_soonestBy (l : Launch) (G : GG) (Z : RZ) (ad : Nat → Nat) (ws0 : va_W) (hT : Ty G (SM tt) ad ws0) (a1 : Int32) (a2 : Int32) (l1 : 0 ≤ a1.toInt) (u1 : a1.toInt ≤ 24) : Mq l yX12_soonestBy cX12_soonestBy 4 (some .int) 3 G Z [.ref (ad 0), .int a1, .int a2] ws0 (PI G (SM tt) ad [] ws0 (fun r u => ((-1) ≤ r.toInt) ∧ (r.toInt ≤ 60) ∧ (0 ≤ r.toInt ∨ ∀ j : Int, 0 ≤ j → j ≤ 60 → a2.toInt < lA ws0 j a1.toInt 4))) := by
  refine Mq.start (by decide) (Nat.le_of_ble_eq_true rfl) ?_
  intro p e s m below meth c A ls C0 hZ h hl
  have hl : lv_has ls 4 [(0, .ref (ad 0)), (1, .int a1), (2, .int a2)] := hl
  have h : Wt G (SM tt) ad A s s.heap [] ws0 := ⟨h, hT⟩
  obtain ⟨args, hargs⟩ : ∃ z, z = ([.ref (ad 0), .int a1, .int a2] : List Value).toArray := ⟨_, rfl⟩
  rw [← hargs] at C0 ⊢
  have C0 : Cx p s m args meth c RX12 cX12_soonestBy 4 (some .int) := C0
  obtain ⟨Q, hQ⟩ : ∃ z, z = MQ below ((PI G (SM tt) ad [] ws0 (fun r u => ((-1) ≤ r.toInt) ∧ (r.toInt ≤ 60) ∧ (0 ≤ r.toInt ∨ ∀ j : Int, 0 ≤ j → j ≤ 60 → a2.toInt < lA ws0 j a1.toInt 4))) A) args s 0 0 A := ⟨_, rfl⟩
  rw [← hQ]
  refine y_c1 (n := 0) C0 (by decide) dX12_soonestBy_0 (fun v_1 e_2 => ?_)
  refine lv_istore_n (lv' := [(3, .int v_1), (0, .ref (ad 0)), (1, .int a1), (2, .int a2)]) C0.1 C0.2.1 dX12_soonestBy_1 rfl hl (by decide) rfl (fun ls hl => ?_)
  have lp_6 : ∀ (n_8 : Nat) (x3_3 : Int32) (H : Heap) (locs : List Loc) (ls : Array Slot) (ws_4 : va_W), 61 - x3_3.toInt < (n_8 : Int) → 0 ≤ x3_3.toInt → x3_3.toInt ≤ 61 → (∀ j : Int, 0 ≤ j → j < x3_3.toInt → a2.toInt < lA ws0 j a1.toInt 4) → Wt G (SM tt) ad A s H locs ws_4 → Fr (SM tt) [] ws0 ws_4 → lv_has ls 4 [(3, .int x3_3), (0, .ref (ad 0)), (1, .int a1), (2, .int a2)] → W p l e (rmd 3 0 0) s m args below meth c H locs 0 0 Q (F0 m 2 ls []) := by
    intro n_8
    induction n_8 with
    | zero => intro x3_3 H locs ls ws_4 hn_9 b_10 b_11 hSB h hF_5 hl; exact ((o36_1 b_10 b_11 hn_9)).elim
    | succ n_8 ih_7 =>
      intro x3_3 H locs ls ws_4 hn_9 b_10 b_11 hSB h hF_5 hl
      refine lv_iload_n C0.1 C0.2.1 dX12_soonestBy_2 rfl (lv_at hl 0 rfl) ?_
      refine y_c2 (n := 60) C0 (by decide) dX12_soonestBy_3 (fun v_12 e_13 => ?_)
      refine y_icmp_gt (tgt := 26) C0 dX12_soonestBy_5 (by decide) (fun c_14 => ?_) (fun c_14 => ?_)
      · -- 5
        refine y_c1 (n := (-1)) C0 (by decide) dX12_soonestBy_26 (fun v_15 e_16 => ?_)
        rw [hQ]
        exact y_iret C0 h hF_5 ⟨(o36_322 e_16), (o36_323 e_16), (Or.inr (sB_e hSB (o36_324 b_10 b_11 hn_9 e_13 c_14)))⟩ dX12_soonestBy_27
      · -- 5
        refine lv_aload_n C0.1 C0.2.1 dX12_soonestBy_8 rfl (lv_at hl 1 rfl) ?_
        refine lv_iload_n C0.1 C0.2.1 dX12_soonestBy_9 rfl (lv_at hl 0 rfl) ?_
        refine lv_iload_n C0.1 C0.2.1 dX12_soonestBy_10 rfl (lv_at hl 2 rfl) ?_
        refine y_ci h (y_rV (As := [.int x3_3, .int a1]) (rest := []) C0 hZ h (c_X12_leastAt l G Z ad _ h.2 x3_3 a1 (o36_325 b_10 b_11 hn_9 e_13 c_14) (o36_326 b_10 b_11 hn_9 e_13 c_14) (o36_69 l1 u1) (o36_70 l1 u1)) k_X12_leastAt q_1898 q_106 q_1896 kSM_0 rfl rfl rfl hl.1 rfl rfl (Nat.le_of_ble_eq_true rfl) dX12_soonestBy_11 ⟨Nat.le_of_ble_eq_true rfl, Nat.le_of_ble_eq_true rfl⟩ ⟨Nat.le_of_ble_eq_true rfl, Nat.le_of_ble_eq_true rfl⟩) (fun r_20 H locs ws_17 h u_18 p_19 => ?_)
        have e_21 := p_19
        refine lv_iload_n C0.1 C0.2.1 dX12_soonestBy_14 rfl (lv_at hl 3 rfl) ?_
        refine y_icmp_gt (tgt := 20) C0 dX12_soonestBy_15 (by decide) (fun c_22 => ?_) (fun c_22 => ?_)
        · -- 15
          refine y_inc (kp := 0) (n := 1) (fun v_23 => [(3, .int v_23), (0, .ref (ad 0)), (1, .int a1), (2, .int a2)]) C0 hl rfl (by decide) (by decide) (fun _ => rfl) (o36_327 b_10 b_11 hn_9 e_13 c_14 (le_min x3_3) (le_max x3_3) (le_min v_12) (le_max v_12)) (o36_328 b_10 b_11 hn_9 e_13 c_14 (le_min x3_3) (le_max x3_3) (le_min v_12) (le_max v_12)) dX12_soonestBy_20 (fun v_23 ls e_24 hl => ?_)
          refine lv_goto (tgt := 2) C0.1 C0.2.1 dX12_soonestBy_23 (by decide) ?_
          exact ih_7 v_23 _ _ _ _ (o36_329 b_10 b_11 hn_9 e_13 c_14 e_24) (o36_330 b_10 b_11 hn_9 e_13 c_14 e_24) (o36_331 b_10 b_11 hn_9 e_13 c_14 e_24) ((sB_s hSB (Eq.trans e_21 (lA_cg (M := []) hF_5 (by decide) _ _ 4)) (o36_332 c_22) e_24)) h (Fr.tr hF_5 u_18) (lv_sub hl [0, 1, 2, 3] rfl)
        · -- 15
          refine lv_iload_n C0.1 C0.2.1 dX12_soonestBy_18 rfl (lv_at hl 0 rfl) ?_
          rw [hQ]
          exact y_iret C0 h (Fr.tr hF_5 u_18) ⟨(o36_333 b_10 b_11 hn_9 e_13 c_14), (o36_326 b_10 b_11 hn_9 e_13 c_14), (Or.inl (o36_325 b_10 b_11 hn_9 e_13 c_14))⟩ dX12_soonestBy_19
  exact lp_6 ((61 - v_1.toInt + 1).toNat) v_1 _ _ _ _ (o36_65 e_2) (o36_61 e_2) (o36_66 e_2) ((sB_i e_2)) h Fr.rf (lv_sub hl [0, 1, 2, 3] rfl)
set_option maxHeartbeats 4000000 in
set_option maxRecDepth 100000 in
theorem c_X12_wayOf (l : Launch) (G : GG) (Z : RZ) (ad : Nat → Nat) (ws0 : va_W) (hT : Ty G (SM tt) ad ws0) (a1 : Int32) (a2 : Int32) (a3 : Int32) (l1 : 0 ≤ a1.toInt) (u1 : a1.toInt ≤ 4) (l2 : 0 ≤ a2.toInt) (u2 : a2.toInt ≤ 24) (hJ : J ws0) (hLd : Laid ws0) : Mq l yX12_wayOf cX12_wayOf 4 (some .int) 7 G Z [.ref (ad 0), .int a1, .int a2, .int a3] ws0 (PI G (SM tt) ad [0, 5, 8, 10, 11, 12] ws0 (fun r u => ((-1) ≤ r.toInt) ∧ (r.toInt ≤ 60))) := by
  refine Mq.start (by decide) (Nat.le_of_ble_eq_true rfl) ?_
  intro p e s m below meth c A ls C0 hZ h hl
  have hl : lv_has ls 4 [(0, .ref (ad 0)), (1, .int a1), (2, .int a2), (3, .int a3)] := hl
  have h : Wt G (SM tt) ad A s s.heap [] ws0 := ⟨h, hT⟩
  obtain ⟨args, hargs⟩ : ∃ z, z = ([.ref (ad 0), .int a1, .int a2, .int a3] : List Value).toArray := ⟨_, rfl⟩
  rw [← hargs] at C0 ⊢
  have C0 : Cx p s m args meth c RX12 cX12_wayOf 4 (some .int) := C0
  obtain ⟨Q, hQ⟩ : ∃ z, z = MQ below ((PI G (SM tt) ad [0, 5, 8, 10, 11, 12] ws0 (fun r u => ((-1) ≤ r.toInt) ∧ (r.toInt ≤ 60))) A) args s 0 0 A := ⟨_, rfl⟩
  rw [← hQ]
  refine lv_aload_n C0.1 C0.2.1 dX12_wayOf_0 rfl (lv_at hl 0 rfl) ?_
  refine lv_iload_n C0.1 C0.2.1 dX12_wayOf_1 rfl (lv_at hl 1 rfl) ?_
  refine y_c2 (n := 60) C0 (by decide) dX12_wayOf_2 (fun v_1 e_2 => ?_)
  refine y_c1 (n := 0) C0 (by decide) dX12_wayOf_4 (fun v_3 e_4 => ?_)
  refine y_cv h (y_rV (As := [.int a1, .int v_1, .int v_3]) (rest := []) C0 hZ h (c_X12_laysFor l G Z ad _ h.2 a1 v_1 v_3 (o36_334 l1 u1) (o36_335 l1 u1) (o36_336 e_2) (o36_337 e_2) (o36_61 e_4) (o36_338 e_4) hJ (Laid.pa hLd Pa.rf)) k_X12_laysFor q_1877 q_101 q_1875 kSM_0 rfl rfl rfl hl.1 rfl rfl (Nat.le_of_ble_eq_true rfl) dX12_wayOf_5 ⟨Nat.le_of_ble_eq_true rfl, Nat.le_of_ble_eq_true rfl⟩ ⟨Nat.le_of_ble_eq_true rfl, Nat.le_of_ble_eq_true rfl⟩) (fun H locs ws_5 h u_6 p_7 => ?_)
  refine lv_aload_n C0.1 C0.2.1 dX12_wayOf_8 rfl (lv_at hl 0 rfl) ?_
  refine lv_iload_n C0.1 C0.2.1 dX12_wayOf_9 rfl (lv_at hl 2 rfl) ?_
  refine lv_iload_n C0.1 C0.2.1 dX12_wayOf_10 rfl (lv_at hl 3 rfl) ?_
  refine y_ci h (y_rV (As := [.int a2, .int a3]) (rest := []) C0 hZ h (c_X12_soonestBy l G Z ad _ h.2 a2 a3 (o36_69 l2 u2) (o36_70 l2 u2)) k_X12_soonestBy q_1894 q_105 q_1892 kSM_0 rfl rfl rfl hl.1 rfl rfl (Nat.le_of_ble_eq_true rfl) dX12_wayOf_11 ⟨Nat.le_of_ble_eq_true rfl, Nat.le_of_ble_eq_true rfl⟩ ⟨Nat.le_of_ble_eq_true rfl, Nat.le_of_ble_eq_true rfl⟩) (fun r_11 H locs ws_8 h u_9 p_10 => ?_)
  obtain ⟨e_12, e_13, e_14⟩ := p_10
  rw [hQ]
  exact y_iret C0 h (Fr.tr u_6 (Fr.mono u_9 (by decide))) ⟨(o36_339 e_12 e_13), (o36_340 e_12 e_13)⟩ dX12_wayOf_14
set_option maxHeartbeats 4000000 in
set_option maxRecDepth 100000 in
theorem c_X12_way (l : Launch) (G : GG) (Z : RZ) (ad : Nat → Nat) (ws0 : va_W) (hT : Ty G (SM tt) ad ws0) (a1 : Int32) (a2 : Int32) (a3 : Int32) (hJ : J ws0) : Mq l yX12_way cX12_way 4 (some .int) 8 G Z [.ref (ad 0), .int a1, .int a2, .int a3] ws0 (PI G (SM tt) ad [0, 5, 8, 10, 11, 12] ws0 (fun r u => ((-3) ≤ r.toInt) ∧ (r.toInt ≤ 60))) := by
  refine Mq.start (by decide) (Nat.le_of_ble_eq_true rfl) ?_
  intro p e s m below meth c A ls C0 hZ h hl
  have hl : lv_has ls 4 [(0, .ref (ad 0)), (1, .int a1), (2, .int a2), (3, .int a3)] := hl
  have h : Wt G (SM tt) ad A s s.heap [] ws0 := ⟨h, hT⟩
  obtain ⟨args, hargs⟩ : ∃ z, z = ([.ref (ad 0), .int a1, .int a2, .int a3] : List Value).toArray := ⟨_, rfl⟩
  rw [← hargs] at C0 ⊢
  have C0 : Cx p s m args meth c RX12 cX12_way 4 (some .int) := C0
  obtain ⟨Q, hQ⟩ : ∃ z, z = MQ below ((PI G (SM tt) ad [0, 5, 8, 10, 11, 12] ws0 (fun r u => ((-3) ≤ r.toInt) ∧ (r.toInt ≤ 60))) A) args s 0 0 A := ⟨_, rfl⟩
  rw [← hQ]
  refine lv_aload_n C0.1 C0.2.1 dX12_way_0 rfl (lv_at hl 0 rfl) ?_
  refine y_c1 (n := 0) C0 (by decide) dX12_way_1 (fun v_1 e_2 => ?_)
  refine np_X12_thrown C0 h kSM_0 q_1438 (le_min v_1) (le_max v_1) dX12_way_2 (fun H locs ws_3 h u_4 => ?_)
  refine lv_aload_n C0.1 C0.2.1 dX12_way_5 rfl (lv_at hl 0 rfl) ?_
  refine lv_iload_n C0.1 C0.2.1 dX12_way_6 rfl (lv_at hl 1 rfl) ?_
  refine lv_iload_n C0.1 C0.2.1 dX12_way_7 rfl (lv_at hl 2 rfl) ?_
  refine y_ci h (y_rV (As := [.int a1, .int a2]) (rest := []) C0 hZ h (c_X12_areThere l G Z ad _ h.2 a1 a2 (J.pa hT hJ (Pa.ud u_4.1 (by decide)))) k_X12_areThere q_1868 q_99 q_1866 kSM_0 rfl rfl rfl hl.1 rfl rfl (Nat.le_of_ble_eq_true rfl) dX12_way_8 ⟨Nat.le_of_ble_eq_true rfl, Nat.le_of_ble_eq_true rfl⟩ ⟨Nat.le_of_ble_eq_true rfl, Nat.le_of_ble_eq_true rfl⟩) (fun r_8 H locs ws_5 h u_6 p_7 => ?_)
  obtain ⟨e_9, e_10, e_11, e_12⟩ := p_7
  refine y_if_ne (tgt := 17) C0 dX12_way_11 (by decide) (fun c_13 => ?_) (fun c_13 => ?_)
  · -- 11
    refine lv_iload_n C0.1 C0.2.1 dX12_way_17 rfl (lv_at hl 3 rfl) ?_
    refine y_i2l C0 dX12_way_18 (fun w_14 e_15 => ?_)
    refine y_lc (v := 0) C0 (by decide) dX12_way_19 (fun w_16 e_17 => ?_)
    refine y_lc2 (n := 120) C0 q_1870 (by decide) dX12_way_20 (fun w_18 e_19 => ?_)
    refine y_ci h (y_rS (As := [.long w_14, .long w_16, .long w_18]) (rest := []) C0 hZ h (c_X12_within l G Z ad _ h.2 w_14 w_16 w_18) k_X12_within q_1580 q_1579 hl.1 rfl rfl (Nat.le_of_ble_eq_true rfl) dX12_way_23 ⟨Nat.le_of_ble_eq_true rfl, Nat.le_of_ble_eq_true rfl⟩ ⟨Nat.le_of_ble_eq_true rfl, Nat.le_of_ble_eq_true rfl⟩) (fun r_23 H locs ws_20 h u_21 p_22 => ?_)
    obtain ⟨e_24, e_25, e_26⟩ := p_22
    refine y_if_eq (tgt := 39) C0 dX12_way_26 (by decide) (fun c_27 => ?_) (fun c_27 => ?_)
    · -- 26
      refine y_c2 (n := (-3)) C0 (by decide) dX12_way_39 (fun v_28 e_29 => ?_)
      rw [hQ]
      exact y_iret C0 h (Fr.tr (Fr.tr (Fr.up u_4.1 kSM_0 (by decide)) (Fr.mono u_6 (by decide))) (Fr.mono u_21 (by decide))) ⟨(o36_341 e_29), (o36_342 e_29)⟩ dX12_way_41
    · -- 26
      refine lv_aload_n C0.1 C0.2.1 dX12_way_29 rfl (lv_at hl 0 rfl) ?_
      refine lv_iload_n C0.1 C0.2.1 dX12_way_30 rfl (lv_at hl 1 rfl) ?_
      refine lv_iload_n C0.1 C0.2.1 dX12_way_31 rfl (lv_at hl 2 rfl) ?_
      refine lv_iload_n C0.1 C0.2.1 dX12_way_32 rfl (lv_at hl 3 rfl) ?_
      refine y_ci h (y_rV (As := [.int a1, .int a2, .int a3]) (rest := []) C0 hZ h (c_X12_wayOf l G Z ad _ h.2 a1 a2 a3 (o36_343 e_9 e_10 e_11 c_13) (o36_344 e_9 e_10 e_11 c_13) (o36_345 e_9 e_10 e_11 c_13) (o36_346 e_9 e_10 e_11 c_13) (J.pa hT hJ (Pa.tr (Pa.tr (Pa.ud u_4.1 (by decide)) (Pa.fr u_6 (by decide))) (Pa.fr u_21 (by decide)))) (Laid.pa (Or.resolve_left e_12 (o36_347 e_9 e_10 e_11 c_13)) (Pa.tr (Pa.fr u_6 (by decide)) (Pa.fr u_21 (by decide))))) k_X12_wayOf q_1873 q_100 q_1871 kSM_0 rfl rfl rfl hl.1 rfl rfl (Nat.le_of_ble_eq_true rfl) dX12_way_33 ⟨Nat.le_of_ble_eq_true rfl, Nat.le_of_ble_eq_true rfl⟩ ⟨Nat.le_of_ble_eq_true rfl, Nat.le_of_ble_eq_true rfl⟩) (fun r_33 H locs ws_30 h u_31 p_32 => ?_)
      obtain ⟨e_34, e_35⟩ := p_32
      refine lv_goto (tgt := 41) C0.1 C0.2.1 dX12_way_36 (by decide) ?_
      rw [hQ]
      exact y_iret C0 h (Fr.tr (Fr.tr (Fr.tr (Fr.up u_4.1 kSM_0 (by decide)) (Fr.mono u_6 (by decide))) (Fr.mono u_21 (by decide))) u_31) ⟨(o36_348 e_34 e_35), (o36_340 e_34 e_35)⟩ dX12_way_41
  · -- 11
    refine y_c2 (n := (-2)) C0 (by decide) dX12_way_14 (fun v_36 e_37 => ?_)
    rw [hQ]
    exact y_iret C0 h (Fr.tr (Fr.up u_4.1 kSM_0 (by decide)) (Fr.mono u_6 (by decide))) ⟨(o36_349 e_37), (o36_350 e_37)⟩ dX12_way_16
set_option maxHeartbeats 4000000 in
set_option maxRecDepth 100000 in
theorem c_X12_laysTurns (l : Launch) (G : GG) (Z : RZ) (ad : Nat → Nat) (ws0 : va_W) (hT : Ty G (SM tt) ad ws0) (a1 : Int32) (a2 : Int32) (a3 : Int32) (a4 : Int32) (a5 : Int32) (l1 : 0 ≤ a1.toInt) (u1 : a1.toInt ≤ 24) (l2 : 0 ≤ a2.toInt) (u2 : a2.toInt ≤ 3) (l4 : 0 ≤ a4.toInt) (u4 : a4.toInt ≤ 60) (hLd : Laid ws0) : Mq l yX12_laysTurns cX12_laysTurns 13 none 7 G Z [.ref (ad 0), .int a1, .int a2, .int a3, .int a4, .int a5] ws0 (PV G (SM tt) ad [0, 9, 13] ws0 (fun u => True)) := by
  refine Mq.start (by decide) (Nat.le_of_ble_eq_true rfl) ?_
  intro p e s m below meth c A ls C0 hZ h hl
  have hl : lv_has ls 13 [(0, .ref (ad 0)), (1, .int a1), (2, .int a2), (3, .int a3), (4, .int a4), (5, .int a5)] := hl
  have h : Wt G (SM tt) ad A s s.heap [] ws0 := ⟨h, hT⟩
  obtain ⟨args, hargs⟩ : ∃ z, z = ([.ref (ad 0), .int a1, .int a2, .int a3, .int a4, .int a5] : List Value).toArray := ⟨_, rfl⟩
  rw [← hargs] at C0 ⊢
  have C0 : Cx p s m args meth c RX12 cX12_laysTurns 13 none := C0
  obtain ⟨Q, hQ⟩ : ∃ z, z = MQ below ((PV G (SM tt) ad [0, 9, 13] ws0 (fun u => True)) A) args s 0 0 A := ⟨_, rfl⟩
  rw [← hQ]
  refine lv_aload_n C0.1 C0.2.1 dX12_laysTurns_0 rfl (lv_at hl 0 rfl) ?_
  refine lv_iload_n C0.1 C0.2.1 dX12_laysTurns_1 rfl (lv_at hl 3 rfl) ?_
  refine lv_iload C0.1 C0.2.1 dX12_laysTurns_2 (lv_at hl 4 rfl) ?_
  refine y_cv h (y_rV (As := [.int a3, .int a4]) (rest := []) C0 hZ h (c_X12_laysStill l G Z ad _ h.2 a3 a4 (o36_306 l4 u4) (o36_307 l4 u4) (Laid.pa hLd Pa.rf)) k_X12_laysStill q_1914 q_109 q_1912 kSM_0 rfl rfl rfl hl.1 rfl rfl (Nat.le_of_ble_eq_true rfl) dX12_laysTurns_4 ⟨Nat.le_of_ble_eq_true rfl, Nat.le_of_ble_eq_true rfl⟩ ⟨Nat.le_of_ble_eq_true rfl, Nat.le_of_ble_eq_true rfl⟩) (fun H locs ws_1 h u_2 p_3 => ?_)
  refine y_c1 (n := 4) C0 (by decide) dX12_laysTurns_7 (fun v_4 e_5 => ?_)
  refine lv_iload_n C0.1 C0.2.1 dX12_laysTurns_8 rfl (lv_at hl 1 rfl) ?_
  refine y_cmul (n := 4) C0 (o36_28 e_5) (o36_81 l1 u1 (le_min a1) (le_max a1)) (o36_82 l1 u1 (le_min a1) (le_max a1)) dX12_laysTurns_9 (fun v_6 e_7 => ?_)
  refine lv_iload_n C0.1 C0.2.1 dX12_laysTurns_10 rfl (lv_at hl 2 rfl) ?_
  refine y_add C0 (o36_122 l1 u1 l2 u2 e_7 (le_min v_6) (le_max v_6) (le_min a2) (le_max a2) (le_min a1) (le_max a1)) (o36_123 l1 u1 l2 u2 e_7 (le_min v_6) (le_max v_6) (le_min a2) (le_max a2) (le_min a1) (le_max a1)) dX12_laysTurns_11 (fun v_8 e_9 => ?_)
  refine lv_istore (lv' := [(6, .int v_8), (0, .ref (ad 0)), (1, .int a1), (2, .int a2), (3, .int a3), (4, .int a4), (5, .int a5)]) C0.1 C0.2.1 dX12_laysTurns_12 hl (by decide) rfl (fun ls hl => ?_)
  refine lv_iload C0.1 C0.2.1 dX12_laysTurns_14 (lv_at hl 6 rfl) ?_
  refine lv_istore (lv' := [(7, .int a5), (6, .int v_8), (0, .ref (ad 0)), (1, .int a1), (2, .int a2), (3, .int a3), (4, .int a4), (5, .int a5)]) C0.1 C0.2.1 dX12_laysTurns_16 hl (by decide) rfl (fun ls hl => ?_)
  refine y_c1 (n := 0) C0 (by decide) dX12_laysTurns_18 (fun v_10 e_11 => ?_)
  refine lv_istore (lv' := [(8, .int v_10), (7, .int a5), (6, .int v_8), (0, .ref (ad 0)), (1, .int a1), (2, .int a2), (3, .int a3), (4, .int a4), (5, .int a5)]) C0.1 C0.2.1 dX12_laysTurns_19 hl (by decide) rfl (fun ls hl => ?_)
  have lp_17 : ∀ (n_19 : Nat) (x8_12 : Int32) (x7_13 : Int32) (x6_14 : Int32) (H : Heap) (locs : List Loc) (ls : Array Slot) (ws_15 : va_W), 60 - x8_12.toInt < (n_19 : Int) → 0 ≤ x8_12.toInt → x8_12.toInt ≤ 60 → 0 ≤ x6_14.toInt → x6_14.toInt ≤ 99 → Wt G (SM tt) ad A s H locs ws_15 → Fr (SM tt) [13] ws_1 ws_15 → lv_has ls 13 [(8, .int x8_12), (7, .int x7_13), (6, .int x6_14), (0, .ref (ad 0)), (1, .int a1), (2, .int a2), (3, .int a3), (4, .int a4), (5, .int a5)] → W p l e (rmd 7 0 0) s m args below meth c H locs 0 0 Q (F0 m 21 ls []) := by
    intro n_19
    induction n_19 with
    | zero => intro x8_12 x7_13 x6_14 H locs ls ws_15 hn_20 b_21 b_22 b_23 b_24 h hF_16 hl; exact ((o36_126 b_21 b_22 hn_20)).elim
    | succ n_19 ih_18 =>
      intro x8_12 x7_13 x6_14 H locs ls ws_15 hn_20 b_21 b_22 b_23 b_24 h hF_16 hl
      refine lv_iload C0.1 C0.2.1 dX12_laysTurns_21 (lv_at hl 0 rfl) ?_
      refine lv_iload C0.1 C0.2.1 dX12_laysTurns_23 (lv_at hl 7 rfl) ?_
      refine y_icmp_ge (tgt := 156) C0 dX12_laysTurns_25 (by decide) (fun c_25 => ?_) (fun c_25 => ?_)
      · -- 25
        refine lv_aload_n C0.1 C0.2.1 dX12_laysTurns_156 rfl (lv_at hl 3 rfl) ?_
        refine lv_iload C0.1 C0.2.1 dX12_laysTurns_157 (lv_at hl 2 rfl) ?_
        refine np_X12_endsAt C0 h kSM_0 q_1466 (o36_205 b_23 b_24) (o36_351 b_23 b_24) dX12_laysTurns_159 (fun H locs ws_26 h u_27 => ?_)
        rw [hQ]
        exact y_vret C0 h (Fr.tr (Fr.tr (Fr.mono u_2 (by decide)) (Fr.mono hF_16 (by decide))) (Fr.up u_27.1 kSM_0 (by decide))) trivial dX12_laysTurns_162
      · -- 25
        refine y_c1 (n := 0) C0 (by decide) dX12_laysTurns_28 (fun v_28 e_29 => ?_)
        refine lv_istore (lv' := [(9, .int v_28), (8, .int x8_12), (7, .int x7_13), (6, .int x6_14), (0, .ref (ad 0)), (1, .int a1), (2, .int a2), (3, .int a3), (4, .int a4), (5, .int a5)]) C0.1 C0.2.1 dX12_laysTurns_29 hl (by decide) rfl (fun ls hl => ?_)
        have lp_33 : ∀ (n_35 : Nat) (x9_30 : Int32) (H : Heap) (locs : List Loc) (ls : Array Slot) (ws_31 : va_W), 4 - x9_30.toInt < (n_35 : Int) → 0 ≤ x9_30.toInt → x9_30.toInt ≤ 4 → Wt G (SM tt) ad A s H locs ws_31 → Fr (SM tt) [] ws_15 ws_31 → lv_has ls 13 [(9, .int x9_30), (8, .int x8_12), (7, .int x7_13), (6, .int x6_14), (0, .ref (ad 0)), (1, .int a1), (2, .int a2), (3, .int a3), (4, .int a4), (5, .int a5)] → W p l e (rmd 7 0 0) s m args below meth c H locs 0 0 Q (F0 m 31 ls []) := by
          intro n_35
          induction n_35 with
          | zero => intro x9_30 H locs ls ws_31 hn_36 b_37 b_38 h hF_32 hl; exact ((o36_19 b_37 b_38 hn_36)).elim
          | succ n_35 ih_34 =>
            intro x9_30 H locs ls ws_31 hn_36 b_37 b_38 h hF_32 hl
            refine lv_iload C0.1 C0.2.1 dX12_laysTurns_31 (lv_at hl 0 rfl) ?_
            refine y_c1 (n := 4) C0 (by decide) dX12_laysTurns_33 (fun v_39 e_40 => ?_)
            refine y_icmp_ge (tgt := 150) C0 dX12_laysTurns_34 (by decide) (fun c_41 => ?_) (fun c_41 => ?_)
            · -- 34
              refine y_inc (kp := 1) (n := 1) (fun v_42 => [(8, .int v_42), (9, .int x9_30), (7, .int x7_13), (6, .int x6_14), (0, .ref (ad 0)), (1, .int a1), (2, .int a2), (3, .int a3), (4, .int a4), (5, .int a5)]) C0 hl rfl (by decide) (by decide) (fun _ => rfl) (o36_352 l4 u4 b_21 b_22 hn_20 c_25 (le_min x8_12) (le_max x8_12) (le_min a4) (le_max a4)) (o36_353 l4 u4 b_21 b_22 hn_20 c_25 (le_min x8_12) (le_max x8_12) (le_min a4) (le_max a4)) dX12_laysTurns_150 (fun v_42 ls e_43 hl => ?_)
              refine lv_goto (tgt := 21) C0.1 C0.2.1 dX12_laysTurns_153 (by decide) ?_
              exact ih_18 v_42 x7_13 x6_14 _ _ _ _ (o36_354 l4 u4 b_21 b_22 hn_20 c_25 e_43) (o36_355 l4 u4 b_21 b_22 hn_20 c_25 e_43) (o36_356 l4 u4 b_21 b_22 hn_20 c_25 e_43) (o36_205 b_23 b_24) (o36_351 b_23 b_24) h (Fr.tr hF_16 (Fr.mono hF_32 (by decide))) (lv_sub hl [0, 2, 3, 4, 5, 6, 7, 8, 9] rfl)
            · -- 34
              refine lv_aload_n C0.1 C0.2.1 dX12_laysTurns_37 rfl (lv_at hl 4 rfl) ?_
              refine lv_iload C0.1 C0.2.1 dX12_laysTurns_38 (lv_at hl 1 rfl) ?_
              refine lv_iload C0.1 C0.2.1 dX12_laysTurns_40 (lv_at hl 3 rfl) ?_
              refine y_c1 (n := 4) C0 (by decide) dX12_laysTurns_42 (fun v_44 e_45 => ?_)
              refine y_divc (n := 4) C0 (o36_28 e_45) (by decide) (o36_205 b_23 b_24) dX12_laysTurns_43 (fun v_46 e_47 => ?_)
              refine lv_iload C0.1 C0.2.1 dX12_laysTurns_44 (lv_at hl 3 rfl) ?_
              refine y_c1 (n := 4) C0 (by decide) dX12_laysTurns_46 (fun v_48 e_49 => ?_)
              refine y_remc (n := 4) C0 (o36_28 e_49) (by decide) (o36_206 b_23 b_24 e_47) dX12_laysTurns_47 (fun v_50 e_51 => ?_)
              refine lv_iload C0.1 C0.2.1 dX12_laysTurns_48 (lv_at hl 0 rfl) ?_
              refine y_c1 (n := 0) C0 (by decide) dX12_laysTurns_50 (fun v_52 e_53 => ?_)
              refine y_ci h (y_rV (As := [.int x8_12, .int v_46, .int v_50, .int x9_30, .int v_52]) (rest := []) C0 hZ h (c_X12_costOf_0 l G Z ad _ h.2 x8_12 v_46 v_50 x9_30 v_52 (o36_357 l4 u4 b_21 b_22 hn_20 c_25) (o36_358 l4 u4 b_21 b_22 hn_20 c_25) (o36_209 b_23 b_24 e_47 e_51) (o36_210 b_23 b_24 e_47 e_51) (o36_211 b_23 b_24 e_47 e_51) (o36_212 b_23 b_24 e_47 e_51) (o36_154 b_37 b_38 hn_36 e_40 c_41) (o36_155 b_37 b_38 hn_36 e_40 c_41) (o36_61 e_53) (o36_213 e_53) (Laid.pa hLd (Pa.tr (Pa.tr (Pa.fr u_2 (by decide)) (Pa.fr hF_16 (by decide))) (Pa.fr hF_32 (by decide))))) k_X12_costOf q_1890 q_104 q_1888 kSM_0 rfl rfl rfl hl.1 rfl rfl (Nat.le_of_ble_eq_true rfl) dX12_laysTurns_51 ⟨Nat.le_of_ble_eq_true rfl, Nat.le_of_ble_eq_true rfl⟩ ⟨Nat.le_of_ble_eq_true rfl, Nat.le_of_ble_eq_true rfl⟩) (fun r_57 H locs ws_54 h u_55 p_56 => ?_)
              obtain ⟨e_58, e_59, e_60, e_61⟩ := p_56
              refine lv_istore (lv' := [(10, .int r_57), (9, .int x9_30), (8, .int x8_12), (7, .int x7_13), (6, .int x6_14), (0, .ref (ad 0)), (1, .int a1), (2, .int a2), (3, .int a3), (4, .int a4), (5, .int a5)]) C0.1 C0.2.1 dX12_laysTurns_54 hl (by decide) rfl (fun ls hl => ?_)
              refine lv_iload C0.1 C0.2.1 dX12_laysTurns_56 (lv_at hl 0 rfl) ?_
              refine y_c5 (n := 1000000000) C0 q_1887 (by decide) dX12_laysTurns_58 (fun v_62 e_63 => ?_)
              refine y_icmp_ne (tgt := 67) C0 dX12_laysTurns_61 (by decide) (fun c_64 => ?_) (fun c_64 => ?_)
              · -- 61
                refine lv_iload C0.1 C0.2.1 dX12_laysTurns_67 (lv_at hl 4 rfl) ?_
                refine y_c1 (n := 4) C0 (by decide) dX12_laysTurns_69 (fun v_65 e_66 => ?_)
                refine y_remc (n := 4) C0 (o36_28 e_66) (by decide) (o36_218 b_23 b_24 e_47 e_51) dX12_laysTurns_70 (fun v_67 e_68 => ?_)
                refine lv_iload C0.1 C0.2.1 dX12_laysTurns_71 (lv_at hl 1 rfl) ?_
                refine y_ci h (y_rS (As := [.int v_67, .int x9_30]) (rest := []) C0 hZ h (c_X12_directionBy l G Z ad _ h.2 v_67 x9_30 (o36_359 b_23 b_24 e_47 e_51 e_68) (o36_360 b_23 b_24 e_47 e_51 e_68) (o36_154 b_37 b_38 hn_36 e_40 c_41) (o36_155 b_37 b_38 hn_36 e_40 c_41)) k_X12_directionBy q_1761 q_1760 hl.1 rfl rfl (Nat.le_of_ble_eq_true rfl) dX12_laysTurns_73 ⟨Nat.le_of_ble_eq_true rfl, Nat.le_of_ble_eq_true rfl⟩ ⟨Nat.le_of_ble_eq_true rfl, Nat.le_of_ble_eq_true rfl⟩) (fun r_72 H locs ws_69 h u_70 p_71 => ?_)
                obtain ⟨e_73, e_74, e_75⟩ := p_71
                refine lv_istore (lv' := [(11, .int r_72), (10, .int r_57), (9, .int x9_30), (8, .int x8_12), (7, .int x7_13), (6, .int x6_14), (0, .ref (ad 0)), (1, .int a1), (2, .int a2), (3, .int a3), (4, .int a4), (5, .int a5)]) C0.1 C0.2.1 dX12_laysTurns_76 hl (by decide) rfl (fun ls hl => ?_)
                refine y_c1 (n := 4) C0 (by decide) dX12_laysTurns_78 (fun v_76 e_77 => ?_)
                refine lv_aload_n C0.1 C0.2.1 dX12_laysTurns_79 rfl (lv_at hl 6 rfl) ?_
                refine lv_iload C0.1 C0.2.1 dX12_laysTurns_80 (lv_at hl 5 rfl) ?_
                refine y_c1 (n := 4) C0 (by decide) dX12_laysTurns_82 (fun v_78 e_79 => ?_)
                refine y_divc (n := 4) C0 (o36_28 e_79) (by decide) (o36_361 b_23 b_24 e_47 e_51 e_68) dX12_laysTurns_83 (fun v_80 e_81 => ?_)
                refine lv_iload C0.1 C0.2.1 dX12_laysTurns_84 (lv_at hl 0 rfl) ?_
                refine y_ci h (y_rV (As := [.int v_80, .int r_72]) (rest := [.int v_76]) C0 hZ h (c_X12_streetFrom l G Z ad _ h.2 v_80 r_72 (o36_362 b_23 b_24 e_47 e_51 e_68 e_81) (o36_363 b_23 b_24 e_47 e_51 e_68 e_81) (o36_67 e_73 e_74) (o36_68 e_73 e_74) (Laid.pa hLd (Pa.tr (Pa.tr (Pa.tr (Pa.tr (Pa.fr u_2 (by decide)) (Pa.fr hF_16 (by decide))) (Pa.fr hF_32 (by decide))) (Pa.fr u_55 (by decide))) (Pa.fr u_70 (by decide))))) k_X12_streetFrom q_1713 q_80 q_1711 kSM_0 rfl rfl rfl hl.1 rfl rfl (Nat.le_of_ble_eq_true rfl) dX12_laysTurns_86 ⟨Nat.le_of_ble_eq_true rfl, Nat.le_of_ble_eq_true rfl⟩ ⟨Nat.le_of_ble_eq_true rfl, Nat.le_of_ble_eq_true rfl⟩) (fun r_85 H locs ws_82 h u_83 p_84 => ?_)
                obtain ⟨e_86, e_87, e_88⟩ := p_84
                have g_89 := sf_ge (Pw.tr (Pw.fr u_55 (by decide)) (Pw.fr u_70 (by decide))) e_61 (o36_224 e_58 e_59 e_60 e_63 c_64) e_88 (o36_364 b_23 b_24 e_47 e_51 e_68 e_81) (o36_365 b_23 b_24 e_47 e_51 e_68 e_81) e_75 (o36_366 b_23 b_24 e_47 e_51 e_68 e_81) (o36_170 b_37 b_38 hn_36 e_40 c_41)
                refine y_cmul (n := 4) C0 (o36_28 e_77) (o36_171 e_86 e_87 g_89 (le_min r_85) (le_max r_85)) (o36_172 e_86 e_87 g_89 (le_min r_85) (le_max r_85)) dX12_laysTurns_89 (fun v_90 e_91 => ?_)
                refine lv_iload C0.1 C0.2.1 dX12_laysTurns_90 (lv_at hl 0 rfl) ?_
                refine y_add C0 (o36_367 e_73 e_74 e_86 e_87 g_89 e_91 (le_min v_90) (le_max v_90) (le_min r_72) (le_max r_72) (le_min r_85) (le_max r_85)) (o36_368 e_73 e_74 e_86 e_87 g_89 e_91 (le_min v_90) (le_max v_90) (le_min r_72) (le_max r_72) (le_min r_85) (le_max r_85)) dX12_laysTurns_92 (fun v_92 e_93 => ?_)
                refine lv_istore (lv' := [(12, .int v_92), (11, .int r_72), (10, .int r_57), (9, .int x9_30), (8, .int x8_12), (7, .int x7_13), (6, .int x6_14), (0, .ref (ad 0)), (1, .int a1), (2, .int a2), (3, .int a3), (4, .int a4), (5, .int a5)]) C0.1 C0.2.1 dX12_laysTurns_93 hl (by decide) rfl (fun ls hl => ?_)
                refine lv_iload C0.1 C0.2.1 dX12_laysTurns_95 (lv_at hl 2 rfl) ?_
                refine lv_aload_n C0.1 C0.2.1 dX12_laysTurns_97 rfl (lv_at hl 7 rfl) ?_
                refine ng_X12_still C0 h kSM_0 q_1460 dX12_laysTurns_98 ?_
                refine y_c2 (n := 100) C0 (by decide) dX12_laysTurns_101 (fun v_94 e_95 => ?_)
                refine lv_iload C0.1 C0.2.1 dX12_laysTurns_103 (lv_at hl 4 rfl) ?_
                refine y_c1 (n := 1) C0 (by decide) dX12_laysTurns_105 (fun v_96 e_97 => ?_)
                refine y_add C0 (o36_369 l4 u4 b_21 b_22 hn_20 c_25 e_97 (le_min x8_12) (le_max x8_12) (le_min v_96) (le_max v_96) (le_min a4) (le_max a4)) (o36_370 l4 u4 b_21 b_22 hn_20 c_25 e_97 (le_min x8_12) (le_max x8_12) (le_min v_96) (le_max v_96) (le_min a4) (le_max a4)) dX12_laysTurns_106 (fun v_98 e_99 => ?_)
                refine y_cmul (n := 100) C0 (o36_25 e_95) (o36_371 l4 u4 b_21 b_22 hn_20 c_25 e_97 e_99 (le_min v_98) (le_max v_98) (le_min a4) (le_max a4) (le_min x8_12) (le_max x8_12) (le_min v_96) (le_max v_96)) (o36_372 l4 u4 b_21 b_22 hn_20 c_25 e_97 e_99 (le_min v_98) (le_max v_98) (le_min a4) (le_max a4) (le_min x8_12) (le_max x8_12) (le_min v_96) (le_max v_96)) dX12_laysTurns_107 (fun v_100 e_101 => ?_)
                refine lv_iload C0.1 C0.2.1 dX12_laysTurns_108 (lv_at hl 0 rfl) ?_
                refine y_add C0 (o36_373 l4 u4 b_21 b_22 hn_20 c_25 e_73 e_74 e_86 e_87 g_89 e_91 e_93 e_97 e_99 e_101 (le_min v_100) (le_max v_100) (le_min v_92) (le_max v_92) (le_min a4) (le_max a4) (le_min x8_12) (le_max x8_12) (le_min r_72) (le_max r_72) (le_min r_85) (le_max r_85) (le_min v_90) (le_max v_90) (le_min v_96) (le_max v_96) (le_min v_98) (le_max v_98)) (o36_374 l4 u4 b_21 b_22 hn_20 c_25 e_73 e_74 e_86 e_87 g_89 e_91 e_93 e_97 e_99 e_101 (le_min v_100) (le_max v_100) (le_min v_92) (le_max v_92) (le_min a4) (le_max a4) (le_min x8_12) (le_max x8_12) (le_min r_72) (le_max r_72) (le_min r_85) (le_max r_85) (le_min v_90) (le_max v_90) (le_min v_96) (le_max v_96) (le_min v_98) (le_max v_98)) dX12_laysTurns_110 (fun v_102 e_103 => ?_)
                refine y_iald C0 h kSM_9 rfl (by decide) (o36_375 l4 u4 b_21 b_22 hn_20 c_25 e_73 e_74 e_86 e_87 g_89 e_91 e_93 e_97 e_99 e_101 e_103) (o36_376 l4 u4 b_21 b_22 hn_20 c_25 e_73 e_74 e_86 e_87 g_89 e_91 e_93 e_97 e_99 e_101 e_103) dX12_laysTurns_111 (fun v_104 e_105 e_106 e_107 => ?_)
                refine y_iaddU C0 dX12_laysTurns_112 (fun v_108 => ?_)
                refine lv_iload C0.1 C0.2.1 dX12_laysTurns_113 (lv_at hl 5 rfl) ?_
                refine y_icmp_le (tgt := 121) C0 dX12_laysTurns_115 (by decide) (fun c_109 => ?_) (fun c_109 => ?_)
                · -- 115
                  refine lv_aload_n C0.1 C0.2.1 dX12_laysTurns_121 rfl (lv_at hl 7 rfl) ?_
                  refine ng_X12_turns C0 h kSM_0 q_1465 dX12_laysTurns_122 ?_
                  refine lv_iload C0.1 C0.2.1 dX12_laysTurns_125 (lv_at hl 4 rfl) ?_
                  refine lv_iload C0.1 C0.2.1 dX12_laysTurns_127 (lv_at hl 3 rfl) ?_
                  refine y_iast C0 h kSM_13 rfl (by decide) (o36_377 l4 u4 b_21 b_22 hn_20 c_25 e_73 e_74 e_86 e_87 g_89 e_91 e_93 e_97 e_99 e_101 e_103) (o36_378 l4 u4 b_21 b_22 hn_20 c_25 e_73 e_74 e_86 e_87 g_89 e_91 e_93 e_97 e_99 e_101 e_103) (o36_154 b_37 b_38 hn_36 e_40 c_41) (o36_155 b_37 b_38 hn_36 e_40 c_41) dX12_laysTurns_129 (fun H locs ws_110 h u_111 => ?_)
                  refine lv_iload C0.1 C0.2.1 dX12_laysTurns_130 (lv_at hl 5 rfl) ?_
                  refine lv_iload C0.1 C0.2.1 dX12_laysTurns_132 (lv_at hl 2 rfl) ?_
                  refine y_isubU C0 dX12_laysTurns_134 (fun v_112 => ?_)
                  refine lv_istore (lv' := [(7, .int v_112), (12, .int v_92), (11, .int r_72), (10, .int r_57), (9, .int x9_30), (8, .int x8_12), (6, .int x6_14), (0, .ref (ad 0)), (1, .int a1), (2, .int a2), (3, .int a3), (4, .int a4), (5, .int a5)]) C0.1 C0.2.1 dX12_laysTurns_135 hl (by decide) rfl (fun ls hl => ?_)
                  refine lv_iload C0.1 C0.2.1 dX12_laysTurns_137 (lv_at hl 1 rfl) ?_
                  refine lv_istore (lv' := [(6, .int v_92), (7, .int v_112), (12, .int v_92), (11, .int r_72), (10, .int r_57), (9, .int x9_30), (8, .int x8_12), (0, .ref (ad 0)), (1, .int a1), (2, .int a2), (3, .int a3), (4, .int a4), (5, .int a5)]) C0.1 C0.2.1 dX12_laysTurns_139 hl (by decide) rfl (fun ls hl => ?_)
                  refine lv_goto (tgt := 150) C0.1 C0.2.1 dX12_laysTurns_141 (by decide) ?_
                  refine y_inc (kp := 6) (n := 1) (fun v_113 => [(8, .int v_113), (6, .int v_92), (7, .int v_112), (12, .int v_92), (11, .int r_72), (10, .int r_57), (9, .int x9_30), (0, .ref (ad 0)), (1, .int a1), (2, .int a2), (3, .int a3), (4, .int a4), (5, .int a5)]) C0 hl rfl (by decide) (by decide) (fun _ => rfl) (o36_379 l4 u4 b_21 b_22 hn_20 c_25 e_73 e_74 e_86 e_87 g_89 e_91 e_93 e_97 e_99 e_101 e_103 (le_min x8_12) (le_max x8_12) (le_min a4) (le_max a4) (le_min r_72) (le_max r_72) (le_min r_85) (le_max r_85) (le_min v_90) (le_max v_90) (le_min v_92) (le_max v_92) (le_min v_96) (le_max v_96) (le_min v_98) (le_max v_98) (le_min v_100) (le_max v_100) (le_min v_102) (le_max v_102)) (o36_380 l4 u4 b_21 b_22 hn_20 c_25 e_73 e_74 e_86 e_87 g_89 e_91 e_93 e_97 e_99 e_101 e_103 (le_min x8_12) (le_max x8_12) (le_min a4) (le_max a4) (le_min r_72) (le_max r_72) (le_min r_85) (le_max r_85) (le_min v_90) (le_max v_90) (le_min v_92) (le_max v_92) (le_min v_96) (le_max v_96) (le_min v_98) (le_max v_98) (le_min v_100) (le_max v_100) (le_min v_102) (le_max v_102)) dX12_laysTurns_150 (fun v_113 ls e_114 hl => ?_)
                  refine lv_goto (tgt := 21) C0.1 C0.2.1 dX12_laysTurns_153 (by decide) ?_
                  exact ih_18 v_113 v_112 v_92 _ _ _ _ (o36_381 l4 u4 b_21 b_22 hn_20 c_25 e_73 e_74 e_86 e_87 g_89 e_91 e_93 e_97 e_99 e_101 e_103 e_114) (o36_382 l4 u4 b_21 b_22 hn_20 c_25 e_73 e_74 e_86 e_87 g_89 e_91 e_93 e_97 e_99 e_101 e_103 e_114) (o36_383 l4 u4 b_21 b_22 hn_20 c_25 e_73 e_74 e_86 e_87 g_89 e_91 e_93 e_97 e_99 e_101 e_103 e_114) (o36_384 l4 u4 b_21 b_22 hn_20 c_25 e_73 e_74 e_86 e_87 g_89 e_91 e_93 e_97 e_99 e_101 e_103 e_114) (o36_385 l4 u4 b_21 b_22 hn_20 c_25 e_73 e_74 e_86 e_87 g_89 e_91 e_93 e_97 e_99 e_101 e_103 e_114) h (Fr.tr (Fr.tr (Fr.tr (Fr.tr (Fr.tr hF_16 (Fr.mono hF_32 (by decide))) (Fr.mono u_55 (by decide))) (Fr.mono u_70 (by decide))) (Fr.mono u_83 (by decide))) (Fr.up u_111.1 kSM_13 (by decide))) (lv_sub hl [0, 2, 1, 7, 8, 9, 10, 11, 12] rfl)
                · -- 115
                  refine lv_goto (tgt := 144) C0.1 C0.2.1 dX12_laysTurns_118 (by decide) ?_
                  refine y_inc (kp := 3) (n := 1) (fun v_115 => [(9, .int v_115), (12, .int v_92), (11, .int r_72), (10, .int r_57), (8, .int x8_12), (7, .int x7_13), (6, .int x6_14), (0, .ref (ad 0)), (1, .int a1), (2, .int a2), (3, .int a3), (4, .int a4), (5, .int a5)]) C0 hl rfl (by decide) (by decide) (fun _ => rfl) (o36_187 b_37 b_38 hn_36 e_40 c_41 (le_min x9_30) (le_max x9_30) (le_min v_39) (le_max v_39)) (o36_188 b_37 b_38 hn_36 e_40 c_41 (le_min x9_30) (le_max x9_30) (le_min v_39) (le_max v_39)) dX12_laysTurns_144 (fun v_115 ls e_116 hl => ?_)
                  refine lv_goto (tgt := 31) C0.1 C0.2.1 dX12_laysTurns_147 (by decide) ?_
                  exact ih_34 v_115 _ _ _ _ (o36_189 b_37 b_38 hn_36 e_40 c_41 e_116) (o36_190 b_37 b_38 hn_36 e_40 c_41 e_116) (o36_191 b_37 b_38 hn_36 e_40 c_41 e_116) h (Fr.tr (Fr.tr (Fr.tr hF_32 u_55) u_70) u_83) (lv_sub hl [0, 4, 5, 6, 7, 8, 9, 10, 11, 12] rfl)
              · -- 61
                refine lv_goto (tgt := 144) C0.1 C0.2.1 dX12_laysTurns_64 (by decide) ?_
                refine y_inc (kp := 1) (n := 1) (fun v_117 => [(9, .int v_117), (10, .int r_57), (8, .int x8_12), (7, .int x7_13), (6, .int x6_14), (0, .ref (ad 0)), (1, .int a1), (2, .int a2), (3, .int a3), (4, .int a4), (5, .int a5)]) C0 hl rfl (by decide) (by decide) (fun _ => rfl) (o36_187 b_37 b_38 hn_36 e_40 c_41 (le_min x9_30) (le_max x9_30) (le_min v_39) (le_max v_39)) (o36_188 b_37 b_38 hn_36 e_40 c_41 (le_min x9_30) (le_max x9_30) (le_min v_39) (le_max v_39)) dX12_laysTurns_144 (fun v_117 ls e_118 hl => ?_)
                refine lv_goto (tgt := 31) C0.1 C0.2.1 dX12_laysTurns_147 (by decide) ?_
                exact ih_34 v_117 _ _ _ _ (o36_189 b_37 b_38 hn_36 e_40 c_41 e_118) (o36_190 b_37 b_38 hn_36 e_40 c_41 e_118) (o36_191 b_37 b_38 hn_36 e_40 c_41 e_118) h (Fr.tr hF_32 u_55) (lv_sub hl [0, 2, 3, 4, 5, 6, 7, 8, 9, 10] rfl)
        exact lp_33 ((4 - v_28.toInt + 1).toNat) v_28 _ _ _ _ (o36_60 e_29) (o36_61 e_29) (o36_62 e_29) h Fr.rf (lv_sub hl [0, 1, 2, 3, 4, 5, 6, 7, 8, 9] rfl)
  exact lp_17 ((60 - v_10.toInt + 1).toNat) v_10 a5 v_8 _ _ _ _ (o36_194 e_11) (o36_61 e_11) (o36_195 e_11) (o36_124 l1 u1 l2 u2 e_7 e_9) (o36_386 l1 u1 l2 u2 e_7 e_9) h Fr.rf (lv_sub hl [0, 1, 2, 3, 4, 5, 6, 7, 8] rfl)
set_option maxHeartbeats 4000000 in
set_option maxRecDepth 100000 in
theorem c_X12_laysWay (l : Launch) (G : GG) (Z : RZ) (ad : Nat → Nat) (ws0 : va_W) (hT : Ty G (SM tt) ad ws0) (a1 : Int32) (a2 : Int32) (a3 : Int32) (l1 : 0 ≤ a1.toInt) (u1 : a1.toInt ≤ 4) (l2 : 0 ≤ a2.toInt) (u2 : a2.toInt ≤ 24) (hJ : J ws0) (hLd : Laid ws0) : Mq l yX12_laysWay cX12_laysWay 5 (some .int) 8 G Z [.ref (ad 0), .int a1, .int a2, .int a3] ws0 (PI G (SM tt) ad [0, 5, 8, 9, 10, 11, 12, 13] ws0 (fun r u => ((-1) ≤ r.toInt) ∧ (r.toInt ≤ 60))) := by
  refine Mq.start (by decide) (Nat.le_of_ble_eq_true rfl) ?_
  intro p e s m below meth c A ls C0 hZ h hl
  have hl : lv_has ls 5 [(0, .ref (ad 0)), (1, .int a1), (2, .int a2), (3, .int a3)] := hl
  have h : Wt G (SM tt) ad A s s.heap [] ws0 := ⟨h, hT⟩
  obtain ⟨args, hargs⟩ : ∃ z, z = ([.ref (ad 0), .int a1, .int a2, .int a3] : List Value).toArray := ⟨_, rfl⟩
  rw [← hargs] at C0 ⊢
  have C0 : Cx p s m args meth c RX12 cX12_laysWay 5 (some .int) := C0
  obtain ⟨Q, hQ⟩ : ∃ z, z = MQ below ((PI G (SM tt) ad [0, 5, 8, 9, 10, 11, 12, 13] ws0 (fun r u => ((-1) ≤ r.toInt) ∧ (r.toInt ≤ 60))) A) args s 0 0 A := ⟨_, rfl⟩
  rw [← hQ]
  refine lv_aload_n C0.1 C0.2.1 dX12_laysWay_0 rfl (lv_at hl 0 rfl) ?_
  refine lv_iload_n C0.1 C0.2.1 dX12_laysWay_1 rfl (lv_at hl 1 rfl) ?_
  refine lv_iload_n C0.1 C0.2.1 dX12_laysWay_2 rfl (lv_at hl 2 rfl) ?_
  refine lv_iload_n C0.1 C0.2.1 dX12_laysWay_3 rfl (lv_at hl 3 rfl) ?_
  refine y_ci h (y_rV (As := [.int a1, .int a2, .int a3]) (rest := []) C0 hZ h (c_X12_wayOf l G Z ad _ h.2 a1 a2 a3 (o36_334 l1 u1) (o36_335 l1 u1) (o36_69 l2 u2) (o36_70 l2 u2) hJ (Laid.pa hLd Pa.rf)) k_X12_wayOf q_1873 q_100 q_1871 kSM_0 rfl rfl rfl hl.1 rfl rfl (Nat.le_of_ble_eq_true rfl) dX12_laysWay_4 ⟨Nat.le_of_ble_eq_true rfl, Nat.le_of_ble_eq_true rfl⟩ ⟨Nat.le_of_ble_eq_true rfl, Nat.le_of_ble_eq_true rfl⟩) (fun r_4 H locs ws_1 h u_2 p_3 => ?_)
  obtain ⟨e_5, e_6⟩ := p_3
  refine lv_istore (lv' := [(4, .int r_4), (0, .ref (ad 0)), (1, .int a1), (2, .int a2), (3, .int a3)]) C0.1 C0.2.1 dX12_laysWay_7 hl (by decide) rfl (fun ls hl => ?_)
  refine lv_iload C0.1 C0.2.1 dX12_laysWay_9 (lv_at hl 0 rfl) ?_
  refine y_c1 (n := (-1)) C0 (by decide) dX12_laysWay_11 (fun v_7 e_8 => ?_)
  refine y_icmp_eq (tgt := 41) C0 dX12_laysWay_12 (by decide) (fun c_9 => ?_) (fun c_9 => ?_)
  · -- 12
    refine lv_iload C0.1 C0.2.1 dX12_laysWay_41 (lv_at hl 0 rfl) ?_
    rw [hQ]
    exact y_iret C0 h (Fr.mono u_2 (by decide)) ⟨(o36_387 e_5 e_6 e_8 c_9), (o36_388 e_5 e_6 e_8 c_9)⟩ dX12_laysWay_43
  · -- 12
    refine lv_aload_n C0.1 C0.2.1 dX12_laysWay_15 rfl (lv_at hl 1 rfl) ?_
    refine lv_aload_n C0.1 C0.2.1 dX12_laysWay_16 rfl (lv_at hl 1 rfl) ?_
    refine ng_X12_all C0 h kSM_0 q_1439 dX12_laysWay_17 ?_
    refine y_c2 (n := 36) C0 (by decide) dX12_laysWay_20 (fun v_10 e_11 => ?_)
    refine lv_iload_n C0.1 C0.2.1 dX12_laysWay_22 rfl (lv_at hl 2 rfl) ?_
    refine y_add C0 (o36_308 l1 u1 e_11 (le_min v_10) (le_max v_10) (le_min a1) (le_max a1)) (o36_309 l1 u1 e_11 (le_min v_10) (le_max v_10) (le_min a1) (le_max a1)) dX12_laysWay_23 (fun v_12 e_13 => ?_)
    refine y_iald C0 h kSM_1 rfl (by decide) (o36_310 l1 u1 e_11 e_13) (o36_311 l1 u1 e_11 e_13) dX12_laysWay_24 (fun v_14 e_15 e_16 e_17 => ?_)
    have f_18 := o36_312 v_12.toInt.toNat (o36_313 l1 u1 e_11 e_13) (o36_314 l1 u1 e_11 e_13)
    refine lv_aload_n C0.1 C0.2.1 dX12_laysWay_25 rfl (lv_at hl 1 rfl) ?_
    refine ng_X12_all C0 h kSM_0 q_1439 dX12_laysWay_26 ?_
    refine y_c2 (n := 41) C0 (by decide) dX12_laysWay_29 (fun v_19 e_20 => ?_)
    refine lv_iload_n C0.1 C0.2.1 dX12_laysWay_31 rfl (lv_at hl 2 rfl) ?_
    refine y_add C0 (o36_315 l1 u1 e_11 e_13 e_20 (le_min v_19) (le_max v_19) (le_min a1) (le_max a1) (le_min v_10) (le_max v_10) (le_min v_12) (le_max v_12)) (o36_316 l1 u1 e_11 e_13 e_20 (le_min v_19) (le_max v_19) (le_min a1) (le_max a1) (le_min v_10) (le_max v_10) (le_min v_12) (le_max v_12)) dX12_laysWay_32 (fun v_21 e_22 => ?_)
    refine y_iald C0 h kSM_1 rfl (by decide) (o36_317 l1 u1 e_11 e_13 e_20 e_22) (o36_318 l1 u1 e_11 e_13 e_20 e_22) dX12_laysWay_33 (fun v_23 e_24 e_25 e_26 => ?_)
    have f_27 := o36_319 v_21.toInt.toNat (o36_320 l1 u1 e_11 e_13 e_20 e_22) (o36_321 l1 u1 e_11 e_13 e_20 e_22)
    refine lv_iload_n C0.1 C0.2.1 dX12_laysWay_34 rfl (lv_at hl 3 rfl) ?_
    refine lv_iload C0.1 C0.2.1 dX12_laysWay_35 (lv_at hl 0 rfl) ?_
    refine lv_iload_n C0.1 C0.2.1 dX12_laysWay_37 rfl (lv_at hl 4 rfl) ?_
    refine y_cv h (y_rV (As := [.int v_14, .int v_23, .int a2, .int r_4, .int a3]) (rest := []) C0 hZ h (c_X12_laysTurns l G Z ad _ h.2 v_14 v_23 a2 r_4 a3 (o36_69 (Int.le_trans f_18.1 e_16) (Int.le_trans e_17 f_18.2)) (o36_70 (Int.le_trans f_18.1 e_16) (Int.le_trans e_17 f_18.2)) (o36_67 (Int.le_trans f_27.1 e_25) (Int.le_trans e_26 f_27.2)) (o36_68 (Int.le_trans f_27.1 e_25) (Int.le_trans e_26 f_27.2)) (o36_389 e_5 e_6 e_8 c_9) (o36_390 e_5 e_6 e_8 c_9) (Laid.pa hLd (Pa.fr u_2 (by decide)))) k_X12_laysTurns q_1910 q_108 q_1908 kSM_0 rfl rfl rfl hl.1 rfl rfl (Nat.le_of_ble_eq_true rfl) dX12_laysWay_38 ⟨Nat.le_of_ble_eq_true rfl, Nat.le_of_ble_eq_true rfl⟩ ⟨Nat.le_of_ble_eq_true rfl, Nat.le_of_ble_eq_true rfl⟩) (fun H locs ws_28 h u_29 p_30 => ?_)
    refine lv_iload C0.1 C0.2.1 dX12_laysWay_41 (lv_at hl 0 rfl) ?_
    rw [hQ]
    exact y_iret C0 h (Fr.tr (Fr.mono u_2 (by decide)) (Fr.mono u_29 (by decide))) ⟨(o36_391 e_5 e_6 e_8 c_9), (o36_390 e_5 e_6 e_8 c_9)⟩ dX12_laysWay_43
set_option maxHeartbeats 4000000 in
set_option maxRecDepth 100000 in
theorem c_X12_turn (l : Launch) (G : GG) (Z : RZ) (ad : Nat → Nat) (ws0 : va_W) (hT : Ty G (SM tt) ad ws0) (a1 : Int32) (a2 : Int32) (a3 : Int32) (a4 : Int32) (hJ : J ws0) : Mq l yX12_turn cX12_turn 6 (some .int) 9 G Z [.ref (ad 0), .int a1, .int a2, .int a3, .int a4] ws0 (PI G (SM tt) ad [0, 5, 8, 9, 10, 11, 12, 13] ws0 (fun r u => ((-3) ≤ r.toInt) ∧ (r.toInt ≤ 3))) := by
  refine Mq.start (by decide) (Nat.le_of_ble_eq_true rfl) ?_
  intro p e s m below meth c A ls C0 hZ h hl
  have hl : lv_has ls 6 [(0, .ref (ad 0)), (1, .int a1), (2, .int a2), (3, .int a3), (4, .int a4)] := hl
  have h : Wt G (SM tt) ad A s s.heap [] ws0 := ⟨h, hT⟩
  obtain ⟨args, hargs⟩ : ∃ z, z = ([.ref (ad 0), .int a1, .int a2, .int a3, .int a4] : List Value).toArray := ⟨_, rfl⟩
  rw [← hargs] at C0 ⊢
  have C0 : Cx p s m args meth c RX12 cX12_turn 6 (some .int) := C0
  obtain ⟨Q, hQ⟩ : ∃ z, z = MQ below ((PI G (SM tt) ad [0, 5, 8, 9, 10, 11, 12, 13] ws0 (fun r u => ((-3) ≤ r.toInt) ∧ (r.toInt ≤ 3))) A) args s 0 0 A := ⟨_, rfl⟩
  rw [← hQ]
  refine lv_aload_n C0.1 C0.2.1 dX12_turn_0 rfl (lv_at hl 0 rfl) ?_
  refine y_c1 (n := 0) C0 (by decide) dX12_turn_1 (fun v_1 e_2 => ?_)
  refine np_X12_thrown C0 h kSM_0 q_1438 (le_min v_1) (le_max v_1) dX12_turn_2 (fun H locs ws_3 h u_4 => ?_)
  refine lv_aload_n C0.1 C0.2.1 dX12_turn_5 rfl (lv_at hl 0 rfl) ?_
  refine lv_iload_n C0.1 C0.2.1 dX12_turn_6 rfl (lv_at hl 1 rfl) ?_
  refine lv_iload_n C0.1 C0.2.1 dX12_turn_7 rfl (lv_at hl 2 rfl) ?_
  refine y_ci h (y_rV (As := [.int a1, .int a2]) (rest := []) C0 hZ h (c_X12_areThere l G Z ad _ h.2 a1 a2 (J.pa hT hJ (Pa.ud u_4.1 (by decide)))) k_X12_areThere q_1868 q_99 q_1866 kSM_0 rfl rfl rfl hl.1 rfl rfl (Nat.le_of_ble_eq_true rfl) dX12_turn_8 ⟨Nat.le_of_ble_eq_true rfl, Nat.le_of_ble_eq_true rfl⟩ ⟨Nat.le_of_ble_eq_true rfl, Nat.le_of_ble_eq_true rfl⟩) (fun r_8 H locs ws_5 h u_6 p_7 => ?_)
  obtain ⟨e_9, e_10, e_11, e_12⟩ := p_7
  refine y_if_ne (tgt := 17) C0 dX12_turn_11 (by decide) (fun c_13 => ?_) (fun c_13 => ?_)
  · -- 11
    refine lv_iload_n C0.1 C0.2.1 dX12_turn_17 rfl (lv_at hl 3 rfl) ?_
    refine y_i2l C0 dX12_turn_18 (fun w_14 e_15 => ?_)
    refine y_lc (v := 0) C0 (by decide) dX12_turn_19 (fun w_16 e_17 => ?_)
    refine y_lc2 (n := 120) C0 q_1870 (by decide) dX12_turn_20 (fun w_18 e_19 => ?_)
    refine y_ci h (y_rS (As := [.long w_14, .long w_16, .long w_18]) (rest := []) C0 hZ h (c_X12_within l G Z ad _ h.2 w_14 w_16 w_18) k_X12_within q_1580 q_1579 hl.1 rfl rfl (Nat.le_of_ble_eq_true rfl) dX12_turn_23 ⟨Nat.le_of_ble_eq_true rfl, Nat.le_of_ble_eq_true rfl⟩ ⟨Nat.le_of_ble_eq_true rfl, Nat.le_of_ble_eq_true rfl⟩) (fun r_23 H locs ws_20 h u_21 p_22 => ?_)
    obtain ⟨e_24, e_25, e_26⟩ := p_22
    refine y_if_eq (tgt := 34) C0 dX12_turn_26 (by decide) (fun c_27 => ?_) (fun c_27 => ?_)
    · -- 26
      refine y_c2 (n := (-3)) C0 (by decide) dX12_turn_34 (fun v_28 e_29 => ?_)
      rw [hQ]
      exact y_iret C0 h (Fr.tr (Fr.tr (Fr.up u_4.1 kSM_0 (by decide)) (Fr.mono u_6 (by decide))) (Fr.mono u_21 (by decide))) ⟨(o36_341 e_29), (o36_392 e_29)⟩ dX12_turn_36
    · -- 26
      refine lv_iload C0.1 C0.2.1 dX12_turn_29 (lv_at hl 4 rfl) ?_
      refine y_if_ge (tgt := 37) C0 dX12_turn_31 (by decide) (fun c_30 => ?_) (fun c_30 => ?_)
      · -- 31
        refine lv_aload_n C0.1 C0.2.1 dX12_turn_37 rfl (lv_at hl 0 rfl) ?_
        refine lv_iload_n C0.1 C0.2.1 dX12_turn_38 rfl (lv_at hl 1 rfl) ?_
        refine lv_iload_n C0.1 C0.2.1 dX12_turn_39 rfl (lv_at hl 2 rfl) ?_
        refine lv_iload_n C0.1 C0.2.1 dX12_turn_40 rfl (lv_at hl 3 rfl) ?_
        refine y_ci h (y_rV (As := [.int a1, .int a2, .int a3]) (rest := []) C0 hZ h (c_X12_laysWay l G Z ad _ h.2 a1 a2 a3 (o36_343 e_9 e_10 e_11 c_13) (o36_344 e_9 e_10 e_11 c_13) (o36_345 e_9 e_10 e_11 c_13) (o36_346 e_9 e_10 e_11 c_13) (J.pa hT hJ (Pa.tr (Pa.tr (Pa.ud u_4.1 (by decide)) (Pa.fr u_6 (by decide))) (Pa.fr u_21 (by decide)))) (Laid.pa (Or.resolve_left e_12 (o36_347 e_9 e_10 e_11 c_13)) (Pa.tr (Pa.fr u_6 (by decide)) (Pa.fr u_21 (by decide))))) k_X12_laysWay q_1906 q_107 q_1904 kSM_0 rfl rfl rfl hl.1 rfl rfl (Nat.le_of_ble_eq_true rfl) dX12_turn_41 ⟨Nat.le_of_ble_eq_true rfl, Nat.le_of_ble_eq_true rfl⟩ ⟨Nat.le_of_ble_eq_true rfl, Nat.le_of_ble_eq_true rfl⟩) (fun r_34 H locs ws_31 h u_32 p_33 => ?_)
        obtain ⟨e_35, e_36⟩ := p_33
        refine lv_istore (lv' := [(5, .int r_34), (0, .ref (ad 0)), (1, .int a1), (2, .int a2), (3, .int a3), (4, .int a4)]) C0.1 C0.2.1 dX12_turn_44 hl (by decide) rfl (fun ls hl => ?_)
        refine lv_iload C0.1 C0.2.1 dX12_turn_46 (lv_at hl 5 rfl) ?_
        refine lv_iload C0.1 C0.2.1 dX12_turn_48 (lv_at hl 0 rfl) ?_
        refine y_icmp_ge (tgt := 63) C0 dX12_turn_50 (by decide) (fun c_37 => ?_) (fun c_37 => ?_)
        · -- 50
          refine y_c1 (n := (-1)) C0 (by decide) dX12_turn_63 (fun v_38 e_39 => ?_)
          rw [hQ]
          exact y_iret C0 h (Fr.tr (Fr.tr (Fr.tr (Fr.up u_4.1 kSM_0 (by decide)) (Fr.mono u_6 (by decide))) (Fr.mono u_21 (by decide))) u_32) ⟨(o36_393 e_39), (o36_394 e_39)⟩ dX12_turn_64
        · -- 50
          refine lv_aload_n C0.1 C0.2.1 dX12_turn_53 rfl (lv_at hl 1 rfl) ?_
          refine ng_X12_turns C0 h kSM_0 q_1465 dX12_turn_54 ?_
          refine lv_iload C0.1 C0.2.1 dX12_turn_57 (lv_at hl 5 rfl) ?_
          refine y_iald C0 h kSM_13 rfl (by decide) (o36_395 c_30 e_35 e_36 c_37) (o36_396 c_30 e_35 e_36 c_37) dX12_turn_59 (fun v_40 e_41 e_42 e_43 => ?_)
          refine lv_goto (tgt := 64) C0.1 C0.2.1 dX12_turn_60 (by decide) ?_
          rw [hQ]
          exact y_iret C0 h (Fr.tr (Fr.tr (Fr.tr (Fr.up u_4.1 kSM_0 (by decide)) (Fr.mono u_6 (by decide))) (Fr.mono u_21 (by decide))) u_32) ⟨(o36_397 e_42 e_43), (o36_68 e_42 e_43)⟩ dX12_turn_64
      · -- 31
        refine y_c2 (n := (-3)) C0 (by decide) dX12_turn_34 (fun v_44 e_45 => ?_)
        rw [hQ]
        exact y_iret C0 h (Fr.tr (Fr.tr (Fr.up u_4.1 kSM_0 (by decide)) (Fr.mono u_6 (by decide))) (Fr.mono u_21 (by decide))) ⟨(o36_341 e_45), (o36_392 e_45)⟩ dX12_turn_36
  · -- 11
    refine y_c2 (n := (-2)) C0 (by decide) dX12_turn_14 (fun v_46 e_47 => ?_)
    rw [hQ]
    exact y_iret C0 h (Fr.tr (Fr.up u_4.1 kSM_0 (by decide)) (Fr.mono u_6 (by decide))) ⟨(o36_349 e_47), (o36_398 e_47)⟩ dX12_turn_16
set_option maxHeartbeats 4000000 in
set_option maxRecDepth 100000 in
theorem c_X12_fewest (l : Launch) (G : GG) (Z : RZ) (ad : Nat → Nat) (ws0 : va_W) (hT : Ty G (SM tt) ad ws0) (a1 : Int32) (a2 : Int32) (a3 : Int32) (hJ : J ws0) : Mq l yX12_fewest cX12_fewest 4 (some .int) 7 G Z [.ref (ad 0), .int a1, .int a2, .int a3] ws0 (PI G (SM tt) ad [0, 5, 8, 10, 11, 12] ws0 (fun r u => True)) := by
  refine Mq.start (by decide) (Nat.le_of_ble_eq_true rfl) ?_
  intro p e s m below meth c A ls C0 hZ h hl
  have hl : lv_has ls 4 [(0, .ref (ad 0)), (1, .int a1), (2, .int a2), (3, .int a3)] := hl
  have h : Wt G (SM tt) ad A s s.heap [] ws0 := ⟨h, hT⟩
  obtain ⟨args, hargs⟩ : ∃ z, z = ([.ref (ad 0), .int a1, .int a2, .int a3] : List Value).toArray := ⟨_, rfl⟩
  rw [← hargs] at C0 ⊢
  have C0 : Cx p s m args meth c RX12 cX12_fewest 4 (some .int) := C0
  obtain ⟨Q, hQ⟩ : ∃ z, z = MQ below ((PI G (SM tt) ad [0, 5, 8, 10, 11, 12] ws0 (fun r u => True)) A) args s 0 0 A := ⟨_, rfl⟩
  rw [← hQ]
  refine lv_aload_n C0.1 C0.2.1 dX12_fewest_0 rfl (lv_at hl 0 rfl) ?_
  refine y_c1 (n := 0) C0 (by decide) dX12_fewest_1 (fun v_1 e_2 => ?_)
  refine np_X12_thrown C0 h kSM_0 q_1438 (le_min v_1) (le_max v_1) dX12_fewest_2 (fun H locs ws_3 h u_4 => ?_)
  refine lv_aload_n C0.1 C0.2.1 dX12_fewest_5 rfl (lv_at hl 0 rfl) ?_
  refine lv_iload_n C0.1 C0.2.1 dX12_fewest_6 rfl (lv_at hl 1 rfl) ?_
  refine lv_iload_n C0.1 C0.2.1 dX12_fewest_7 rfl (lv_at hl 2 rfl) ?_
  refine y_ci h (y_rV (As := [.int a1, .int a2]) (rest := []) C0 hZ h (c_X12_areThere l G Z ad _ h.2 a1 a2 (J.pa hT hJ (Pa.ud u_4.1 (by decide)))) k_X12_areThere q_1868 q_99 q_1866 kSM_0 rfl rfl rfl hl.1 rfl rfl (Nat.le_of_ble_eq_true rfl) dX12_fewest_8 ⟨Nat.le_of_ble_eq_true rfl, Nat.le_of_ble_eq_true rfl⟩ ⟨Nat.le_of_ble_eq_true rfl, Nat.le_of_ble_eq_true rfl⟩) (fun r_8 H locs ws_5 h u_6 p_7 => ?_)
  obtain ⟨e_9, e_10, e_11, e_12⟩ := p_7
  refine y_if_ne (tgt := 17) C0 dX12_fewest_11 (by decide) (fun c_13 => ?_) (fun c_13 => ?_)
  · -- 11
    refine lv_iload_n C0.1 C0.2.1 dX12_fewest_17 rfl (lv_at hl 3 rfl) ?_
    refine y_i2l C0 dX12_fewest_18 (fun w_14 e_15 => ?_)
    refine y_lc (v := 0) C0 (by decide) dX12_fewest_19 (fun w_16 e_17 => ?_)
    refine y_lc2 (n := 60) C0 q_1852 (by decide) dX12_fewest_20 (fun w_18 e_19 => ?_)
    refine y_ci h (y_rS (As := [.long w_14, .long w_16, .long w_18]) (rest := []) C0 hZ h (c_X12_within l G Z ad _ h.2 w_14 w_16 w_18) k_X12_within q_1580 q_1579 hl.1 rfl rfl (Nat.le_of_ble_eq_true rfl) dX12_fewest_23 ⟨Nat.le_of_ble_eq_true rfl, Nat.le_of_ble_eq_true rfl⟩ ⟨Nat.le_of_ble_eq_true rfl, Nat.le_of_ble_eq_true rfl⟩) (fun r_23 H locs ws_20 h u_21 p_22 => ?_)
    obtain ⟨e_24, e_25, e_26⟩ := p_22
    refine y_if_ne (tgt := 32) C0 dX12_fewest_26 (by decide) (fun c_27 => ?_) (fun c_27 => ?_)
    · -- 26
      refine lv_aload_n C0.1 C0.2.1 dX12_fewest_32 rfl (lv_at hl 0 rfl) ?_
      refine lv_iload_n C0.1 C0.2.1 dX12_fewest_33 rfl (lv_at hl 1 rfl) ?_
      refine lv_iload_n C0.1 C0.2.1 dX12_fewest_34 rfl (lv_at hl 3 rfl) ?_
      refine y_c1 (n := 0) C0 (by decide) dX12_fewest_35 (fun v_28 e_29 => ?_)
      refine y_cv h (y_rV (As := [.int a1, .int a3, .int v_28]) (rest := []) C0 hZ h (c_X12_laysFor l G Z ad _ h.2 a1 a3 v_28 (o36_343 e_9 e_10 e_11 c_13) (o36_344 e_9 e_10 e_11 c_13) (o36_399 e_15 e_17 e_19 e_24 e_25 e_26 c_27) (o36_400 e_15 e_17 e_19 e_24 e_25 e_26 c_27) (o36_61 e_29) (o36_338 e_29) (J.pa hT hJ (Pa.tr (Pa.tr (Pa.ud u_4.1 (by decide)) (Pa.fr u_6 (by decide))) (Pa.fr u_21 (by decide)))) (Laid.pa (Or.resolve_left e_12 (o36_347 e_9 e_10 e_11 c_13)) (Pa.tr (Pa.fr u_6 (by decide)) (Pa.fr u_21 (by decide))))) k_X12_laysFor q_1877 q_101 q_1875 kSM_0 rfl rfl rfl hl.1 rfl rfl (Nat.le_of_ble_eq_true rfl) dX12_fewest_36 ⟨Nat.le_of_ble_eq_true rfl, Nat.le_of_ble_eq_true rfl⟩ ⟨Nat.le_of_ble_eq_true rfl, Nat.le_of_ble_eq_true rfl⟩) (fun H locs ws_30 h u_31 p_32 => ?_)
      refine lv_aload_n C0.1 C0.2.1 dX12_fewest_39 rfl (lv_at hl 0 rfl) ?_
      refine lv_iload_n C0.1 C0.2.1 dX12_fewest_40 rfl (lv_at hl 2 rfl) ?_
      refine lv_iload_n C0.1 C0.2.1 dX12_fewest_41 rfl (lv_at hl 3 rfl) ?_
      refine y_ci h (y_rV (As := [.int a2, .int a3]) (rest := []) C0 hZ h (c_X12_leastWithin l G Z ad _ h.2 a2 a3 (o36_345 e_9 e_10 e_11 c_13) (o36_346 e_9 e_10 e_11 c_13) (o36_399 e_15 e_17 e_19 e_24 e_25 e_26 c_27) (o36_400 e_15 e_17 e_19 e_24 e_25 e_26 c_27)) k_X12_leastWithin q_1926 q_111 q_1924 kSM_0 rfl rfl rfl hl.1 rfl rfl (Nat.le_of_ble_eq_true rfl) dX12_fewest_42 ⟨Nat.le_of_ble_eq_true rfl, Nat.le_of_ble_eq_true rfl⟩ ⟨Nat.le_of_ble_eq_true rfl, Nat.le_of_ble_eq_true rfl⟩) (fun r_36 H locs ws_33 h u_34 p_35 => ?_)
      have e_37 := p_35
      refine y_ci h (y_rS (As := [.int r_36]) (rest := []) C0 hZ h (c_X12_orNone l G Z ad _ h.2 r_36) k_X12_orNone q_1929 q_1928 hl.1 rfl rfl (Nat.le_of_ble_eq_true rfl) dX12_fewest_45 ⟨Nat.le_of_ble_eq_true rfl, Nat.le_of_ble_eq_true rfl⟩ ⟨Nat.le_of_ble_eq_true rfl, Nat.le_of_ble_eq_true rfl⟩) (fun r_41 H locs ws_38 h u_39 p_40 => ?_)
      rw [hQ]
      exact y_iret C0 h (Fr.tr (Fr.tr (Fr.tr (Fr.tr (Fr.tr (Fr.up u_4.1 kSM_0 (by decide)) (Fr.mono u_6 (by decide))) (Fr.mono u_21 (by decide))) u_31) (Fr.mono u_34 (by decide))) (Fr.mono u_39 (by decide))) trivial dX12_fewest_48
    · -- 26
      refine y_c2 (n := (-3)) C0 (by decide) dX12_fewest_29 (fun v_42 e_43 => ?_)
      rw [hQ]
      exact y_iret C0 h (Fr.tr (Fr.tr (Fr.up u_4.1 kSM_0 (by decide)) (Fr.mono u_6 (by decide))) (Fr.mono u_21 (by decide))) trivial dX12_fewest_31
  · -- 11
    refine y_c2 (n := (-2)) C0 (by decide) dX12_fewest_14 (fun v_44 e_45 => ?_)
    rw [hQ]
    exact y_iret C0 h (Fr.tr (Fr.up u_4.1 kSM_0 (by decide)) (Fr.mono u_6 (by decide))) trivial dX12_fewest_16
set_option maxHeartbeats 4000000 in
set_option maxRecDepth 100000 in
theorem c_X12_cheapest (l : Launch) (G : GG) (Z : RZ) (ad : Nat → Nat) (ws0 : va_W) (hT : Ty G (SM tt) ad ws0) (a1 : Int32) (a2 : Int32) (a3 : Int32) (hJ : J ws0) : Mq l yX12_cheapest cX12_cheapest 4 (some .int) 7 G Z [.ref (ad 0), .int a1, .int a2, .int a3] ws0 (PI G (SM tt) ad [0, 5, 8, 10, 11, 12] ws0 (fun r u => True)) := by
  refine Mq.start (by decide) (Nat.le_of_ble_eq_true rfl) ?_
  intro p e s m below meth c A ls C0 hZ h hl
  have hl : lv_has ls 4 [(0, .ref (ad 0)), (1, .int a1), (2, .int a2), (3, .int a3)] := hl
  have h : Wt G (SM tt) ad A s s.heap [] ws0 := ⟨h, hT⟩
  obtain ⟨args, hargs⟩ : ∃ z, z = ([.ref (ad 0), .int a1, .int a2, .int a3] : List Value).toArray := ⟨_, rfl⟩
  rw [← hargs] at C0 ⊢
  have C0 : Cx p s m args meth c RX12 cX12_cheapest 4 (some .int) := C0
  obtain ⟨Q, hQ⟩ : ∃ z, z = MQ below ((PI G (SM tt) ad [0, 5, 8, 10, 11, 12] ws0 (fun r u => True)) A) args s 0 0 A := ⟨_, rfl⟩
  rw [← hQ]
  refine lv_aload_n C0.1 C0.2.1 dX12_cheapest_0 rfl (lv_at hl 0 rfl) ?_
  refine y_c1 (n := 0) C0 (by decide) dX12_cheapest_1 (fun v_1 e_2 => ?_)
  refine np_X12_thrown C0 h kSM_0 q_1438 (le_min v_1) (le_max v_1) dX12_cheapest_2 (fun H locs ws_3 h u_4 => ?_)
  refine lv_aload_n C0.1 C0.2.1 dX12_cheapest_5 rfl (lv_at hl 0 rfl) ?_
  refine lv_iload_n C0.1 C0.2.1 dX12_cheapest_6 rfl (lv_at hl 1 rfl) ?_
  refine lv_iload_n C0.1 C0.2.1 dX12_cheapest_7 rfl (lv_at hl 2 rfl) ?_
  refine y_ci h (y_rV (As := [.int a1, .int a2]) (rest := []) C0 hZ h (c_X12_areThere l G Z ad _ h.2 a1 a2 (J.pa hT hJ (Pa.ud u_4.1 (by decide)))) k_X12_areThere q_1868 q_99 q_1866 kSM_0 rfl rfl rfl hl.1 rfl rfl (Nat.le_of_ble_eq_true rfl) dX12_cheapest_8 ⟨Nat.le_of_ble_eq_true rfl, Nat.le_of_ble_eq_true rfl⟩ ⟨Nat.le_of_ble_eq_true rfl, Nat.le_of_ble_eq_true rfl⟩) (fun r_8 H locs ws_5 h u_6 p_7 => ?_)
  obtain ⟨e_9, e_10, e_11, e_12⟩ := p_7
  refine y_if_ne (tgt := 17) C0 dX12_cheapest_11 (by decide) (fun c_13 => ?_) (fun c_13 => ?_)
  · -- 11
    refine lv_iload_n C0.1 C0.2.1 dX12_cheapest_17 rfl (lv_at hl 3 rfl) ?_
    refine y_i2l C0 dX12_cheapest_18 (fun w_14 e_15 => ?_)
    refine y_lc (v := 0) C0 (by decide) dX12_cheapest_19 (fun w_16 e_17 => ?_)
    refine y_lc2 (n := 60) C0 q_1852 (by decide) dX12_cheapest_20 (fun w_18 e_19 => ?_)
    refine y_ci h (y_rS (As := [.long w_14, .long w_16, .long w_18]) (rest := []) C0 hZ h (c_X12_within l G Z ad _ h.2 w_14 w_16 w_18) k_X12_within q_1580 q_1579 hl.1 rfl rfl (Nat.le_of_ble_eq_true rfl) dX12_cheapest_23 ⟨Nat.le_of_ble_eq_true rfl, Nat.le_of_ble_eq_true rfl⟩ ⟨Nat.le_of_ble_eq_true rfl, Nat.le_of_ble_eq_true rfl⟩) (fun r_23 H locs ws_20 h u_21 p_22 => ?_)
    obtain ⟨e_24, e_25, e_26⟩ := p_22
    refine y_if_ne (tgt := 32) C0 dX12_cheapest_26 (by decide) (fun c_27 => ?_) (fun c_27 => ?_)
    · -- 26
      refine lv_aload_n C0.1 C0.2.1 dX12_cheapest_32 rfl (lv_at hl 0 rfl) ?_
      refine lv_iload_n C0.1 C0.2.1 dX12_cheapest_33 rfl (lv_at hl 1 rfl) ?_
      refine lv_iload_n C0.1 C0.2.1 dX12_cheapest_34 rfl (lv_at hl 3 rfl) ?_
      refine y_c1 (n := 1) C0 (by decide) dX12_cheapest_35 (fun v_28 e_29 => ?_)
      refine y_cv h (y_rV (As := [.int a1, .int a3, .int v_28]) (rest := []) C0 hZ h (c_X12_laysFor l G Z ad _ h.2 a1 a3 v_28 (o36_343 e_9 e_10 e_11 c_13) (o36_344 e_9 e_10 e_11 c_13) (o36_399 e_15 e_17 e_19 e_24 e_25 e_26 c_27) (o36_400 e_15 e_17 e_19 e_24 e_25 e_26 c_27) (o36_401 e_29) (o36_402 e_29) (J.pa hT hJ (Pa.tr (Pa.tr (Pa.ud u_4.1 (by decide)) (Pa.fr u_6 (by decide))) (Pa.fr u_21 (by decide)))) (Laid.pa (Or.resolve_left e_12 (o36_347 e_9 e_10 e_11 c_13)) (Pa.tr (Pa.fr u_6 (by decide)) (Pa.fr u_21 (by decide))))) k_X12_laysFor q_1877 q_101 q_1875 kSM_0 rfl rfl rfl hl.1 rfl rfl (Nat.le_of_ble_eq_true rfl) dX12_cheapest_36 ⟨Nat.le_of_ble_eq_true rfl, Nat.le_of_ble_eq_true rfl⟩ ⟨Nat.le_of_ble_eq_true rfl, Nat.le_of_ble_eq_true rfl⟩) (fun H locs ws_30 h u_31 p_32 => ?_)
      refine lv_aload_n C0.1 C0.2.1 dX12_cheapest_39 rfl (lv_at hl 0 rfl) ?_
      refine lv_iload_n C0.1 C0.2.1 dX12_cheapest_40 rfl (lv_at hl 2 rfl) ?_
      refine lv_iload_n C0.1 C0.2.1 dX12_cheapest_41 rfl (lv_at hl 3 rfl) ?_
      refine y_ci h (y_rV (As := [.int a2, .int a3]) (rest := []) C0 hZ h (c_X12_leastWithin l G Z ad _ h.2 a2 a3 (o36_345 e_9 e_10 e_11 c_13) (o36_346 e_9 e_10 e_11 c_13) (o36_399 e_15 e_17 e_19 e_24 e_25 e_26 c_27) (o36_400 e_15 e_17 e_19 e_24 e_25 e_26 c_27)) k_X12_leastWithin q_1926 q_111 q_1924 kSM_0 rfl rfl rfl hl.1 rfl rfl (Nat.le_of_ble_eq_true rfl) dX12_cheapest_42 ⟨Nat.le_of_ble_eq_true rfl, Nat.le_of_ble_eq_true rfl⟩ ⟨Nat.le_of_ble_eq_true rfl, Nat.le_of_ble_eq_true rfl⟩) (fun r_36 H locs ws_33 h u_34 p_35 => ?_)
      have e_37 := p_35
      refine y_ci h (y_rS (As := [.int r_36]) (rest := []) C0 hZ h (c_X12_orNone l G Z ad _ h.2 r_36) k_X12_orNone q_1929 q_1928 hl.1 rfl rfl (Nat.le_of_ble_eq_true rfl) dX12_cheapest_45 ⟨Nat.le_of_ble_eq_true rfl, Nat.le_of_ble_eq_true rfl⟩ ⟨Nat.le_of_ble_eq_true rfl, Nat.le_of_ble_eq_true rfl⟩) (fun r_41 H locs ws_38 h u_39 p_40 => ?_)
      rw [hQ]
      exact y_iret C0 h (Fr.tr (Fr.tr (Fr.tr (Fr.tr (Fr.tr (Fr.up u_4.1 kSM_0 (by decide)) (Fr.mono u_6 (by decide))) (Fr.mono u_21 (by decide))) u_31) (Fr.mono u_34 (by decide))) (Fr.mono u_39 (by decide))) trivial dX12_cheapest_48
    · -- 26
      refine y_c2 (n := (-3)) C0 (by decide) dX12_cheapest_29 (fun v_42 e_43 => ?_)
      rw [hQ]
      exact y_iret C0 h (Fr.tr (Fr.tr (Fr.up u_4.1 kSM_0 (by decide)) (Fr.mono u_6 (by decide))) (Fr.mono u_21 (by decide))) trivial dX12_cheapest_31
  · -- 11
    refine y_c2 (n := (-2)) C0 (by decide) dX12_cheapest_14 (fun v_44 e_45 => ?_)
    rw [hQ]
    exact y_iret C0 h (Fr.tr (Fr.up u_4.1 kSM_0 (by decide)) (Fr.mono u_6 (by decide))) trivial dX12_cheapest_16
set_option maxHeartbeats 4000000 in
set_option maxRecDepth 100000 in
theorem c_X12_countsOn (l : Launch) (G : GG) (Z : RZ) (ad : Nat → Nat) (ws0 : va_W) (hT : Ty G (SM tt) ad ws0) (a1 : Int32) (a2 : Int32) (a3 : Int32) (l1 : 0 ≤ a1.toInt) (u1 : a1.toInt ≤ 19) (l2 : 0 ≤ a2.toInt) (u2 : a2.toInt ≤ 99) (l3 : 0 ≤ a3.toInt) (u3 : a3.toInt ≤ 40) (hLd : Laid ws0) : Mq l yX12_countsOn cX12_countsOn 9 none 5 G Z [.ref (ad 0), .int a1, .int a2, .int a3] ws0 (PV G (SM tt) ad [15] ws0 (fun u => True)) := by
  refine Mq.start (by decide) (Nat.le_of_ble_eq_true rfl) ?_
  intro p e s m below meth c A ls C0 hZ h hl
  have hl : lv_has ls 9 [(0, .ref (ad 0)), (1, .int a1), (2, .int a2), (3, .int a3)] := hl
  have h : Wt G (SM tt) ad A s s.heap [] ws0 := ⟨h, hT⟩
  obtain ⟨args, hargs⟩ : ∃ z, z = ([.ref (ad 0), .int a1, .int a2, .int a3] : List Value).toArray := ⟨_, rfl⟩
  rw [← hargs] at C0 ⊢
  have C0 : Cx p s m args meth c RX12 cX12_countsOn 9 none := C0
  obtain ⟨Q, hQ⟩ : ∃ z, z = MQ below ((PV G (SM tt) ad [15] ws0 (fun u => True)) A) args s 0 0 A := ⟨_, rfl⟩
  rw [← hQ]
  refine y_c1 (n := 0) C0 (by decide) dX12_countsOn_0 (fun v_1 e_2 => ?_)
  refine lv_istore (lv' := [(4, .int v_1), (0, .ref (ad 0)), (1, .int a1), (2, .int a2), (3, .int a3)]) C0.1 C0.2.1 dX12_countsOn_1 hl (by decide) rfl (fun ls hl => ?_)
  have lp_6 : ∀ (n_8 : Nat) (x4_3 : Int32) (H : Heap) (locs : List Loc) (ls : Array Slot) (ws_4 : va_W), 4 - x4_3.toInt < (n_8 : Int) → 0 ≤ x4_3.toInt → x4_3.toInt ≤ 4 → Wt G (SM tt) ad A s H locs ws_4 → Fr (SM tt) [15] ws0 ws_4 → lv_has ls 9 [(4, .int x4_3), (0, .ref (ad 0)), (1, .int a1), (2, .int a2), (3, .int a3)] → W p l e (rmd 5 0 0) s m args below meth c H locs 0 0 Q (F0 m 3 ls []) := by
    intro n_8
    induction n_8 with
    | zero => intro x4_3 H locs ls ws_4 hn_9 b_10 b_11 h hF_5 hl; exact ((o36_19 b_10 b_11 hn_9)).elim
    | succ n_8 ih_7 =>
      intro x4_3 H locs ls ws_4 hn_9 b_10 b_11 h hF_5 hl
      refine lv_iload C0.1 C0.2.1 dX12_countsOn_3 (lv_at hl 0 rfl) ?_
      refine y_c1 (n := 4) C0 (by decide) dX12_countsOn_5 (fun v_12 e_13 => ?_)
      refine y_icmp_ge (tgt := 117) C0 dX12_countsOn_6 (by decide) (fun c_14 => ?_) (fun c_14 => ?_)
      · -- 6
        rw [hQ]
        exact y_vret C0 h hF_5 trivial dX12_countsOn_117
      · -- 6
        refine lv_aload_n C0.1 C0.2.1 dX12_countsOn_9 rfl (lv_at hl 1 rfl) ?_
        refine lv_iload_n C0.1 C0.2.1 dX12_countsOn_10 rfl (lv_at hl 2 rfl) ?_
        refine lv_iload_n C0.1 C0.2.1 dX12_countsOn_11 rfl (lv_at hl 3 rfl) ?_
        refine y_c1 (n := 4) C0 (by decide) dX12_countsOn_12 (fun v_15 e_16 => ?_)
        refine y_divc (n := 4) C0 (o36_28 e_16) (by decide) (o36_205 l2 u2) dX12_countsOn_13 (fun v_17 e_18 => ?_)
        refine lv_iload_n C0.1 C0.2.1 dX12_countsOn_14 rfl (lv_at hl 3 rfl) ?_
        refine y_c1 (n := 4) C0 (by decide) dX12_countsOn_15 (fun v_19 e_20 => ?_)
        refine y_remc (n := 4) C0 (o36_28 e_20) (by decide) (o36_206 l2 u2 e_18) dX12_countsOn_16 (fun v_21 e_22 => ?_)
        refine lv_iload C0.1 C0.2.1 dX12_countsOn_17 (lv_at hl 0 rfl) ?_
        refine y_c1 (n := 0) C0 (by decide) dX12_countsOn_19 (fun v_23 e_24 => ?_)
        refine y_ci h (y_rV (As := [.int a1, .int v_17, .int v_21, .int x4_3, .int v_23]) (rest := []) C0 hZ h (c_X12_costOf_0 l G Z ad _ h.2 a1 v_17 v_21 x4_3 v_23 (o36_403 l1 u1) (o36_404 l1 u1) (o36_209 l2 u2 e_18 e_22) (o36_210 l2 u2 e_18 e_22) (o36_211 l2 u2 e_18 e_22) (o36_212 l2 u2 e_18 e_22) (o36_154 b_10 b_11 hn_9 e_13 c_14) (o36_155 b_10 b_11 hn_9 e_13 c_14) (o36_61 e_24) (o36_213 e_24) (Laid.pa hLd (Pa.fr hF_5 (by decide)))) k_X12_costOf q_1890 q_104 q_1888 kSM_0 rfl rfl rfl hl.1 rfl rfl (Nat.le_of_ble_eq_true rfl) dX12_countsOn_20 ⟨Nat.le_of_ble_eq_true rfl, Nat.le_of_ble_eq_true rfl⟩ ⟨Nat.le_of_ble_eq_true rfl, Nat.le_of_ble_eq_true rfl⟩) (fun r_28 H locs ws_25 h u_26 p_27 => ?_)
        obtain ⟨e_29, e_30, e_31, e_32⟩ := p_27
        refine lv_istore (lv' := [(5, .int r_28), (4, .int x4_3), (0, .ref (ad 0)), (1, .int a1), (2, .int a2), (3, .int a3)]) C0.1 C0.2.1 dX12_countsOn_23 hl (by decide) rfl (fun ls hl => ?_)
        refine lv_iload C0.1 C0.2.1 dX12_countsOn_25 (lv_at hl 0 rfl) ?_
        refine y_c5 (n := 1000000000) C0 q_1887 (by decide) dX12_countsOn_27 (fun v_33 e_34 => ?_)
        refine y_icmp_ne (tgt := 36) C0 dX12_countsOn_30 (by decide) (fun c_35 => ?_) (fun c_35 => ?_)
        · -- 30
          refine lv_iload_n C0.1 C0.2.1 dX12_countsOn_36 rfl (lv_at hl 4 rfl) ?_
          refine y_c1 (n := 4) C0 (by decide) dX12_countsOn_37 (fun v_36 e_37 => ?_)
          refine y_remc (n := 4) C0 (o36_28 e_37) (by decide) (o36_218 l2 u2 e_18 e_22) dX12_countsOn_38 (fun v_38 e_39 => ?_)
          refine lv_iload C0.1 C0.2.1 dX12_countsOn_39 (lv_at hl 1 rfl) ?_
          refine y_ci h (y_rS (As := [.int v_38, .int x4_3]) (rest := []) C0 hZ h (c_X12_directionBy l G Z ad _ h.2 v_38 x4_3 (o36_359 l2 u2 e_18 e_22 e_39) (o36_360 l2 u2 e_18 e_22 e_39) (o36_154 b_10 b_11 hn_9 e_13 c_14) (o36_155 b_10 b_11 hn_9 e_13 c_14)) k_X12_directionBy q_1761 q_1760 hl.1 rfl rfl (Nat.le_of_ble_eq_true rfl) dX12_countsOn_41 ⟨Nat.le_of_ble_eq_true rfl, Nat.le_of_ble_eq_true rfl⟩ ⟨Nat.le_of_ble_eq_true rfl, Nat.le_of_ble_eq_true rfl⟩) (fun r_43 H locs ws_40 h u_41 p_42 => ?_)
          obtain ⟨e_44, e_45, e_46⟩ := p_42
          refine lv_istore (lv' := [(6, .int r_43), (5, .int r_28), (4, .int x4_3), (0, .ref (ad 0)), (1, .int a1), (2, .int a2), (3, .int a3)]) C0.1 C0.2.1 dX12_countsOn_44 hl (by decide) rfl (fun ls hl => ?_)
          refine y_c1 (n := 4) C0 (by decide) dX12_countsOn_46 (fun v_47 e_48 => ?_)
          refine lv_aload_n C0.1 C0.2.1 dX12_countsOn_47 rfl (lv_at hl 3 rfl) ?_
          refine lv_iload_n C0.1 C0.2.1 dX12_countsOn_48 rfl (lv_at hl 5 rfl) ?_
          refine y_c1 (n := 4) C0 (by decide) dX12_countsOn_49 (fun v_49 e_50 => ?_)
          refine y_divc (n := 4) C0 (o36_28 e_50) (by decide) (o36_361 l2 u2 e_18 e_22 e_39) dX12_countsOn_50 (fun v_51 e_52 => ?_)
          refine lv_iload C0.1 C0.2.1 dX12_countsOn_51 (lv_at hl 0 rfl) ?_
          refine y_ci h (y_rV (As := [.int v_51, .int r_43]) (rest := [.int v_47]) C0 hZ h (c_X12_streetFrom l G Z ad _ h.2 v_51 r_43 (o36_362 l2 u2 e_18 e_22 e_39 e_52) (o36_363 l2 u2 e_18 e_22 e_39 e_52) (o36_67 e_44 e_45) (o36_68 e_44 e_45) (Laid.pa hLd (Pa.tr (Pa.tr (Pa.fr hF_5 (by decide)) (Pa.fr u_26 (by decide))) (Pa.fr u_41 (by decide))))) k_X12_streetFrom q_1713 q_80 q_1711 kSM_0 rfl rfl rfl hl.1 rfl rfl (Nat.le_of_ble_eq_true rfl) dX12_countsOn_53 ⟨Nat.le_of_ble_eq_true rfl, Nat.le_of_ble_eq_true rfl⟩ ⟨Nat.le_of_ble_eq_true rfl, Nat.le_of_ble_eq_true rfl⟩) (fun r_56 H locs ws_53 h u_54 p_55 => ?_)
          obtain ⟨e_57, e_58, e_59⟩ := p_55
          have g_60 := sf_ge (Pw.tr (Pw.fr u_26 (by decide)) (Pw.fr u_41 (by decide))) e_32 (o36_224 e_29 e_30 e_31 e_34 c_35) e_59 (o36_364 l2 u2 e_18 e_22 e_39 e_52) (o36_365 l2 u2 e_18 e_22 e_39 e_52) e_46 (o36_366 l2 u2 e_18 e_22 e_39 e_52) (o36_170 b_10 b_11 hn_9 e_13 c_14)
          refine y_cmul (n := 4) C0 (o36_28 e_48) (o36_171 e_57 e_58 g_60 (le_min r_56) (le_max r_56)) (o36_172 e_57 e_58 g_60 (le_min r_56) (le_max r_56)) dX12_countsOn_56 (fun v_61 e_62 => ?_)
          refine lv_iload C0.1 C0.2.1 dX12_countsOn_57 (lv_at hl 0 rfl) ?_
          refine y_add C0 (o36_367 e_44 e_45 e_57 e_58 g_60 e_62 (le_min v_61) (le_max v_61) (le_min r_43) (le_max r_43) (le_min r_56) (le_max r_56)) (o36_368 e_44 e_45 e_57 e_58 g_60 e_62 (le_min v_61) (le_max v_61) (le_min r_43) (le_max r_43) (le_min r_56) (le_max r_56)) dX12_countsOn_59 (fun v_63 e_64 => ?_)
          refine lv_istore (lv' := [(7, .int v_63), (6, .int r_43), (5, .int r_28), (4, .int x4_3), (0, .ref (ad 0)), (1, .int a1), (2, .int a2), (3, .int a3)]) C0.1 C0.2.1 dX12_countsOn_60 hl (by decide) rfl (fun ls hl => ?_)
          refine y_c1 (n := 0) C0 (by decide) dX12_countsOn_62 (fun v_65 e_66 => ?_)
          refine lv_istore (lv' := [(8, .int v_65), (7, .int v_63), (6, .int r_43), (5, .int r_28), (4, .int x4_3), (0, .ref (ad 0)), (1, .int a1), (2, .int a2), (3, .int a3)]) C0.1 C0.2.1 dX12_countsOn_63 hl (by decide) rfl (fun ls hl => ?_)
          have lp_70 : ∀ (n_72 : Nat) (x8_67 : Int32) (H : Heap) (locs : List Loc) (ls : Array Slot) (ws_68 : va_W), 41 - x8_67.toInt < (n_72 : Int) → 0 ≤ x8_67.toInt → x8_67.toInt ≤ 41 → Wt G (SM tt) ad A s H locs ws_68 → Fr (SM tt) [15] ws_53 ws_68 → lv_has ls 9 [(8, .int x8_67), (7, .int v_63), (6, .int r_43), (5, .int r_28), (4, .int x4_3), (0, .ref (ad 0)), (1, .int a1), (2, .int a2), (3, .int a3)] → W p l e (rmd 5 0 0) s m args below meth c H locs 0 0 Q (F0 m 65 ls []) := by
            intro n_72
            induction n_72 with
            | zero => intro x8_67 H locs ls ws_68 hn_73 b_74 b_75 h hF_69 hl; exact ((o36_405 b_74 b_75 hn_73)).elim
            | succ n_72 ih_71 =>
              intro x8_67 H locs ls ws_68 hn_73 b_74 b_75 h hF_69 hl
              refine lv_iload C0.1 C0.2.1 dX12_countsOn_65 (lv_at hl 0 rfl) ?_
              refine lv_iload C0.1 C0.2.1 dX12_countsOn_67 (lv_at hl 3 rfl) ?_
              refine y_add C0 (o36_406 e_29 e_30 e_31 e_34 c_35 b_74 b_75 hn_73 (le_min x8_67) (le_max x8_67) (le_min r_28) (le_max r_28) (le_min v_33) (le_max v_33)) (o36_407 e_29 e_30 e_31 e_34 c_35 b_74 b_75 hn_73 (le_min x8_67) (le_max x8_67) (le_min r_28) (le_max r_28) (le_min v_33) (le_max v_33)) dX12_countsOn_69 (fun v_76 e_77 => ?_)
              refine lv_iload_n C0.1 C0.2.1 dX12_countsOn_70 rfl (lv_at hl 8 rfl) ?_
              refine y_icmp_gt (tgt := 111) C0 dX12_countsOn_71 (by decide) (fun c_78 => ?_) (fun c_78 => ?_)
              · -- 71
                refine y_inc (kp := 4) (n := 1) (fun v_79 => [(4, .int v_79), (8, .int x8_67), (7, .int v_63), (6, .int r_43), (5, .int r_28), (0, .ref (ad 0)), (1, .int a1), (2, .int a2), (3, .int a3)]) C0 hl rfl (by decide) (by decide) (fun _ => rfl) (o36_187 b_10 b_11 hn_9 e_13 c_14 (le_min x4_3) (le_max x4_3) (le_min v_12) (le_max v_12)) (o36_188 b_10 b_11 hn_9 e_13 c_14 (le_min x4_3) (le_max x4_3) (le_min v_12) (le_max v_12)) dX12_countsOn_111 (fun v_79 ls e_80 hl => ?_)
                refine lv_goto (tgt := 3) C0.1 C0.2.1 dX12_countsOn_114 (by decide) ?_
                exact ih_7 v_79 _ _ _ _ (o36_189 b_10 b_11 hn_9 e_13 c_14 e_80) (o36_190 b_10 b_11 hn_9 e_13 c_14 e_80) (o36_191 b_10 b_11 hn_9 e_13 c_14 e_80) h (Fr.tr (Fr.tr (Fr.tr (Fr.tr hF_5 (Fr.mono u_26 (by decide))) (Fr.mono u_41 (by decide))) (Fr.mono u_54 (by decide))) hF_69) (lv_sub hl [0, 5, 6, 7, 8] rfl)
              · -- 71
                refine lv_aload_n C0.1 C0.2.1 dX12_countsOn_74 rfl (lv_at hl 5 rfl) ?_
                refine ng_X12_manyThen C0 h kSM_0 q_1468 dX12_countsOn_75 ?_
                refine y_c2 (n := 41) C0 (by decide) dX12_countsOn_78 (fun v_81 e_82 => ?_)
                refine lv_iload C0.1 C0.2.1 dX12_countsOn_80 (lv_at hl 1 rfl) ?_
                refine y_cmul (n := 41) C0 (o36_408 e_82) (o36_409 e_44 e_45 e_57 e_58 g_60 e_62 e_64 (le_min v_63) (le_max v_63) (le_min r_43) (le_max r_43) (le_min r_56) (le_max r_56) (le_min v_61) (le_max v_61)) (o36_410 e_44 e_45 e_57 e_58 g_60 e_62 e_64 (le_min v_63) (le_max v_63) (le_min r_43) (le_max r_43) (le_min r_56) (le_max r_56) (le_min v_61) (le_max v_61)) dX12_countsOn_82 (fun v_83 e_84 => ?_)
                refine lv_iload C0.1 C0.2.1 dX12_countsOn_83 (lv_at hl 0 rfl) ?_
                refine y_add C0 (o36_411 l3 u3 e_29 e_30 e_31 e_34 c_35 e_44 e_45 e_57 e_58 g_60 e_62 e_64 b_74 b_75 hn_73 e_77 c_78 e_84 (le_min v_83) (le_max v_83) (le_min x8_67) (le_max x8_67) (le_min a3) (le_max a3) (le_min r_28) (le_max r_28) (le_min v_33) (le_max v_33) (le_min r_43) (le_max r_43) (le_min r_56) (le_max r_56) (le_min v_61) (le_max v_61) (le_min v_63) (le_max v_63) (le_min v_76) (le_max v_76)) (o36_412 l3 u3 e_29 e_30 e_31 e_34 c_35 e_44 e_45 e_57 e_58 g_60 e_62 e_64 b_74 b_75 hn_73 e_77 c_78 e_84 (le_min v_83) (le_max v_83) (le_min x8_67) (le_max x8_67) (le_min a3) (le_max a3) (le_min r_28) (le_max r_28) (le_min v_33) (le_max v_33) (le_min r_43) (le_max r_43) (le_min r_56) (le_max r_56) (le_min v_61) (le_max v_61) (le_min v_63) (le_max v_63) (le_min v_76) (le_max v_76)) dX12_countsOn_85 (fun v_85 e_86 => ?_)
                refine lv_iload C0.1 C0.2.1 dX12_countsOn_86 (lv_at hl 3 rfl) ?_
                refine y_add C0 (o36_413 l3 u3 e_29 e_30 e_31 e_34 c_35 e_44 e_45 e_57 e_58 g_60 e_62 e_64 b_74 b_75 hn_73 e_77 c_78 e_84 e_86 (le_min v_85) (le_max v_85) (le_min r_28) (le_max r_28) (le_min a3) (le_max a3) (le_min v_33) (le_max v_33) (le_min r_43) (le_max r_43) (le_min r_56) (le_max r_56) (le_min v_61) (le_max v_61) (le_min v_63) (le_max v_63) (le_min x8_67) (le_max x8_67) (le_min v_76) (le_max v_76) (le_min v_83) (le_max v_83)) (o36_414 l3 u3 e_29 e_30 e_31 e_34 c_35 e_44 e_45 e_57 e_58 g_60 e_62 e_64 b_74 b_75 hn_73 e_77 c_78 e_84 e_86 (le_min v_85) (le_max v_85) (le_min r_28) (le_max r_28) (le_min a3) (le_max a3) (le_min v_33) (le_max v_33) (le_min r_43) (le_max r_43) (le_min r_56) (le_max r_56) (le_min v_61) (le_max v_61) (le_min v_63) (le_max v_63) (le_min x8_67) (le_max x8_67) (le_min v_76) (le_max v_76) (le_min v_83) (le_max v_83)) dX12_countsOn_88 (fun v_87 e_88 => ?_)
                refine lv_dup2_11 C0.1 C0.2.1 dX12_countsOn_89 rfl rfl ?_
                refine y_lald C0 h kSM_15 rfl (by decide) (o36_415 l3 u3 e_29 e_30 e_31 e_34 c_35 e_44 e_45 e_57 e_58 g_60 e_62 e_64 b_74 b_75 hn_73 e_77 c_78 e_84 e_86 e_88) (o36_416 l3 u3 e_29 e_30 e_31 e_34 c_35 e_44 e_45 e_57 e_58 g_60 e_62 e_64 b_74 b_75 hn_73 e_77 c_78 e_84 e_86 e_88) dX12_countsOn_90 (fun w_89 e_90 => ?_)
                refine lv_aload_n C0.1 C0.2.1 dX12_countsOn_91 rfl (lv_at hl 5 rfl) ?_
                refine ng_X12_many C0 h kSM_0 q_1467 dX12_countsOn_92 ?_
                refine y_c2 (n := 41) C0 (by decide) dX12_countsOn_95 (fun v_91 e_92 => ?_)
                refine lv_iload_n C0.1 C0.2.1 dX12_countsOn_97 rfl (lv_at hl 7 rfl) ?_
                refine y_cmul (n := 41) C0 (o36_408 e_92) (o36_417 l2 u2 e_18 e_22 e_39 e_52 (le_min a2) (le_max a2) (le_min v_17) (le_max v_17) (le_min v_21) (le_max v_21) (le_min v_38) (le_max v_38) (le_min v_51) (le_max v_51)) (o36_418 l2 u2 e_18 e_22 e_39 e_52 (le_min a2) (le_max a2) (le_min v_17) (le_max v_17) (le_min v_21) (le_max v_21) (le_min v_38) (le_max v_38) (le_min v_51) (le_max v_51)) dX12_countsOn_98 (fun v_93 e_94 => ?_)
                refine lv_iload C0.1 C0.2.1 dX12_countsOn_99 (lv_at hl 0 rfl) ?_
                refine y_add C0 (o36_419 l2 u2 l3 u3 e_18 e_22 e_29 e_30 e_31 e_34 c_35 e_39 e_44 e_45 e_52 e_57 e_58 g_60 e_62 e_64 b_74 b_75 hn_73 e_77 c_78 e_84 e_86 e_88 e_94 (le_min v_93) (le_max v_93) (le_min x8_67) (le_max x8_67) (le_min a2) (le_max a2) (le_min a3) (le_max a3) (le_min v_17) (le_max v_17) (le_min v_21) (le_max v_21) (le_min r_28) (le_max r_28) (le_min v_33) (le_max v_33) (le_min v_38) (le_max v_38) (le_min r_43) (le_max r_43) (le_min v_51) (le_max v_51) (le_min r_56) (le_max r_56) (le_min v_61) (le_max v_61) (le_min v_63) (le_max v_63) (le_min v_76) (le_max v_76) (le_min v_83) (le_max v_83) (le_min v_85) (le_max v_85) (le_min v_87) (le_max v_87)) (o36_420 l2 u2 l3 u3 e_18 e_22 e_29 e_30 e_31 e_34 c_35 e_39 e_44 e_45 e_52 e_57 e_58 g_60 e_62 e_64 b_74 b_75 hn_73 e_77 c_78 e_84 e_86 e_88 e_94 (le_min v_93) (le_max v_93) (le_min x8_67) (le_max x8_67) (le_min a2) (le_max a2) (le_min a3) (le_max a3) (le_min v_17) (le_max v_17) (le_min v_21) (le_max v_21) (le_min r_28) (le_max r_28) (le_min v_33) (le_max v_33) (le_min v_38) (le_max v_38) (le_min r_43) (le_max r_43) (le_min v_51) (le_max v_51) (le_min r_56) (le_max r_56) (le_min v_61) (le_max v_61) (le_min v_63) (le_max v_63) (le_min v_76) (le_max v_76) (le_min v_83) (le_max v_83) (le_min v_85) (le_max v_85) (le_min v_87) (le_max v_87)) dX12_countsOn_101 (fun v_95 e_96 => ?_)
                refine y_lald C0 h kSM_14 rfl (by decide) (o36_421 l2 u2 l3 u3 e_18 e_22 e_29 e_30 e_31 e_34 c_35 e_39 e_44 e_45 e_52 e_57 e_58 g_60 e_62 e_64 b_74 b_75 hn_73 e_77 c_78 e_84 e_86 e_88 e_94 e_96) (o36_422 l2 u2 l3 u3 e_18 e_22 e_29 e_30 e_31 e_34 c_35 e_39 e_44 e_45 e_52 e_57 e_58 g_60 e_62 e_64 b_74 b_75 hn_73 e_77 c_78 e_84 e_86 e_88 e_94 e_96) dX12_countsOn_102 (fun w_97 e_98 => ?_)
                refine y_laddU C0 dX12_countsOn_103 (fun w_99 => ?_)
                refine y_last C0 h kSM_15 rfl (by decide) (o36_423 l2 u2 l3 u3 e_18 e_22 e_29 e_30 e_31 e_34 c_35 e_39 e_44 e_45 e_52 e_57 e_58 g_60 e_62 e_64 b_74 b_75 hn_73 e_77 c_78 e_84 e_86 e_88 e_94 e_96) (o36_424 l2 u2 l3 u3 e_18 e_22 e_29 e_30 e_31 e_34 c_35 e_39 e_44 e_45 e_52 e_57 e_58 g_60 e_62 e_64 b_74 b_75 hn_73 e_77 c_78 e_84 e_86 e_88 e_94 e_96) dX12_countsOn_104 (fun H locs ws_100 h u_101 => ?_)
                refine y_inc (kp := 0) (n := 1) (fun v_102 => [(8, .int v_102), (7, .int v_63), (6, .int r_43), (5, .int r_28), (4, .int x4_3), (0, .ref (ad 0)), (1, .int a1), (2, .int a2), (3, .int a3)]) C0 hl rfl (by decide) (by decide) (fun _ => rfl) (o36_425 l2 u2 l3 u3 e_18 e_22 e_29 e_30 e_31 e_34 c_35 e_39 e_44 e_45 e_52 e_57 e_58 g_60 e_62 e_64 b_74 b_75 hn_73 e_77 c_78 e_84 e_86 e_88 e_94 e_96 (le_min x8_67) (le_max x8_67) (le_min a2) (le_max a2) (le_min a3) (le_max a3) (le_min v_17) (le_max v_17) (le_min v_21) (le_max v_21) (le_min r_28) (le_max r_28) (le_min v_33) (le_max v_33) (le_min v_38) (le_max v_38) (le_min r_43) (le_max r_43) (le_min v_51) (le_max v_51) (le_min r_56) (le_max r_56) (le_min v_61) (le_max v_61) (le_min v_63) (le_max v_63) (le_min v_76) (le_max v_76) (le_min v_83) (le_max v_83) (le_min v_85) (le_max v_85) (le_min v_87) (le_max v_87) (le_min v_93) (le_max v_93) (le_min v_95) (le_max v_95)) (o36_426 l2 u2 l3 u3 e_18 e_22 e_29 e_30 e_31 e_34 c_35 e_39 e_44 e_45 e_52 e_57 e_58 g_60 e_62 e_64 b_74 b_75 hn_73 e_77 c_78 e_84 e_86 e_88 e_94 e_96 (le_min x8_67) (le_max x8_67) (le_min a2) (le_max a2) (le_min a3) (le_max a3) (le_min v_17) (le_max v_17) (le_min v_21) (le_max v_21) (le_min r_28) (le_max r_28) (le_min v_33) (le_max v_33) (le_min v_38) (le_max v_38) (le_min r_43) (le_max r_43) (le_min v_51) (le_max v_51) (le_min r_56) (le_max r_56) (le_min v_61) (le_max v_61) (le_min v_63) (le_max v_63) (le_min v_76) (le_max v_76) (le_min v_83) (le_max v_83) (le_min v_85) (le_max v_85) (le_min v_87) (le_max v_87) (le_min v_93) (le_max v_93) (le_min v_95) (le_max v_95)) dX12_countsOn_105 (fun v_102 ls e_103 hl => ?_)
                refine lv_goto (tgt := 65) C0.1 C0.2.1 dX12_countsOn_108 (by decide) ?_
                exact ih_71 v_102 _ _ _ _ (o36_427 l2 u2 l3 u3 e_18 e_22 e_29 e_30 e_31 e_34 c_35 e_39 e_44 e_45 e_52 e_57 e_58 g_60 e_62 e_64 b_74 b_75 hn_73 e_77 c_78 e_84 e_86 e_88 e_94 e_96 e_103) (o36_428 l2 u2 l3 u3 e_18 e_22 e_29 e_30 e_31 e_34 c_35 e_39 e_44 e_45 e_52 e_57 e_58 g_60 e_62 e_64 b_74 b_75 hn_73 e_77 c_78 e_84 e_86 e_88 e_94 e_96 e_103) (o36_429 l2 u2 l3 u3 e_18 e_22 e_29 e_30 e_31 e_34 c_35 e_39 e_44 e_45 e_52 e_57 e_58 g_60 e_62 e_64 b_74 b_75 hn_73 e_77 c_78 e_84 e_86 e_88 e_94 e_96 e_103) h (Fr.tr hF_69 (Fr.up u_101.1 kSM_15 (by decide))) (lv_sub hl [0, 1, 2, 3, 4, 5, 6, 7, 8] rfl)
          exact lp_70 ((41 - v_65.toInt + 1).toNat) v_65 _ _ _ _ (o36_430 e_66) (o36_61 e_66) (o36_431 e_66) h Fr.rf (lv_sub hl [0, 1, 2, 3, 4, 5, 6, 7, 8] rfl)
        · -- 30
          refine lv_goto (tgt := 111) C0.1 C0.2.1 dX12_countsOn_33 (by decide) ?_
          refine y_inc (kp := 1) (n := 1) (fun v_104 => [(4, .int v_104), (5, .int r_28), (0, .ref (ad 0)), (1, .int a1), (2, .int a2), (3, .int a3)]) C0 hl rfl (by decide) (by decide) (fun _ => rfl) (o36_187 b_10 b_11 hn_9 e_13 c_14 (le_min x4_3) (le_max x4_3) (le_min v_12) (le_max v_12)) (o36_188 b_10 b_11 hn_9 e_13 c_14 (le_min x4_3) (le_max x4_3) (le_min v_12) (le_max v_12)) dX12_countsOn_111 (fun v_104 ls e_105 hl => ?_)
          refine lv_goto (tgt := 3) C0.1 C0.2.1 dX12_countsOn_114 (by decide) ?_
          exact ih_7 v_104 _ _ _ _ (o36_189 b_10 b_11 hn_9 e_13 c_14 e_105) (o36_190 b_10 b_11 hn_9 e_13 c_14 e_105) (o36_191 b_10 b_11 hn_9 e_13 c_14 e_105) h (Fr.tr hF_5 (Fr.mono u_26 (by decide))) (lv_sub hl [0, 2, 3, 4, 5] rfl)
  exact lp_6 ((4 - v_1.toInt + 1).toNat) v_1 _ _ _ _ (o36_60 e_2) (o36_61 e_2) (o36_62 e_2) h Fr.rf (lv_sub hl [0, 1, 2, 3, 4] rfl)
set_option maxHeartbeats 4000000 in
set_option maxRecDepth 100000 in
theorem c_X12_ways (l : Launch) (G : GG) (Z : RZ) (ad : Nat → Nat) (ws0 : va_W) (hT : Ty G (SM tt) ad ws0) (a1 : Int32) (a2 : Int32) (a3 : Int32) (a4 : Int32) (hJ : J ws0) : Mq l yX12_ways cX12_ways 9 (some .long) 6 G Z [.ref (ad 0), .int a1, .int a2, .int a3, .int a4] ws0 (PL G (SM tt) ad [0, 5, 10, 11, 12, 14, 15] ws0 (fun r u => True)) := by
  refine Mq.start (by decide) (Nat.le_of_ble_eq_true rfl) ?_
  intro p e s m below meth c A ls C0 hZ h hl
  have hl : lv_has ls 9 [(0, .ref (ad 0)), (1, .int a1), (2, .int a2), (3, .int a3), (4, .int a4)] := hl
  have h : Wt G (SM tt) ad A s s.heap [] ws0 := ⟨h, hT⟩
  obtain ⟨args, hargs⟩ : ∃ z, z = ([.ref (ad 0), .int a1, .int a2, .int a3, .int a4] : List Value).toArray := ⟨_, rfl⟩
  rw [← hargs] at C0 ⊢
  have C0 : Cx p s m args meth c RX12 cX12_ways 9 (some .long) := C0
  obtain ⟨Q, hQ⟩ : ∃ z, z = MQ below ((PL G (SM tt) ad [0, 5, 10, 11, 12, 14, 15] ws0 (fun r u => True)) A) args s 0 0 A := ⟨_, rfl⟩
  rw [← hQ]
  refine lv_aload_n C0.1 C0.2.1 dX12_ways_0 rfl (lv_at hl 0 rfl) ?_
  refine y_c1 (n := 0) C0 (by decide) dX12_ways_1 (fun v_1 e_2 => ?_)
  refine np_X12_thrown C0 h kSM_0 q_1438 (le_min v_1) (le_max v_1) dX12_ways_2 (fun H locs ws_3 h u_4 => ?_)
  refine lv_aload_n C0.1 C0.2.1 dX12_ways_5 rfl (lv_at hl 0 rfl) ?_
  refine lv_iload_n C0.1 C0.2.1 dX12_ways_6 rfl (lv_at hl 1 rfl) ?_
  refine lv_iload_n C0.1 C0.2.1 dX12_ways_7 rfl (lv_at hl 2 rfl) ?_
  refine y_ci h (y_rV (As := [.int a1, .int a2]) (rest := []) C0 hZ h (c_X12_areThere l G Z ad _ h.2 a1 a2 (J.pa hT hJ (Pa.ud u_4.1 (by decide)))) k_X12_areThere q_1868 q_99 q_1866 kSM_0 rfl rfl rfl hl.1 rfl rfl (Nat.le_of_ble_eq_true rfl) dX12_ways_8 ⟨Nat.le_of_ble_eq_true rfl, Nat.le_of_ble_eq_true rfl⟩ ⟨Nat.le_of_ble_eq_true rfl, Nat.le_of_ble_eq_true rfl⟩) (fun r_8 H locs ws_5 h u_6 p_7 => ?_)
  obtain ⟨e_9, e_10, e_11, e_12⟩ := p_7
  refine y_if_ne (tgt := 18) C0 dX12_ways_11 (by decide) (fun c_13 => ?_) (fun c_13 => ?_)
  · -- 11
    refine lv_iload_n C0.1 C0.2.1 dX12_ways_18 rfl (lv_at hl 3 rfl) ?_
    refine y_i2l C0 dX12_ways_19 (fun w_14 e_15 => ?_)
    refine y_lc (v := 0) C0 (by decide) dX12_ways_20 (fun w_16 e_17 => ?_)
    refine y_lc2 (n := 20) C0 q_1666 (by decide) dX12_ways_21 (fun w_18 e_19 => ?_)
    refine y_ci h (y_rS (As := [.long w_14, .long w_16, .long w_18]) (rest := []) C0 hZ h (c_X12_within l G Z ad _ h.2 w_14 w_16 w_18) k_X12_within q_1580 q_1579 hl.1 rfl rfl (Nat.le_of_ble_eq_true rfl) dX12_ways_24 ⟨Nat.le_of_ble_eq_true rfl, Nat.le_of_ble_eq_true rfl⟩ ⟨Nat.le_of_ble_eq_true rfl, Nat.le_of_ble_eq_true rfl⟩) (fun r_23 H locs ws_20 h u_21 p_22 => ?_)
    obtain ⟨e_24, e_25, e_26⟩ := p_22
    refine y_if_eq (tgt := 43) C0 dX12_ways_27 (by decide) (fun c_27 => ?_) (fun c_27 => ?_)
    · -- 27
      refine y_lc2 (n := (-3)) C0 q_1941 (by decide) dX12_ways_43 (fun w_28 e_29 => ?_)
      rw [hQ]
      exact y_lret C0 h (Fr.tr (Fr.tr (Fr.up u_4.1 kSM_0 (by decide)) (Fr.mono u_6 (by decide))) (Fr.mono u_21 (by decide))) trivial dX12_ways_46
    · -- 27
      refine lv_iload C0.1 C0.2.1 dX12_ways_30 (lv_at hl 4 rfl) ?_
      refine y_i2l C0 dX12_ways_32 (fun w_30 e_31 => ?_)
      refine y_lc (v := 0) C0 (by decide) dX12_ways_33 (fun w_32 e_33 => ?_)
      refine y_lc2 (n := 40) C0 q_1940 (by decide) dX12_ways_34 (fun w_34 e_35 => ?_)
      refine y_ci h (y_rS (As := [.long w_30, .long w_32, .long w_34]) (rest := []) C0 hZ h (c_X12_within l G Z ad _ h.2 w_30 w_32 w_34) k_X12_within q_1580 q_1579 hl.1 rfl rfl (Nat.le_of_ble_eq_true rfl) dX12_ways_37 ⟨Nat.le_of_ble_eq_true rfl, Nat.le_of_ble_eq_true rfl⟩ ⟨Nat.le_of_ble_eq_true rfl, Nat.le_of_ble_eq_true rfl⟩) (fun r_39 H locs ws_36 h u_37 p_38 => ?_)
      obtain ⟨e_40, e_41, e_42⟩ := p_38
      refine y_if_ne (tgt := 47) C0 dX12_ways_40 (by decide) (fun c_43 => ?_) (fun c_43 => ?_)
      · -- 40
        refine lv_aload_n C0.1 C0.2.1 dX12_ways_47 rfl (lv_at hl 0 rfl) ?_
        refine y_c1 (n := 0) C0 (by decide) dX12_ways_48 (fun v_44 e_45 => ?_)
        refine np_X12_from0 C0 h kSM_0 q_1464 (le_min v_44) (le_max v_44) dX12_ways_49 (fun H locs ws_46 h u_47 => ?_)
        refine lv_aload_n C0.1 C0.2.1 dX12_ways_52 rfl (lv_at hl 0 rfl) ?_
        refine lv_iload_n C0.1 C0.2.1 dX12_ways_53 rfl (lv_at hl 3 rfl) ?_
        refine y_cv h (y_rV (As := [.int a3]) (rest := []) C0 hZ h (c_X12_laysLaws l G Z ad _ h.2 a3 (o36_432 e_15 e_17 e_19 e_24 e_25 e_26 c_27) (o36_433 e_15 e_17 e_19 e_24 e_25 e_26 c_27) (J.pa hT hJ (Pa.tr (Pa.tr (Pa.tr (Pa.tr (Pa.ud u_4.1 (by decide)) (Pa.fr u_6 (by decide))) (Pa.fr u_21 (by decide))) (Pa.fr u_37 (by decide))) (Pa.ud u_47.1 (by decide)))) (Laid.pa (Or.resolve_left e_12 (o36_347 e_9 e_10 e_11 c_13)) (Pa.tr (Pa.tr (Pa.tr (Pa.fr u_6 (by decide)) (Pa.fr u_21 (by decide))) (Pa.fr u_37 (by decide))) (Pa.ud u_47.1 (by decide))))) k_X12_laysLaws q_1881 q_102 q_1879 kSM_0 rfl rfl rfl hl.1 rfl rfl (Nat.le_of_ble_eq_true rfl) dX12_ways_54 ⟨Nat.le_of_ble_eq_true rfl, Nat.le_of_ble_eq_true rfl⟩ ⟨Nat.le_of_ble_eq_true rfl, Nat.le_of_ble_eq_true rfl⟩) (fun H locs ws_48 h u_49 p_50 => ?_)
        refine y_c1 (n := 0) C0 (by decide) dX12_ways_57 (fun v_51 e_52 => ?_)
        refine lv_istore (lv' := [(5, .int v_51), (0, .ref (ad 0)), (1, .int a1), (2, .int a2), (3, .int a3), (4, .int a4)]) C0.1 C0.2.1 dX12_ways_58 hl (by decide) rfl (fun ls hl => ?_)
        have lp_56 : ∀ (n_58 : Nat) (x5_53 : Int32) (H : Heap) (locs : List Loc) (ls : Array Slot) (ws_54 : va_W), 4100 - x5_53.toInt < (n_58 : Int) → 0 ≤ x5_53.toInt → x5_53.toInt ≤ 4100 → Wt G (SM tt) ad A s H locs ws_54 → Fr (SM tt) [14] ws_48 ws_54 → lv_has ls 9 [(5, .int x5_53), (0, .ref (ad 0)), (1, .int a1), (2, .int a2), (3, .int a3), (4, .int a4)] → W p l e (rmd 6 0 0) s m args below meth c H locs 0 0 Q (F0 m 60 ls []) := by
          intro n_58
          induction n_58 with
          | zero => intro x5_53 H locs ls ws_54 hn_59 b_60 b_61 h hF_55 hl; exact ((o36_434 b_60 b_61 hn_59)).elim
          | succ n_58 ih_57 =>
            intro x5_53 H locs ls ws_54 hn_59 b_60 b_61 h hF_55 hl
            refine lv_iload C0.1 C0.2.1 dX12_ways_60 (lv_at hl 0 rfl) ?_
            refine y_c3 (n := 4100) C0 (by decide) dX12_ways_62 (fun v_62 e_63 => ?_)
            refine y_icmp_ge (tgt := 82) C0 dX12_ways_65 (by decide) (fun c_64 => ?_) (fun c_64 => ?_)
            · -- 65
              refine lv_aload_n C0.1 C0.2.1 dX12_ways_82 rfl (lv_at hl 1 rfl) ?_
              refine ng_X12_many C0 h kSM_0 q_1467 dX12_ways_83 ?_
              refine y_c2 (n := 41) C0 (by decide) dX12_ways_86 (fun v_65 e_66 => ?_)
              refine y_c1 (n := 4) C0 (by decide) dX12_ways_88 (fun v_67 e_68 => ?_)
              refine lv_aload_n C0.1 C0.2.1 dX12_ways_89 rfl (lv_at hl 1 rfl) ?_
              refine ng_X12_all C0 h kSM_0 q_1439 dX12_ways_90 ?_
              refine y_c2 (n := 36) C0 (by decide) dX12_ways_93 (fun v_69 e_70 => ?_)
              refine lv_iload_n C0.1 C0.2.1 dX12_ways_95 rfl (lv_at hl 2 rfl) ?_
              refine y_add C0 (o36_435 e_9 e_10 e_11 c_13 e_70 (le_min v_69) (le_max v_69) (le_min a1) (le_max a1) (le_min r_8) (le_max r_8) (le_min a2) (le_max a2)) (o36_436 e_9 e_10 e_11 c_13 e_70 (le_min v_69) (le_max v_69) (le_min a1) (le_max a1) (le_min r_8) (le_max r_8) (le_min a2) (le_max a2)) dX12_ways_96 (fun v_71 e_72 => ?_)
              refine y_iald C0 h kSM_1 rfl (by decide) (o36_437 e_9 e_10 e_11 c_13 e_70 e_72) (o36_438 e_9 e_10 e_11 c_13 e_70 e_72) dX12_ways_97 (fun v_73 e_74 e_75 e_76 => ?_)
              have f_77 := o36_312 v_71.toInt.toNat (o36_439 e_9 e_10 e_11 c_13 e_70 e_72) (o36_440 e_9 e_10 e_11 c_13 e_70 e_72)
              refine y_cmul (n := 4) C0 (o36_28 e_68) (o36_81 (Int.le_trans f_77.1 e_75) (Int.le_trans e_76 f_77.2) (le_min v_73) (le_max v_73)) (o36_82 (Int.le_trans f_77.1 e_75) (Int.le_trans e_76 f_77.2) (le_min v_73) (le_max v_73)) dX12_ways_98 (fun v_78 e_79 => ?_)
              refine lv_aload_n C0.1 C0.2.1 dX12_ways_99 rfl (lv_at hl 1 rfl) ?_
              refine ng_X12_all C0 h kSM_0 q_1439 dX12_ways_100 ?_
              refine y_c2 (n := 41) C0 (by decide) dX12_ways_103 (fun v_80 e_81 => ?_)
              refine lv_iload_n C0.1 C0.2.1 dX12_ways_105 rfl (lv_at hl 2 rfl) ?_
              refine y_add C0 (o36_441 e_9 e_10 e_11 c_13 e_70 e_72 e_81 (le_min v_80) (le_max v_80) (le_min a1) (le_max a1) (le_min r_8) (le_max r_8) (le_min a2) (le_max a2) (le_min v_69) (le_max v_69) (le_min v_71) (le_max v_71)) (o36_442 e_9 e_10 e_11 c_13 e_70 e_72 e_81 (le_min v_80) (le_max v_80) (le_min a1) (le_max a1) (le_min r_8) (le_max r_8) (le_min a2) (le_max a2) (le_min v_69) (le_max v_69) (le_min v_71) (le_max v_71)) dX12_ways_106 (fun v_82 e_83 => ?_)
              refine y_iald C0 h kSM_1 rfl (by decide) (o36_443 e_9 e_10 e_11 c_13 e_70 e_72 e_81 e_83) (o36_444 e_9 e_10 e_11 c_13 e_70 e_72 e_81 e_83) dX12_ways_107 (fun v_84 e_85 e_86 e_87 => ?_)
              have f_88 := o36_319 v_82.toInt.toNat (o36_445 e_9 e_10 e_11 c_13 e_70 e_72 e_81 e_83) (o36_446 e_9 e_10 e_11 c_13 e_70 e_72 e_81 e_83)
              refine y_add C0 (o36_447 (Int.le_trans f_77.1 e_75) (Int.le_trans e_76 f_77.2) e_79 (Int.le_trans f_88.1 e_86) (Int.le_trans e_87 f_88.2) (le_min v_78) (le_max v_78) (le_min v_84) (le_max v_84) (le_min v_73) (le_max v_73)) (o36_448 (Int.le_trans f_77.1 e_75) (Int.le_trans e_76 f_77.2) e_79 (Int.le_trans f_88.1 e_86) (Int.le_trans e_87 f_88.2) (le_min v_78) (le_max v_78) (le_min v_84) (le_max v_84) (le_min v_73) (le_max v_73)) dX12_ways_108 (fun v_89 e_90 => ?_)
              refine y_cmul (n := 41) C0 (o36_408 e_66) (o36_449 (Int.le_trans f_77.1 e_75) (Int.le_trans e_76 f_77.2) e_79 (Int.le_trans f_88.1 e_86) (Int.le_trans e_87 f_88.2) e_90 (le_min v_89) (le_max v_89) (le_min v_73) (le_max v_73) (le_min v_78) (le_max v_78) (le_min v_84) (le_max v_84)) (o36_450 (Int.le_trans f_77.1 e_75) (Int.le_trans e_76 f_77.2) e_79 (Int.le_trans f_88.1 e_86) (Int.le_trans e_87 f_88.2) e_90 (le_min v_89) (le_max v_89) (le_min v_73) (le_max v_73) (le_min v_78) (le_max v_78) (le_min v_84) (le_max v_84)) dX12_ways_109 (fun v_91 e_92 => ?_)
              refine y_lc (v := 1) C0 (by decide) dX12_ways_110 (fun w_93 e_94 => ?_)
              refine y_last C0 h kSM_14 rfl (by decide) (o36_451 (Int.le_trans f_77.1 e_75) (Int.le_trans e_76 f_77.2) e_79 (Int.le_trans f_88.1 e_86) (Int.le_trans e_87 f_88.2) e_90 e_92) (o36_452 (Int.le_trans f_77.1 e_75) (Int.le_trans e_76 f_77.2) e_79 (Int.le_trans f_88.1 e_86) (Int.le_trans e_87 f_88.2) e_90 e_92) dX12_ways_111 (fun H locs ws_95 h u_96 => ?_)
              refine y_c1 (n := 0) C0 (by decide) dX12_ways_112 (fun v_97 e_98 => ?_)
              refine lv_istore (lv' := [(5, .int v_97), (0, .ref (ad 0)), (1, .int a1), (2, .int a2), (3, .int a3), (4, .int a4)]) C0.1 C0.2.1 dX12_ways_113 hl (by decide) rfl (fun ls hl => ?_)
              have lp_102 : ∀ (n_104 : Nat) (x5_99 : Int32) (H : Heap) (locs : List Loc) (ls : Array Slot) (ws_100 : va_W), 20 - x5_99.toInt < (n_104 : Int) → 0 ≤ x5_99.toInt → x5_99.toInt ≤ 20 → Wt G (SM tt) ad A s H locs ws_100 → Fr (SM tt) [14, 15] ws_95 ws_100 → lv_has ls 9 [(5, .int x5_99), (0, .ref (ad 0)), (1, .int a1), (2, .int a2), (3, .int a3), (4, .int a4)] → W p l e (rmd 6 0 0) s m args below meth c H locs 0 0 Q (F0 m 115 ls []) := by
                intro n_104
                induction n_104 with
                | zero => intro x5_99 H locs ls ws_100 hn_105 b_106 b_107 h hF_101 hl; exact ((o36_453 b_106 b_107 hn_105)).elim
                | succ n_104 ih_103 =>
                  intro x5_99 H locs ls ws_100 hn_105 b_106 b_107 h hF_101 hl
                  refine lv_iload C0.1 C0.2.1 dX12_ways_115 (lv_at hl 0 rfl) ?_
                  refine lv_iload_n C0.1 C0.2.1 dX12_ways_117 rfl (lv_at hl 4 rfl) ?_
                  refine y_icmp_ge (tgt := 213) C0 dX12_ways_118 (by decide) (fun c_108 => ?_) (fun c_108 => ?_)
                  · -- 118
                    refine y_lc (v := 0) C0 (by decide) dX12_ways_213 (fun w_109 e_110 => ?_)
                    refine lv_lstore (lv' := [(5, .long w_109), (0, .ref (ad 0)), (1, .int a1), (2, .int a2), (3, .int a3), (4, .int a4)]) C0.1 C0.2.1 dX12_ways_214 hl (by decide) rfl (fun ls hl => ?_)
                    refine y_c1 (n := 0) C0 (by decide) dX12_ways_216 (fun v_111 e_112 => ?_)
                    refine lv_istore (lv' := [(7, .int v_111), (5, .long w_109), (0, .ref (ad 0)), (1, .int a1), (2, .int a2), (3, .int a3), (4, .int a4)]) C0.1 C0.2.1 dX12_ways_217 hl (by decide) rfl (fun ls hl => ?_)
                    have lp_117 : ∀ (n_119 : Nat) (x7_113 : Int32) (x5_114 : Int64) (H : Heap) (locs : List Loc) (ls : Array Slot) (ws_115 : va_W), 4 - x7_113.toInt < (n_119 : Int) → 0 ≤ x7_113.toInt → x7_113.toInt ≤ 4 → Wt G (SM tt) ad A s H locs ws_115 → Fr (SM tt) [] ws_100 ws_115 → lv_has ls 9 [(7, .int x7_113), (5, .long x5_114), (0, .ref (ad 0)), (1, .int a1), (2, .int a2), (3, .int a3), (4, .int a4)] → W p l e (rmd 6 0 0) s m args below meth c H locs 0 0 Q (F0 m 219 ls []) := by
                      intro n_119
                      induction n_119 with
                      | zero => intro x7_113 x5_114 H locs ls ws_115 hn_120 b_121 b_122 h hF_116 hl; exact ((o36_19 b_121 b_122 hn_120)).elim
                      | succ n_119 ih_118 =>
                        intro x7_113 x5_114 H locs ls ws_115 hn_120 b_121 b_122 h hF_116 hl
                        refine lv_iload C0.1 C0.2.1 dX12_ways_219 (lv_at hl 0 rfl) ?_
                        refine y_c1 (n := 4) C0 (by decide) dX12_ways_221 (fun v_123 e_124 => ?_)
                        refine y_icmp_ge (tgt := 269) C0 dX12_ways_222 (by decide) (fun c_125 => ?_) (fun c_125 => ?_)
                        · -- 222
                          refine lv_lload C0.1 C0.2.1 dX12_ways_269 (lv_at hl 1 rfl) ?_
                          rw [hQ]
                          exact y_lret C0 h (Fr.tr (Fr.tr (Fr.tr (Fr.tr (Fr.tr (Fr.tr (Fr.tr (Fr.tr (Fr.tr (Fr.up u_4.1 kSM_0 (by decide)) (Fr.mono u_6 (by decide))) (Fr.mono u_21 (by decide))) (Fr.mono u_37 (by decide))) (Fr.up u_47.1 kSM_0 (by decide))) (Fr.mono u_49 (by decide))) (Fr.mono hF_55 (by decide))) (Fr.up u_96.1 kSM_14 (by decide))) (Fr.mono hF_101 (by decide))) (Fr.mono hF_116 (by decide))) trivial dX12_ways_271
                        · -- 222
                          refine y_c1 (n := 0) C0 (by decide) dX12_ways_225 (fun v_126 e_127 => ?_)
                          refine lv_istore (lv' := [(8, .int v_126), (7, .int x7_113), (5, .long x5_114), (0, .ref (ad 0)), (1, .int a1), (2, .int a2), (3, .int a3), (4, .int a4)]) C0.1 C0.2.1 dX12_ways_226 hl (by decide) rfl (fun ls hl => ?_)
                          have lp_132 : ∀ (n_134 : Nat) (x8_128 : Int32) (x5_129 : Int64) (H : Heap) (locs : List Loc) (ls : Array Slot) (ws_130 : va_W), 41 - x8_128.toInt < (n_134 : Int) → 0 ≤ x8_128.toInt → x8_128.toInt ≤ 41 → Wt G (SM tt) ad A s H locs ws_130 → Fr (SM tt) [] ws_115 ws_130 → lv_has ls 9 [(8, .int x8_128), (7, .int x7_113), (5, .long x5_129), (0, .ref (ad 0)), (1, .int a1), (2, .int a2), (3, .int a3), (4, .int a4)] → W p l e (rmd 6 0 0) s m args below meth c H locs 0 0 Q (F0 m 228 ls []) := by
                            intro n_134
                            induction n_134 with
                            | zero => intro x8_128 x5_129 H locs ls ws_130 hn_135 b_136 b_137 h hF_131 hl; exact ((o36_405 b_136 b_137 hn_135)).elim
                            | succ n_134 ih_133 =>
                              intro x8_128 x5_129 H locs ls ws_130 hn_135 b_136 b_137 h hF_131 hl
                              refine lv_iload C0.1 C0.2.1 dX12_ways_228 (lv_at hl 0 rfl) ?_
                              refine lv_iload C0.1 C0.2.1 dX12_ways_230 (lv_at hl 7 rfl) ?_
                              refine y_icmp_gt (tgt := 263) C0 dX12_ways_232 (by decide) (fun c_138 => ?_) (fun c_138 => ?_)
                              · -- 232
                                refine y_inc (kp := 1) (n := 1) (fun v_139 => [(7, .int v_139), (8, .int x8_128), (5, .long x5_129), (0, .ref (ad 0)), (1, .int a1), (2, .int a2), (3, .int a3), (4, .int a4)]) C0 hl rfl (by decide) (by decide) (fun _ => rfl) (o36_187 b_121 b_122 hn_120 e_124 c_125 (le_min x7_113) (le_max x7_113) (le_min v_123) (le_max v_123)) (o36_188 b_121 b_122 hn_120 e_124 c_125 (le_min x7_113) (le_max x7_113) (le_min v_123) (le_max v_123)) dX12_ways_263 (fun v_139 ls e_140 hl => ?_)
                                refine lv_goto (tgt := 219) C0.1 C0.2.1 dX12_ways_266 (by decide) ?_
                                exact ih_118 v_139 x5_129 _ _ _ _ (o36_189 b_121 b_122 hn_120 e_124 c_125 e_140) (o36_190 b_121 b_122 hn_120 e_124 c_125 e_140) (o36_191 b_121 b_122 hn_120 e_124 c_125 e_140) h (Fr.tr hF_116 hF_131) (lv_sub hl [0, 2, 3, 4, 5, 6, 7] rfl)
                              · -- 232
                                refine lv_lload C0.1 C0.2.1 dX12_ways_235 (lv_at hl 2 rfl) ?_
                                refine lv_aload_n C0.1 C0.2.1 dX12_ways_237 rfl (lv_at hl 3 rfl) ?_
                                refine ng_X12_many C0 h kSM_0 q_1467 dX12_ways_238 ?_
                                refine y_c2 (n := 41) C0 (by decide) dX12_ways_241 (fun v_141 e_142 => ?_)
                                refine y_c1 (n := 4) C0 (by decide) dX12_ways_243 (fun v_143 e_144 => ?_)
                                refine lv_iload_n C0.1 C0.2.1 dX12_ways_244 rfl (lv_at hl 5 rfl) ?_
                                refine y_cmul (n := 4) C0 (o36_28 e_144) (o36_454 e_9 e_10 e_11 c_13 e_70 e_72 e_81 e_83 (le_min a2) (le_max a2) (le_min r_8) (le_max r_8) (le_min a1) (le_max a1) (le_min v_69) (le_max v_69) (le_min v_71) (le_max v_71) (le_min v_80) (le_max v_80) (le_min v_82) (le_max v_82)) (o36_455 e_9 e_10 e_11 c_13 e_70 e_72 e_81 e_83 (le_min a2) (le_max a2) (le_min r_8) (le_max r_8) (le_min a1) (le_max a1) (le_min v_69) (le_max v_69) (le_min v_71) (le_max v_71) (le_min v_80) (le_max v_80) (le_min v_82) (le_max v_82)) dX12_ways_245 (fun v_145 e_146 => ?_)
                                refine lv_iload C0.1 C0.2.1 dX12_ways_246 (lv_at hl 1 rfl) ?_
                                refine y_add C0 (o36_456 e_9 e_10 e_11 c_13 e_70 e_72 e_81 e_83 b_121 b_122 hn_120 e_124 c_125 e_146 (le_min v_145) (le_max v_145) (le_min x7_113) (le_max x7_113) (le_min r_8) (le_max r_8) (le_min a1) (le_max a1) (le_min a2) (le_max a2) (le_min v_69) (le_max v_69) (le_min v_71) (le_max v_71) (le_min v_80) (le_max v_80) (le_min v_82) (le_max v_82) (le_min v_123) (le_max v_123)) (o36_457 e_9 e_10 e_11 c_13 e_70 e_72 e_81 e_83 b_121 b_122 hn_120 e_124 c_125 e_146 (le_min v_145) (le_max v_145) (le_min x7_113) (le_max x7_113) (le_min r_8) (le_max r_8) (le_min a1) (le_max a1) (le_min a2) (le_max a2) (le_min v_69) (le_max v_69) (le_min v_71) (le_max v_71) (le_min v_80) (le_max v_80) (le_min v_82) (le_max v_82) (le_min v_123) (le_max v_123)) dX12_ways_248 (fun v_147 e_148 => ?_)
                                refine y_cmul (n := 41) C0 (o36_408 e_142) (o36_458 e_9 e_10 e_11 c_13 e_70 e_72 e_81 e_83 b_121 b_122 hn_120 e_124 c_125 e_146 e_148 (le_min v_147) (le_max v_147) (le_min r_8) (le_max r_8) (le_min a1) (le_max a1) (le_min a2) (le_max a2) (le_min v_69) (le_max v_69) (le_min v_71) (le_max v_71) (le_min v_80) (le_max v_80) (le_min v_82) (le_max v_82) (le_min x7_113) (le_max x7_113) (le_min v_123) (le_max v_123) (le_min v_145) (le_max v_145)) (o36_459 e_9 e_10 e_11 c_13 e_70 e_72 e_81 e_83 b_121 b_122 hn_120 e_124 c_125 e_146 e_148 (le_min v_147) (le_max v_147) (le_min r_8) (le_max r_8) (le_min a1) (le_max a1) (le_min a2) (le_max a2) (le_min v_69) (le_max v_69) (le_min v_71) (le_max v_71) (le_min v_80) (le_max v_80) (le_min v_82) (le_max v_82) (le_min x7_113) (le_max x7_113) (le_min v_123) (le_max v_123) (le_min v_145) (le_max v_145)) dX12_ways_249 (fun v_149 e_150 => ?_)
                                refine lv_iload C0.1 C0.2.1 dX12_ways_250 (lv_at hl 0 rfl) ?_
                                refine y_add C0 (o36_460 e_9 e_10 e_11 c_13 e_31 e_33 e_35 e_40 e_41 e_42 c_43 e_70 e_72 e_81 e_83 b_121 b_122 hn_120 e_124 c_125 b_136 b_137 hn_135 c_138 e_146 e_148 e_150 (le_min v_149) (le_max v_149) (le_min x8_128) (le_max x8_128) (le_min r_8) (le_max r_8) (le_min a1) (le_max a1) (le_min a2) (le_max a2) (le_min a4) (le_max a4) (le_min r_39) (le_max r_39) (le_min v_69) (le_max v_69) (le_min v_71) (le_max v_71) (le_min v_80) (le_max v_80) (le_min v_82) (le_max v_82) (le_min x7_113) (le_max x7_113) (le_min v_123) (le_max v_123) (le_min v_145) (le_max v_145) (le_min v_147) (le_max v_147)) (o36_461 e_9 e_10 e_11 c_13 e_31 e_33 e_35 e_40 e_41 e_42 c_43 e_70 e_72 e_81 e_83 b_121 b_122 hn_120 e_124 c_125 b_136 b_137 hn_135 c_138 e_146 e_148 e_150 (le_min v_149) (le_max v_149) (le_min x8_128) (le_max x8_128) (le_min r_8) (le_max r_8) (le_min a1) (le_max a1) (le_min a2) (le_max a2) (le_min a4) (le_max a4) (le_min r_39) (le_max r_39) (le_min v_69) (le_max v_69) (le_min v_71) (le_max v_71) (le_min v_80) (le_max v_80) (le_min v_82) (le_max v_82) (le_min x7_113) (le_max x7_113) (le_min v_123) (le_max v_123) (le_min v_145) (le_max v_145) (le_min v_147) (le_max v_147)) dX12_ways_252 (fun v_151 e_152 => ?_)
                                refine y_lald C0 h kSM_14 rfl (by decide) (o36_462 e_9 e_10 e_11 c_13 e_31 e_33 e_35 e_40 e_41 e_42 c_43 e_70 e_72 e_81 e_83 b_121 b_122 hn_120 e_124 c_125 b_136 b_137 hn_135 c_138 e_146 e_148 e_150 e_152) (o36_463 e_9 e_10 e_11 c_13 e_31 e_33 e_35 e_40 e_41 e_42 c_43 e_70 e_72 e_81 e_83 b_121 b_122 hn_120 e_124 c_125 b_136 b_137 hn_135 c_138 e_146 e_148 e_150 e_152) dX12_ways_253 (fun w_153 e_154 => ?_)
                                refine y_laddU C0 dX12_ways_254 (fun w_155 => ?_)
                                refine lv_lstore (lv' := [(5, .long w_155), (8, .int x8_128), (7, .int x7_113), (0, .ref (ad 0)), (1, .int a1), (2, .int a2), (3, .int a3), (4, .int a4)]) C0.1 C0.2.1 dX12_ways_255 hl (by decide) rfl (fun ls hl => ?_)
                                refine y_inc (kp := 1) (n := 1) (fun v_156 => [(8, .int v_156), (5, .long w_155), (7, .int x7_113), (0, .ref (ad 0)), (1, .int a1), (2, .int a2), (3, .int a3), (4, .int a4)]) C0 hl rfl (by decide) (by decide) (fun _ => rfl) (o36_464 e_9 e_10 e_11 c_13 e_31 e_33 e_35 e_40 e_41 e_42 c_43 e_70 e_72 e_81 e_83 b_121 b_122 hn_120 e_124 c_125 b_136 b_137 hn_135 c_138 e_146 e_148 e_150 e_152 (le_min x8_128) (le_max x8_128) (le_min r_8) (le_max r_8) (le_min a1) (le_max a1) (le_min a2) (le_max a2) (le_min a4) (le_max a4) (le_min r_39) (le_max r_39) (le_min v_69) (le_max v_69) (le_min v_71) (le_max v_71) (le_min v_80) (le_max v_80) (le_min v_82) (le_max v_82) (le_min x7_113) (le_max x7_113) (le_min v_123) (le_max v_123) (le_min v_145) (le_max v_145) (le_min v_147) (le_max v_147) (le_min v_149) (le_max v_149) (le_min v_151) (le_max v_151)) (o36_465 e_9 e_10 e_11 c_13 e_31 e_33 e_35 e_40 e_41 e_42 c_43 e_70 e_72 e_81 e_83 b_121 b_122 hn_120 e_124 c_125 b_136 b_137 hn_135 c_138 e_146 e_148 e_150 e_152 (le_min x8_128) (le_max x8_128) (le_min r_8) (le_max r_8) (le_min a1) (le_max a1) (le_min a2) (le_max a2) (le_min a4) (le_max a4) (le_min r_39) (le_max r_39) (le_min v_69) (le_max v_69) (le_min v_71) (le_max v_71) (le_min v_80) (le_max v_80) (le_min v_82) (le_max v_82) (le_min x7_113) (le_max x7_113) (le_min v_123) (le_max v_123) (le_min v_145) (le_max v_145) (le_min v_147) (le_max v_147) (le_min v_149) (le_max v_149) (le_min v_151) (le_max v_151)) dX12_ways_257 (fun v_156 ls e_157 hl => ?_)
                                refine lv_goto (tgt := 228) C0.1 C0.2.1 dX12_ways_260 (by decide) ?_
                                exact ih_133 v_156 w_155 _ _ _ _ (o36_466 e_9 e_10 e_11 c_13 e_31 e_33 e_35 e_40 e_41 e_42 c_43 e_70 e_72 e_81 e_83 b_121 b_122 hn_120 e_124 c_125 b_136 b_137 hn_135 c_138 e_146 e_148 e_150 e_152 e_157) (o36_467 e_9 e_10 e_11 c_13 e_31 e_33 e_35 e_40 e_41 e_42 c_43 e_70 e_72 e_81 e_83 b_121 b_122 hn_120 e_124 c_125 b_136 b_137 hn_135 c_138 e_146 e_148 e_150 e_152 e_157) (o36_468 e_9 e_10 e_11 c_13 e_31 e_33 e_35 e_40 e_41 e_42 c_43 e_70 e_72 e_81 e_83 b_121 b_122 hn_120 e_124 c_125 b_136 b_137 hn_135 c_138 e_146 e_148 e_150 e_152 e_157) h hF_131 (lv_sub hl [0, 2, 1, 3, 4, 5, 6, 7] rfl)
                          exact lp_132 ((41 - v_126.toInt + 1).toNat) v_126 x5_114 _ _ _ _ (o36_430 e_127) (o36_61 e_127) (o36_431 e_127) h Fr.rf (lv_sub hl [0, 1, 2, 3, 4, 5, 6, 7] rfl)
                    exact lp_117 ((4 - v_111.toInt + 1).toNat) v_111 w_109 _ _ _ _ (o36_60 e_112) (o36_61 e_112) (o36_62 e_112) h Fr.rf (lv_sub hl [0, 1, 2, 3, 4, 5, 6] rfl)
                  · -- 118
                    refine y_c1 (n := 0) C0 (by decide) dX12_ways_121 (fun v_158 e_159 => ?_)
                    refine lv_istore (lv' := [(6, .int v_158), (5, .int x5_99), (0, .ref (ad 0)), (1, .int a1), (2, .int a2), (3, .int a3), (4, .int a4)]) C0.1 C0.2.1 dX12_ways_122 hl (by decide) rfl (fun ls hl => ?_)
                    have lp_163 : ∀ (n_165 : Nat) (x6_160 : Int32) (H : Heap) (locs : List Loc) (ls : Array Slot) (ws_161 : va_W), 4100 - x6_160.toInt < (n_165 : Int) → 0 ≤ x6_160.toInt → x6_160.toInt ≤ 4100 → Wt G (SM tt) ad A s H locs ws_161 → Fr (SM tt) [15] ws_100 ws_161 → lv_has ls 9 [(6, .int x6_160), (5, .int x5_99), (0, .ref (ad 0)), (1, .int a1), (2, .int a2), (3, .int a3), (4, .int a4)] → W p l e (rmd 6 0 0) s m args below meth c H locs 0 0 Q (F0 m 124 ls []) := by
                      intro n_165
                      induction n_165 with
                      | zero => intro x6_160 H locs ls ws_161 hn_166 b_167 b_168 h hF_162 hl; exact ((o36_434 b_167 b_168 hn_166)).elim
                      | succ n_165 ih_164 =>
                        intro x6_160 H locs ls ws_161 hn_166 b_167 b_168 h hF_162 hl
                        refine lv_iload C0.1 C0.2.1 dX12_ways_124 (lv_at hl 0 rfl) ?_
                        refine y_c3 (n := 4100) C0 (by decide) dX12_ways_126 (fun v_169 e_170 => ?_)
                        refine y_icmp_ge (tgt := 146) C0 dX12_ways_129 (by decide) (fun c_171 => ?_) (fun c_171 => ?_)
                        · -- 129
                          refine y_c1 (n := 0) C0 (by decide) dX12_ways_146 (fun v_172 e_173 => ?_)
                          refine lv_istore (lv' := [(6, .int v_172), (5, .int x5_99), (0, .ref (ad 0)), (1, .int a1), (2, .int a2), (3, .int a3), (4, .int a4)]) C0.1 C0.2.1 dX12_ways_147 hl (by decide) rfl (fun ls hl => ?_)
                          have lp_177 : ∀ (n_179 : Nat) (x6_174 : Int32) (H : Heap) (locs : List Loc) (ls : Array Slot) (ws_175 : va_W), 100 - x6_174.toInt < (n_179 : Int) → 0 ≤ x6_174.toInt → x6_174.toInt ≤ 100 → Wt G (SM tt) ad A s H locs ws_175 → Fr (SM tt) [15] ws_161 ws_175 → lv_has ls 9 [(6, .int x6_174), (5, .int x5_99), (0, .ref (ad 0)), (1, .int a1), (2, .int a2), (3, .int a3), (4, .int a4)] → W p l e (rmd 6 0 0) s m args below meth c H locs 0 0 Q (F0 m 149 ls []) := by
                            intro n_179
                            induction n_179 with
                            | zero => intro x6_174 H locs ls ws_175 hn_180 b_181 b_182 h hF_176 hl; exact ((o36_127 b_181 b_182 hn_180)).elim
                            | succ n_179 ih_178 =>
                              intro x6_174 H locs ls ws_175 hn_180 b_181 b_182 h hF_176 hl
                              refine lv_iload C0.1 C0.2.1 dX12_ways_149 (lv_at hl 0 rfl) ?_
                              refine y_c1 (n := 4) C0 (by decide) dX12_ways_151 (fun v_183 e_184 => ?_)
                              refine lv_aload_n C0.1 C0.2.1 dX12_ways_152 rfl (lv_at hl 2 rfl) ?_
                              refine y_ci h (y_rV (As := []) (rest := [.int v_183, .int x6_174]) C0 hZ h (c_X12_crossings l G Z ad _ h.2) k_X12_crossings q_1705 q_79 q_1703 kSM_0 rfl rfl rfl hl.1 rfl rfl (Nat.le_of_ble_eq_true rfl) dX12_ways_153 ⟨Nat.le_of_ble_eq_true rfl, Nat.le_of_ble_eq_true rfl⟩ ⟨Nat.le_of_ble_eq_true rfl, Nat.le_of_ble_eq_true rfl⟩) (fun r_188 H locs ws_185 h u_186 p_187 => ?_)
                              obtain ⟨e_189, e_190, e_191⟩ := p_187
                              refine y_cmul (n := 4) C0 (o36_28 e_184) (o36_128 e_189 e_190 (le_min r_188) (le_max r_188)) (o36_129 e_189 e_190 (le_min r_188) (le_max r_188)) dX12_ways_156 (fun v_192 e_193 => ?_)
                              refine y_icmp_ge (tgt := 176) C0 dX12_ways_157 (by decide) (fun c_194 => ?_) (fun c_194 => ?_)
                              · -- 157
                                refine y_c1 (n := 0) C0 (by decide) dX12_ways_176 (fun v_195 e_196 => ?_)
                                refine lv_istore (lv' := [(6, .int v_195), (5, .int x5_99), (0, .ref (ad 0)), (1, .int a1), (2, .int a2), (3, .int a3), (4, .int a4)]) C0.1 C0.2.1 dX12_ways_177 hl (by decide) rfl (fun ls hl => ?_)
                                have lp_200 : ∀ (n_202 : Nat) (x6_197 : Int32) (H : Heap) (locs : List Loc) (ls : Array Slot) (ws_198 : va_W), 4100 - x6_197.toInt < (n_202 : Int) → 0 ≤ x6_197.toInt → x6_197.toInt ≤ 4100 → Wt G (SM tt) ad A s H locs ws_198 → Fr (SM tt) [14] ws_185 ws_198 → lv_has ls 9 [(6, .int x6_197), (5, .int x5_99), (0, .ref (ad 0)), (1, .int a1), (2, .int a2), (3, .int a3), (4, .int a4)] → W p l e (rmd 6 0 0) s m args below meth c H locs 0 0 Q (F0 m 179 ls []) := by
                                  intro n_202
                                  induction n_202 with
                                  | zero => intro x6_197 H locs ls ws_198 hn_203 b_204 b_205 h hF_199 hl; exact ((o36_434 b_204 b_205 hn_203)).elim
                                  | succ n_202 ih_201 =>
                                    intro x6_197 H locs ls ws_198 hn_203 b_204 b_205 h hF_199 hl
                                    refine lv_iload C0.1 C0.2.1 dX12_ways_179 (lv_at hl 0 rfl) ?_
                                    refine y_c3 (n := 4100) C0 (by decide) dX12_ways_181 (fun v_206 e_207 => ?_)
                                    refine y_icmp_ge (tgt := 207) C0 dX12_ways_184 (by decide) (fun c_208 => ?_) (fun c_208 => ?_)
                                    · -- 184
                                      refine y_inc (kp := 1) (n := 1) (fun v_209 => [(5, .int v_209), (6, .int x6_197), (0, .ref (ad 0)), (1, .int a1), (2, .int a2), (3, .int a3), (4, .int a4)]) C0 hl rfl (by decide) (by decide) (fun _ => rfl) (o36_469 e_15 e_17 e_19 e_24 e_25 e_26 c_27 b_106 b_107 hn_105 c_108 (le_min x5_99) (le_max x5_99) (le_min a3) (le_max a3) (le_min r_23) (le_max r_23)) (o36_470 e_15 e_17 e_19 e_24 e_25 e_26 c_27 b_106 b_107 hn_105 c_108 (le_min x5_99) (le_max x5_99) (le_min a3) (le_max a3) (le_min r_23) (le_max r_23)) dX12_ways_207 (fun v_209 ls e_210 hl => ?_)
                                      refine lv_goto (tgt := 115) C0.1 C0.2.1 dX12_ways_210 (by decide) ?_
                                      exact ih_103 v_209 _ _ _ _ (o36_471 e_15 e_17 e_19 e_24 e_25 e_26 c_27 b_106 b_107 hn_105 c_108 e_210) (o36_472 e_15 e_17 e_19 e_24 e_25 e_26 c_27 b_106 b_107 hn_105 c_108 e_210) (o36_473 e_15 e_17 e_19 e_24 e_25 e_26 c_27 b_106 b_107 hn_105 c_108 e_210) h (Fr.tr (Fr.tr (Fr.tr (Fr.tr hF_101 (Fr.mono hF_162 (by decide))) (Fr.mono hF_176 (by decide))) (Fr.mono u_186 (by decide))) (Fr.mono hF_199 (by decide))) (lv_sub hl [0, 2, 3, 4, 5, 6] rfl)
                                    · -- 184
                                      refine lv_aload_n C0.1 C0.2.1 dX12_ways_187 rfl (lv_at hl 2 rfl) ?_
                                      refine ng_X12_many C0 h kSM_0 q_1467 dX12_ways_188 ?_
                                      refine lv_iload C0.1 C0.2.1 dX12_ways_191 (lv_at hl 0 rfl) ?_
                                      refine lv_aload_n C0.1 C0.2.1 dX12_ways_193 rfl (lv_at hl 2 rfl) ?_
                                      refine ng_X12_manyThen C0 h kSM_0 q_1468 dX12_ways_194 ?_
                                      refine lv_iload C0.1 C0.2.1 dX12_ways_197 (lv_at hl 0 rfl) ?_
                                      refine y_lald C0 h kSM_15 rfl (by decide) (o36_474 b_204 b_205 hn_203 e_207 c_208) (o36_475 b_204 b_205 hn_203 e_207 c_208) dX12_ways_199 (fun w_211 e_212 => ?_)
                                      refine y_last C0 h kSM_14 rfl (by decide) (o36_474 b_204 b_205 hn_203 e_207 c_208) (o36_475 b_204 b_205 hn_203 e_207 c_208) dX12_ways_200 (fun H locs ws_213 h u_214 => ?_)
                                      refine y_inc (kp := 0) (n := 1) (fun v_215 => [(6, .int v_215), (5, .int x5_99), (0, .ref (ad 0)), (1, .int a1), (2, .int a2), (3, .int a3), (4, .int a4)]) C0 hl rfl (by decide) (by decide) (fun _ => rfl) (o36_476 b_204 b_205 hn_203 e_207 c_208 (le_min x6_197) (le_max x6_197) (le_min v_206) (le_max v_206)) (o36_477 b_204 b_205 hn_203 e_207 c_208 (le_min x6_197) (le_max x6_197) (le_min v_206) (le_max v_206)) dX12_ways_201 (fun v_215 ls e_216 hl => ?_)
                                      refine lv_goto (tgt := 179) C0.1 C0.2.1 dX12_ways_204 (by decide) ?_
                                      exact ih_201 v_215 _ _ _ _ (o36_478 b_204 b_205 hn_203 e_207 c_208 e_216) (o36_479 b_204 b_205 hn_203 e_207 c_208 e_216) (o36_480 b_204 b_205 hn_203 e_207 c_208 e_216) h (Fr.tr hF_199 (Fr.up u_214.1 kSM_14 (by decide))) (lv_sub hl [0, 1, 2, 3, 4, 5, 6] rfl)
                                exact lp_200 ((4100 - v_195.toInt + 1).toNat) v_195 _ _ _ _ (o36_481 e_196) (o36_61 e_196) (o36_482 e_196) h Fr.rf (lv_sub hl [0, 1, 2, 3, 4, 5, 6] rfl)
                              · -- 157
                                refine lv_aload_n C0.1 C0.2.1 dX12_ways_160 rfl (lv_at hl 2 rfl) ?_
                                refine lv_iload C0.1 C0.2.1 dX12_ways_161 (lv_at hl 1 rfl) ?_
                                refine lv_iload C0.1 C0.2.1 dX12_ways_163 (lv_at hl 0 rfl) ?_
                                refine lv_iload C0.1 C0.2.1 dX12_ways_165 (lv_at hl 6 rfl) ?_
                                refine y_cv h (y_rV (As := [.int x5_99, .int x6_174, .int a4]) (rest := []) C0 hZ h (c_X12_countsOn l G Z ad _ h.2 x5_99 x6_174 a4 (o36_483 e_15 e_17 e_19 e_24 e_25 e_26 c_27 b_106 b_107 hn_105 c_108) (o36_484 e_15 e_17 e_19 e_24 e_25 e_26 c_27 b_106 b_107 hn_105 c_108) (o36_485 b_181 b_182 hn_180 e_189 e_190 e_193 c_194) (o36_486 b_181 b_182 hn_180 e_189 e_190 e_193 c_194) (o36_487 e_31 e_33 e_35 e_40 e_41 e_42 c_43) (o36_488 e_31 e_33 e_35 e_40 e_41 e_42 c_43) (Laid.pa (Or.resolve_left e_12 (o36_489 e_9 e_10 e_11 c_13 e_70 e_72 e_81 e_83)) (Pa.tr (Pa.tr (Pa.tr (Pa.tr (Pa.tr (Pa.tr (Pa.tr (Pa.tr (Pa.tr (Pa.tr (Pa.fr u_6 (by decide)) (Pa.fr u_21 (by decide))) (Pa.fr u_37 (by decide))) (Pa.ud u_47.1 (by decide))) (Pa.fr u_49 (by decide))) (Pa.fr hF_55 (by decide))) (Pa.ud u_96.1 (by decide))) (Pa.fr hF_101 (by decide))) (Pa.fr hF_162 (by decide))) (Pa.fr hF_176 (by decide))) (Pa.fr u_186 (by decide))))) k_X12_countsOn q_1944 q_112 q_1942 kSM_0 rfl rfl rfl hl.1 rfl rfl (Nat.le_of_ble_eq_true rfl) dX12_ways_167 ⟨Nat.le_of_ble_eq_true rfl, Nat.le_of_ble_eq_true rfl⟩ ⟨Nat.le_of_ble_eq_true rfl, Nat.le_of_ble_eq_true rfl⟩) (fun H locs ws_217 h u_218 p_219 => ?_)
                                refine y_inc (kp := 0) (n := 1) (fun v_220 => [(6, .int v_220), (5, .int x5_99), (0, .ref (ad 0)), (1, .int a1), (2, .int a2), (3, .int a3), (4, .int a4)]) C0 hl rfl (by decide) (by decide) (fun _ => rfl) (o36_490 b_181 b_182 hn_180 e_189 e_190 e_193 c_194 (le_min x6_174) (le_max x6_174) (le_min r_188) (le_max r_188) (le_min v_192) (le_max v_192)) (o36_491 b_181 b_182 hn_180 e_189 e_190 e_193 c_194 (le_min x6_174) (le_max x6_174) (le_min r_188) (le_max r_188) (le_min v_192) (le_max v_192)) dX12_ways_170 (fun v_220 ls e_221 hl => ?_)
                                refine lv_goto (tgt := 149) C0.1 C0.2.1 dX12_ways_173 (by decide) ?_
                                exact ih_178 v_220 _ _ _ _ (o36_492 b_181 b_182 hn_180 e_189 e_190 e_193 c_194 e_221) (o36_493 b_181 b_182 hn_180 e_189 e_190 e_193 c_194 e_221) (o36_494 b_181 b_182 hn_180 e_189 e_190 e_193 c_194 e_221) h (Fr.tr (Fr.tr hF_176 (Fr.mono u_186 (by decide))) u_218) (lv_sub hl [0, 1, 2, 3, 4, 5, 6] rfl)
                          exact lp_177 ((100 - v_172.toInt + 1).toNat) v_172 _ _ _ _ (o36_192 e_173) (o36_61 e_173) (o36_193 e_173) h Fr.rf (lv_sub hl [0, 1, 2, 3, 4, 5, 6] rfl)
                        · -- 129
                          refine lv_aload_n C0.1 C0.2.1 dX12_ways_132 rfl (lv_at hl 2 rfl) ?_
                          refine ng_X12_manyThen C0 h kSM_0 q_1468 dX12_ways_133 ?_
                          refine lv_iload C0.1 C0.2.1 dX12_ways_136 (lv_at hl 0 rfl) ?_
                          refine y_lc (v := 0) C0 (by decide) dX12_ways_138 (fun w_222 e_223 => ?_)
                          refine y_last C0 h kSM_15 rfl (by decide) (o36_474 b_167 b_168 hn_166 e_170 c_171) (o36_475 b_167 b_168 hn_166 e_170 c_171) dX12_ways_139 (fun H locs ws_224 h u_225 => ?_)
                          refine y_inc (kp := 0) (n := 1) (fun v_226 => [(6, .int v_226), (5, .int x5_99), (0, .ref (ad 0)), (1, .int a1), (2, .int a2), (3, .int a3), (4, .int a4)]) C0 hl rfl (by decide) (by decide) (fun _ => rfl) (o36_476 b_167 b_168 hn_166 e_170 c_171 (le_min x6_160) (le_max x6_160) (le_min v_169) (le_max v_169)) (o36_477 b_167 b_168 hn_166 e_170 c_171 (le_min x6_160) (le_max x6_160) (le_min v_169) (le_max v_169)) dX12_ways_140 (fun v_226 ls e_227 hl => ?_)
                          refine lv_goto (tgt := 124) C0.1 C0.2.1 dX12_ways_143 (by decide) ?_
                          exact ih_164 v_226 _ _ _ _ (o36_478 b_167 b_168 hn_166 e_170 c_171 e_227) (o36_479 b_167 b_168 hn_166 e_170 c_171 e_227) (o36_480 b_167 b_168 hn_166 e_170 c_171 e_227) h (Fr.tr hF_162 (Fr.up u_225.1 kSM_15 (by decide))) (lv_sub hl [0, 1, 2, 3, 4, 5, 6] rfl)
                    exact lp_163 ((4100 - v_158.toInt + 1).toNat) v_158 _ _ _ _ (o36_481 e_159) (o36_61 e_159) (o36_482 e_159) h Fr.rf (lv_sub hl [0, 1, 2, 3, 4, 5, 6] rfl)
              exact lp_102 ((20 - v_97.toInt + 1).toNat) v_97 _ _ _ _ (o36_495 e_98) (o36_61 e_98) (o36_496 e_98) h Fr.rf (lv_sub hl [0, 1, 2, 3, 4, 5] rfl)
            · -- 65
              refine lv_aload_n C0.1 C0.2.1 dX12_ways_68 rfl (lv_at hl 1 rfl) ?_
              refine ng_X12_many C0 h kSM_0 q_1467 dX12_ways_69 ?_
              refine lv_iload C0.1 C0.2.1 dX12_ways_72 (lv_at hl 0 rfl) ?_
              refine y_lc (v := 0) C0 (by decide) dX12_ways_74 (fun w_228 e_229 => ?_)
              refine y_last C0 h kSM_14 rfl (by decide) (o36_474 b_60 b_61 hn_59 e_63 c_64) (o36_475 b_60 b_61 hn_59 e_63 c_64) dX12_ways_75 (fun H locs ws_230 h u_231 => ?_)
              refine y_inc (kp := 0) (n := 1) (fun v_232 => [(5, .int v_232), (0, .ref (ad 0)), (1, .int a1), (2, .int a2), (3, .int a3), (4, .int a4)]) C0 hl rfl (by decide) (by decide) (fun _ => rfl) (o36_476 b_60 b_61 hn_59 e_63 c_64 (le_min x5_53) (le_max x5_53) (le_min v_62) (le_max v_62)) (o36_477 b_60 b_61 hn_59 e_63 c_64 (le_min x5_53) (le_max x5_53) (le_min v_62) (le_max v_62)) dX12_ways_76 (fun v_232 ls e_233 hl => ?_)
              refine lv_goto (tgt := 60) C0.1 C0.2.1 dX12_ways_79 (by decide) ?_
              exact ih_57 v_232 _ _ _ _ (o36_478 b_60 b_61 hn_59 e_63 c_64 e_233) (o36_479 b_60 b_61 hn_59 e_63 c_64 e_233) (o36_480 b_60 b_61 hn_59 e_63 c_64 e_233) h (Fr.tr hF_55 (Fr.up u_231.1 kSM_14 (by decide))) (lv_sub hl [0, 1, 2, 3, 4, 5] rfl)
        exact lp_56 ((4100 - v_51.toInt + 1).toNat) v_51 _ _ _ _ (o36_481 e_52) (o36_61 e_52) (o36_482 e_52) h Fr.rf (lv_sub hl [0, 1, 2, 3, 4, 5] rfl)
      · -- 40
        refine y_lc2 (n := (-3)) C0 q_1941 (by decide) dX12_ways_43 (fun w_234 e_235 => ?_)
        rw [hQ]
        exact y_lret C0 h (Fr.tr (Fr.tr (Fr.tr (Fr.up u_4.1 kSM_0 (by decide)) (Fr.mono u_6 (by decide))) (Fr.mono u_21 (by decide))) (Fr.mono u_37 (by decide))) trivial dX12_ways_46
  · -- 11
    refine y_lc2 (n := (-2)) C0 q_1939 (by decide) dX12_ways_14 (fun w_236 e_237 => ?_)
    rw [hQ]
    exact y_lret C0 h (Fr.tr (Fr.up u_4.1 kSM_0 (by decide)) (Fr.mono u_6 (by decide))) trivial dX12_ways_17
set_option maxHeartbeats 4000000 in
set_option maxRecDepth 100000 in
theorem c_X12_reach (l : Launch) (G : GG) (Z : RZ) (ad : Nat → Nat) (ws0 : va_W) (hT : Ty G (SM tt) ad ws0) (a1 : Int32) (a2 : Int32) (hJ : J ws0) : Mq l yX12_reach cX12_reach 5 (some .int) 7 G Z [.ref (ad 0), .int a1, .int a2] ws0 (PI G (SM tt) ad [0, 5, 8, 10, 11, 12] ws0 (fun r u => True)) := by
  refine Mq.start (by decide) (Nat.le_of_ble_eq_true rfl) ?_
  intro p e s m below meth c A ls C0 hZ h hl
  have hl : lv_has ls 5 [(0, .ref (ad 0)), (1, .int a1), (2, .int a2)] := hl
  have h : Wt G (SM tt) ad A s s.heap [] ws0 := ⟨h, hT⟩
  obtain ⟨args, hargs⟩ : ∃ z, z = ([.ref (ad 0), .int a1, .int a2] : List Value).toArray := ⟨_, rfl⟩
  rw [← hargs] at C0 ⊢
  have C0 : Cx p s m args meth c RX12 cX12_reach 5 (some .int) := C0
  obtain ⟨Q, hQ⟩ : ∃ z, z = MQ below ((PI G (SM tt) ad [0, 5, 8, 10, 11, 12] ws0 (fun r u => True)) A) args s 0 0 A := ⟨_, rfl⟩
  rw [← hQ]
  refine lv_aload_n C0.1 C0.2.1 dX12_reach_0 rfl (lv_at hl 0 rfl) ?_
  refine y_c1 (n := 0) C0 (by decide) dX12_reach_1 (fun v_1 e_2 => ?_)
  refine np_X12_thrown C0 h kSM_0 q_1438 (le_min v_1) (le_max v_1) dX12_reach_2 (fun H locs ws_3 h u_4 => ?_)
  refine lv_aload_n C0.1 C0.2.1 dX12_reach_5 rfl (lv_at hl 0 rfl) ?_
  refine lv_iload_n C0.1 C0.2.1 dX12_reach_6 rfl (lv_at hl 1 rfl) ?_
  refine y_i2l C0 dX12_reach_7 (fun w_5 e_6 => ?_)
  refine y_ci h (y_rV (As := [.long w_5]) (rest := []) C0 hZ h (c_X12_isPerson l G Z ad _ h.2 w_5 (J.pa hT hJ (Pa.ud u_4.1 (by decide)))) k_X12_isPerson q_1693 q_77 q_1691 kSM_0 rfl rfl rfl hl.1 rfl rfl (Nat.le_of_ble_eq_true rfl) dX12_reach_8 ⟨Nat.le_of_ble_eq_true rfl, Nat.le_of_ble_eq_true rfl⟩ ⟨Nat.le_of_ble_eq_true rfl, Nat.le_of_ble_eq_true rfl⟩) (fun r_10 H locs ws_7 h u_8 p_9 => ?_)
  obtain ⟨e_11, e_12, e_13, e_14⟩ := p_9
  refine y_if_ne (tgt := 17) C0 dX12_reach_11 (by decide) (fun c_15 => ?_) (fun c_15 => ?_)
  · -- 11
    refine lv_iload_n C0.1 C0.2.1 dX12_reach_17 rfl (lv_at hl 2 rfl) ?_
    refine y_i2l C0 dX12_reach_18 (fun w_16 e_17 => ?_)
    refine y_lc (v := 0) C0 (by decide) dX12_reach_19 (fun w_18 e_19 => ?_)
    refine y_lc2 (n := 120) C0 q_1870 (by decide) dX12_reach_20 (fun w_20 e_21 => ?_)
    refine y_ci h (y_rS (As := [.long w_16, .long w_18, .long w_20]) (rest := []) C0 hZ h (c_X12_within l G Z ad _ h.2 w_16 w_18 w_20) k_X12_within q_1580 q_1579 hl.1 rfl rfl (Nat.le_of_ble_eq_true rfl) dX12_reach_23 ⟨Nat.le_of_ble_eq_true rfl, Nat.le_of_ble_eq_true rfl⟩ ⟨Nat.le_of_ble_eq_true rfl, Nat.le_of_ble_eq_true rfl⟩) (fun r_25 H locs ws_22 h u_23 p_24 => ?_)
    obtain ⟨e_26, e_27, e_28⟩ := p_24
    refine y_if_ne (tgt := 32) C0 dX12_reach_26 (by decide) (fun c_29 => ?_) (fun c_29 => ?_)
    · -- 26
      refine lv_aload_n C0.1 C0.2.1 dX12_reach_32 rfl (lv_at hl 0 rfl) ?_
      refine lv_iload_n C0.1 C0.2.1 dX12_reach_33 rfl (lv_at hl 1 rfl) ?_
      refine y_c2 (n := 60) C0 (by decide) dX12_reach_34 (fun v_30 e_31 => ?_)
      refine y_c1 (n := 0) C0 (by decide) dX12_reach_36 (fun v_32 e_33 => ?_)
      refine y_cv h (y_rV (As := [.int a1, .int v_30, .int v_32]) (rest := []) C0 hZ h (c_X12_laysFor l G Z ad _ h.2 a1 v_30 v_32 (o36_497 e_6 e_11 e_12 e_13 c_15) (o36_498 e_6 e_11 e_12 e_13 c_15) (o36_336 e_31) (o36_337 e_31) (o36_61 e_33) (o36_338 e_33) (J.pa hT hJ (Pa.tr (Pa.tr (Pa.ud u_4.1 (by decide)) (Pa.fr u_8 (by decide))) (Pa.fr u_23 (by decide)))) (Laid.pa (Or.resolve_left e_14 (o36_499 e_6 e_11 e_12 e_13 c_15)) (Pa.tr (Pa.fr u_8 (by decide)) (Pa.fr u_23 (by decide))))) k_X12_laysFor q_1877 q_101 q_1875 kSM_0 rfl rfl rfl hl.1 rfl rfl (Nat.le_of_ble_eq_true rfl) dX12_reach_37 ⟨Nat.le_of_ble_eq_true rfl, Nat.le_of_ble_eq_true rfl⟩ ⟨Nat.le_of_ble_eq_true rfl, Nat.le_of_ble_eq_true rfl⟩) (fun H locs ws_34 h u_35 p_36 => ?_)
      refine y_c1 (n := 0) C0 (by decide) dX12_reach_40 (fun v_37 e_38 => ?_)
      refine lv_istore_n (lv' := [(3, .int v_37), (0, .ref (ad 0)), (1, .int a1), (2, .int a2)]) C0.1 C0.2.1 dX12_reach_41 rfl hl (by decide) rfl (fun ls hl => ?_)
      refine y_c1 (n := 0) C0 (by decide) dX12_reach_42 (fun v_39 e_40 => ?_)
      refine lv_istore (lv' := [(4, .int v_39), (3, .int v_37), (0, .ref (ad 0)), (1, .int a1), (2, .int a2)]) C0.1 C0.2.1 dX12_reach_43 hl (by decide) rfl (fun ls hl => ?_)
      have lp_45 : ∀ (n_47 : Nat) (x4_41 : Int32) (x3_42 : Int32) (H : Heap) (locs : List Loc) (ls : Array Slot) (ws_43 : va_W), 25 - x4_41.toInt < (n_47 : Int) → 0 ≤ x4_41.toInt → x4_41.toInt ≤ 25 → Wt G (SM tt) ad A s H locs ws_43 → Fr (SM tt) [] ws_34 ws_43 → lv_has ls 5 [(4, .int x4_41), (3, .int x3_42), (0, .ref (ad 0)), (1, .int a1), (2, .int a2)] → W p l e (rmd 7 0 0) s m args below meth c H locs 0 0 Q (F0 m 45 ls []) := by
        intro n_47
        induction n_47 with
        | zero => intro x4_41 x3_42 H locs ls ws_43 hn_48 b_49 b_50 h hF_44 hl; exact ((o36_2 b_49 b_50 hn_48)).elim
        | succ n_47 ih_46 =>
          intro x4_41 x3_42 H locs ls ws_43 hn_48 b_49 b_50 h hF_44 hl
          refine lv_iload C0.1 C0.2.1 dX12_reach_45 (lv_at hl 0 rfl) ?_
          refine lv_aload_n C0.1 C0.2.1 dX12_reach_47 rfl (lv_at hl 2 rfl) ?_
          refine y_ci h (y_rV (As := []) (rest := [.int x4_41]) C0 hZ h (c_X12_crossings l G Z ad _ h.2) k_X12_crossings q_1705 q_79 q_1703 kSM_0 rfl rfl rfl hl.1 rfl rfl (Nat.le_of_ble_eq_true rfl) dX12_reach_48 ⟨Nat.le_of_ble_eq_true rfl, Nat.le_of_ble_eq_true rfl⟩ ⟨Nat.le_of_ble_eq_true rfl, Nat.le_of_ble_eq_true rfl⟩) (fun r_54 H locs ws_51 h u_52 p_53 => ?_)
          obtain ⟨e_55, e_56, e_57⟩ := p_53
          refine y_icmp_ge (tgt := 79) C0 dX12_reach_51 (by decide) (fun c_58 => ?_) (fun c_58 => ?_)
          · -- 51
            refine lv_iload_n C0.1 C0.2.1 dX12_reach_79 rfl (lv_at hl 1 rfl) ?_
            rw [hQ]
            exact y_iret C0 h (Fr.tr (Fr.tr (Fr.tr (Fr.tr (Fr.tr (Fr.up u_4.1 kSM_0 (by decide)) (Fr.mono u_8 (by decide))) (Fr.mono u_23 (by decide))) u_35) (Fr.mono hF_44 (by decide))) (Fr.mono u_52 (by decide))) trivial dX12_reach_80
          · -- 51
            refine lv_aload_n C0.1 C0.2.1 dX12_reach_54 rfl (lv_at hl 2 rfl) ?_
            refine lv_iload C0.1 C0.2.1 dX12_reach_55 (lv_at hl 0 rfl) ?_
            refine y_c2 (n := 60) C0 (by decide) dX12_reach_57 (fun v_59 e_60 => ?_)
            refine y_ci h (y_rV (As := [.int x4_41, .int v_59]) (rest := []) C0 hZ h (c_X12_leastWithin l G Z ad _ h.2 x4_41 v_59 (o36_500 b_49 b_50 hn_48 e_55 e_56 c_58) (o36_501 b_49 b_50 hn_48 e_55 e_56 c_58) (o36_336 e_60) (o36_337 e_60)) k_X12_leastWithin q_1926 q_111 q_1924 kSM_0 rfl rfl rfl hl.1 rfl rfl (Nat.le_of_ble_eq_true rfl) dX12_reach_59 ⟨Nat.le_of_ble_eq_true rfl, Nat.le_of_ble_eq_true rfl⟩ ⟨Nat.le_of_ble_eq_true rfl, Nat.le_of_ble_eq_true rfl⟩) (fun r_64 H locs ws_61 h u_62 p_63 => ?_)
            have e_65 := p_63
            refine lv_iload_n C0.1 C0.2.1 dX12_reach_62 rfl (lv_at hl 4 rfl) ?_
            refine y_icmp_gt (tgt := 73) C0 dX12_reach_63 (by decide) (fun c_66 => ?_) (fun c_66 => ?_)
            · -- 63
              refine y_inc (kp := 0) (n := 1) (fun v_67 => [(4, .int v_67), (3, .int x3_42), (0, .ref (ad 0)), (1, .int a1), (2, .int a2)]) C0 hl rfl (by decide) (by decide) (fun _ => rfl) (o36_502 b_49 b_50 hn_48 e_55 e_56 c_58 (le_min x4_41) (le_max x4_41) (le_min r_54) (le_max r_54)) (o36_503 b_49 b_50 hn_48 e_55 e_56 c_58 (le_min x4_41) (le_max x4_41) (le_min r_54) (le_max r_54)) dX12_reach_73 (fun v_67 ls e_68 hl => ?_)
              refine lv_goto (tgt := 45) C0.1 C0.2.1 dX12_reach_76 (by decide) ?_
              exact ih_46 v_67 x3_42 _ _ _ _ (o36_504 b_49 b_50 hn_48 e_55 e_56 c_58 e_68) (o36_505 b_49 b_50 hn_48 e_55 e_56 c_58 e_68) (o36_506 b_49 b_50 hn_48 e_55 e_56 c_58 e_68) h (Fr.tr (Fr.tr hF_44 u_52) u_62) (lv_sub hl [0, 1, 2, 3, 4] rfl)
            · -- 63
              refine lv_iload_n C0.1 C0.2.1 dX12_reach_66 rfl (lv_at hl 1 rfl) ?_
              refine y_c1 (n := 1) C0 (by decide) dX12_reach_67 (fun v_69 e_70 => ?_)
              refine lv_iload C0.1 C0.2.1 dX12_reach_68 (lv_at hl 0 rfl) ?_
              refine y_ishlU C0 dX12_reach_70 (fun v_71 => ?_)
              refine y_iorU C0 dX12_reach_71 (fun v_72 => ?_)
              refine lv_istore_n (lv' := [(3, .int v_72), (4, .int x4_41), (0, .ref (ad 0)), (1, .int a1), (2, .int a2)]) C0.1 C0.2.1 dX12_reach_72 rfl hl (by decide) rfl (fun ls hl => ?_)
              refine y_inc (kp := 1) (n := 1) (fun v_73 => [(4, .int v_73), (3, .int v_72), (0, .ref (ad 0)), (1, .int a1), (2, .int a2)]) C0 hl rfl (by decide) (by decide) (fun _ => rfl) (o36_502 b_49 b_50 hn_48 e_55 e_56 c_58 (le_min x4_41) (le_max x4_41) (le_min r_54) (le_max r_54)) (o36_503 b_49 b_50 hn_48 e_55 e_56 c_58 (le_min x4_41) (le_max x4_41) (le_min r_54) (le_max r_54)) dX12_reach_73 (fun v_73 ls e_74 hl => ?_)
              refine lv_goto (tgt := 45) C0.1 C0.2.1 dX12_reach_76 (by decide) ?_
              exact ih_46 v_73 v_72 _ _ _ _ (o36_504 b_49 b_50 hn_48 e_55 e_56 c_58 e_74) (o36_505 b_49 b_50 hn_48 e_55 e_56 c_58 e_74) (o36_506 b_49 b_50 hn_48 e_55 e_56 c_58 e_74) h (Fr.tr (Fr.tr hF_44 u_52) u_62) (lv_sub hl [0, 1, 2, 3, 4] rfl)
      exact lp_45 ((25 - v_39.toInt + 1).toNat) v_39 v_37 _ _ _ _ (o36_63 e_40) (o36_61 e_40) (o36_64 e_40) h Fr.rf (lv_sub hl [0, 1, 2, 3, 4] rfl)
    · -- 26
      refine y_c2 (n := (-3)) C0 (by decide) dX12_reach_29 (fun v_75 e_76 => ?_)
      rw [hQ]
      exact y_iret C0 h (Fr.tr (Fr.tr (Fr.up u_4.1 kSM_0 (by decide)) (Fr.mono u_8 (by decide))) (Fr.mono u_23 (by decide))) trivial dX12_reach_31
  · -- 11
    refine y_c2 (n := (-2)) C0 (by decide) dX12_reach_14 (fun v_77 e_78 => ?_)
    rw [hQ]
    exact y_iret C0 h (Fr.tr (Fr.up u_4.1 kSM_0 (by decide)) (Fr.mono u_8 (by decide))) trivial dX12_reach_16
set_option maxHeartbeats 4000000 in
set_option maxRecDepth 100000 in
theorem c_X12_enough (l : Launch) (G : GG) (Z : RZ) (ad : Nat → Nat) (ws0 : va_W) (hT : Ty G (SM tt) ad ws0) (a1 : Int32) (hJ : J ws0) : Mq l yX12_enough cX12_enough 5 (some .int) 7 G Z [.ref (ad 0), .int a1] ws0 (PI G (SM tt) ad [0, 5, 8, 10, 11, 12] ws0 (fun r u => ((-2) ≤ r.toInt))) := by
  refine Mq.start (by decide) (Nat.le_of_ble_eq_true rfl) ?_
  intro p e s m below meth c A ls C0 hZ h hl
  have hl : lv_has ls 5 [(0, .ref (ad 0)), (1, .int a1)] := hl
  have h : Wt G (SM tt) ad A s s.heap [] ws0 := ⟨h, hT⟩
  obtain ⟨args, hargs⟩ : ∃ z, z = ([.ref (ad 0), .int a1] : List Value).toArray := ⟨_, rfl⟩
  rw [← hargs] at C0 ⊢
  have C0 : Cx p s m args meth c RX12 cX12_enough 5 (some .int) := C0
  obtain ⟨Q, hQ⟩ : ∃ z, z = MQ below ((PI G (SM tt) ad [0, 5, 8, 10, 11, 12] ws0 (fun r u => ((-2) ≤ r.toInt))) A) args s 0 0 A := ⟨_, rfl⟩
  rw [← hQ]
  refine lv_aload_n C0.1 C0.2.1 dX12_enough_0 rfl (lv_at hl 0 rfl) ?_
  refine y_c1 (n := 0) C0 (by decide) dX12_enough_1 (fun v_1 e_2 => ?_)
  refine np_X12_thrown C0 h kSM_0 q_1438 (le_min v_1) (le_max v_1) dX12_enough_2 (fun H locs ws_3 h u_4 => ?_)
  refine lv_aload_n C0.1 C0.2.1 dX12_enough_5 rfl (lv_at hl 0 rfl) ?_
  refine lv_iload_n C0.1 C0.2.1 dX12_enough_6 rfl (lv_at hl 1 rfl) ?_
  refine y_i2l C0 dX12_enough_7 (fun w_5 e_6 => ?_)
  refine y_ci h (y_rV (As := [.long w_5]) (rest := []) C0 hZ h (c_X12_isPerson l G Z ad _ h.2 w_5 (J.pa hT hJ (Pa.ud u_4.1 (by decide)))) k_X12_isPerson q_1693 q_77 q_1691 kSM_0 rfl rfl rfl hl.1 rfl rfl (Nat.le_of_ble_eq_true rfl) dX12_enough_8 ⟨Nat.le_of_ble_eq_true rfl, Nat.le_of_ble_eq_true rfl⟩ ⟨Nat.le_of_ble_eq_true rfl, Nat.le_of_ble_eq_true rfl⟩) (fun r_10 H locs ws_7 h u_8 p_9 => ?_)
  obtain ⟨e_11, e_12, e_13, e_14⟩ := p_9
  refine y_if_ne (tgt := 17) C0 dX12_enough_11 (by decide) (fun c_15 => ?_) (fun c_15 => ?_)
  · -- 11
    refine lv_aload_n C0.1 C0.2.1 dX12_enough_17 rfl (lv_at hl 0 rfl) ?_
    refine lv_iload_n C0.1 C0.2.1 dX12_enough_18 rfl (lv_at hl 1 rfl) ?_
    refine y_c2 (n := 60) C0 (by decide) dX12_enough_19 (fun v_16 e_17 => ?_)
    refine y_c1 (n := 0) C0 (by decide) dX12_enough_21 (fun v_18 e_19 => ?_)
    refine y_cv h (y_rV (As := [.int a1, .int v_16, .int v_18]) (rest := []) C0 hZ h (c_X12_laysFor l G Z ad _ h.2 a1 v_16 v_18 (o36_497 e_6 e_11 e_12 e_13 c_15) (o36_498 e_6 e_11 e_12 e_13 c_15) (o36_336 e_17) (o36_337 e_17) (o36_61 e_19) (o36_338 e_19) (J.pa hT hJ (Pa.tr (Pa.ud u_4.1 (by decide)) (Pa.fr u_8 (by decide)))) (Laid.pa (Or.resolve_left e_14 (o36_499 e_6 e_11 e_12 e_13 c_15)) (Pa.fr u_8 (by decide)))) k_X12_laysFor q_1877 q_101 q_1875 kSM_0 rfl rfl rfl hl.1 rfl rfl (Nat.le_of_ble_eq_true rfl) dX12_enough_22 ⟨Nat.le_of_ble_eq_true rfl, Nat.le_of_ble_eq_true rfl⟩ ⟨Nat.le_of_ble_eq_true rfl, Nat.le_of_ble_eq_true rfl⟩) (fun H locs ws_20 h u_21 p_22 => ?_)
    refine y_c1 (n := 0) C0 (by decide) dX12_enough_25 (fun v_23 e_24 => ?_)
    refine lv_istore_n (lv' := [(2, .int v_23), (0, .ref (ad 0)), (1, .int a1)]) C0.1 C0.2.1 dX12_enough_26 rfl hl (by decide) rfl (fun ls hl => ?_)
    refine y_c1 (n := 0) C0 (by decide) dX12_enough_27 (fun v_25 e_26 => ?_)
    refine lv_istore_n (lv' := [(3, .int v_25), (2, .int v_23), (0, .ref (ad 0)), (1, .int a1)]) C0.1 C0.2.1 dX12_enough_28 rfl hl (by decide) rfl (fun ls hl => ?_)
    have lp_31 : ∀ (n_33 : Nat) (x3_27 : Int32) (x2_28 : Int32) (H : Heap) (locs : List Loc) (ls : Array Slot) (ws_29 : va_W), 25 - x3_27.toInt < (n_33 : Int) → 0 ≤ x3_27.toInt → x3_27.toInt ≤ 25 → 0 ≤ x2_28.toInt → Wt G (SM tt) ad A s H locs ws_29 → Fr (SM tt) [] ws_20 ws_29 → lv_has ls 5 [(3, .int x3_27), (2, .int x2_28), (0, .ref (ad 0)), (1, .int a1)] → W p l e (rmd 7 0 0) s m args below meth c H locs 0 0 Q (F0 m 29 ls []) := by
      intro n_33
      induction n_33 with
      | zero => intro x3_27 x2_28 H locs ls ws_29 hn_34 b_35 b_36 b_37 h hF_30 hl; exact ((o36_2 b_35 b_36 hn_34)).elim
      | succ n_33 ih_32 =>
        intro x3_27 x2_28 H locs ls ws_29 hn_34 b_35 b_36 b_37 h hF_30 hl
        refine lv_iload_n C0.1 C0.2.1 dX12_enough_29 rfl (lv_at hl 0 rfl) ?_
        refine lv_aload_n C0.1 C0.2.1 dX12_enough_30 rfl (lv_at hl 2 rfl) ?_
        refine y_ci h (y_rV (As := []) (rest := [.int x3_27]) C0 hZ h (c_X12_crossings l G Z ad _ h.2) k_X12_crossings q_1705 q_79 q_1703 kSM_0 rfl rfl rfl hl.1 rfl rfl (Nat.le_of_ble_eq_true rfl) dX12_enough_31 ⟨Nat.le_of_ble_eq_true rfl, Nat.le_of_ble_eq_true rfl⟩ ⟨Nat.le_of_ble_eq_true rfl, Nat.le_of_ble_eq_true rfl⟩) (fun r_41 H locs ws_38 h u_39 p_40 => ?_)
        obtain ⟨e_42, e_43, e_44⟩ := p_40
        refine y_icmp_ge (tgt := 73) C0 dX12_enough_34 (by decide) (fun c_45 => ?_) (fun c_45 => ?_)
        · -- 34
          refine lv_iload_n C0.1 C0.2.1 dX12_enough_73 rfl (lv_at hl 1 rfl) ?_
          rw [hQ]
          exact y_iret C0 h (Fr.tr (Fr.tr (Fr.tr (Fr.tr (Fr.up u_4.1 kSM_0 (by decide)) (Fr.mono u_8 (by decide))) u_21) (Fr.mono hF_30 (by decide))) (Fr.mono u_39 (by decide))) (o36_507 b_37) dX12_enough_74
        · -- 34
          refine lv_aload_n C0.1 C0.2.1 dX12_enough_37 rfl (lv_at hl 2 rfl) ?_
          refine lv_iload_n C0.1 C0.2.1 dX12_enough_38 rfl (lv_at hl 0 rfl) ?_
          refine y_c2 (n := 60) C0 (by decide) dX12_enough_39 (fun v_46 e_47 => ?_)
          refine y_ci h (y_rV (As := [.int x3_27, .int v_46]) (rest := []) C0 hZ h (c_X12_leastWithin l G Z ad _ h.2 x3_27 v_46 (o36_500 b_35 b_36 hn_34 e_42 e_43 c_45) (o36_501 b_35 b_36 hn_34 e_42 e_43 c_45) (o36_336 e_47) (o36_337 e_47)) k_X12_leastWithin q_1926 q_111 q_1924 kSM_0 rfl rfl rfl hl.1 rfl rfl (Nat.le_of_ble_eq_true rfl) dX12_enough_41 ⟨Nat.le_of_ble_eq_true rfl, Nat.le_of_ble_eq_true rfl⟩ ⟨Nat.le_of_ble_eq_true rfl, Nat.le_of_ble_eq_true rfl⟩) (fun r_51 H locs ws_48 h u_49 p_50 => ?_)
          have e_52 := p_50
          refine lv_istore (lv' := [(4, .int r_51), (3, .int x3_27), (2, .int x2_28), (0, .ref (ad 0)), (1, .int a1)]) C0.1 C0.2.1 dX12_enough_44 hl (by decide) rfl (fun ls hl => ?_)
          refine lv_iload C0.1 C0.2.1 dX12_enough_46 (lv_at hl 0 rfl) ?_
          refine y_c5 (n := 1000000000) C0 q_1887 (by decide) dX12_enough_48 (fun v_53 e_54 => ?_)
          refine y_icmp_eq (tgt := 65) C0 dX12_enough_51 (by decide) (fun c_55 => ?_) (fun c_55 => ?_)
          · -- 51
            refine lv_iload_n C0.1 C0.2.1 dX12_enough_65 rfl (lv_at hl 2 rfl) ?_
            refine lv_istore_n (lv' := [(2, .int x2_28), (4, .int r_51), (3, .int x3_27), (0, .ref (ad 0)), (1, .int a1)]) C0.1 C0.2.1 dX12_enough_66 rfl hl (by decide) rfl (fun ls hl => ?_)
            refine y_inc (kp := 2) (n := 1) (fun v_56 => [(3, .int v_56), (2, .int x2_28), (4, .int r_51), (0, .ref (ad 0)), (1, .int a1)]) C0 hl rfl (by decide) (by decide) (fun _ => rfl) (o36_502 b_35 b_36 hn_34 e_42 e_43 c_45 (le_min x3_27) (le_max x3_27) (le_min r_41) (le_max r_41)) (o36_503 b_35 b_36 hn_34 e_42 e_43 c_45 (le_min x3_27) (le_max x3_27) (le_min r_41) (le_max r_41)) dX12_enough_67 (fun v_56 ls e_57 hl => ?_)
            refine lv_goto (tgt := 29) C0.1 C0.2.1 dX12_enough_70 (by decide) ?_
            exact ih_32 v_56 x2_28 _ _ _ _ (o36_504 b_35 b_36 hn_34 e_42 e_43 c_45 e_57) (o36_505 b_35 b_36 hn_34 e_42 e_43 c_45 e_57) (o36_506 b_35 b_36 hn_34 e_42 e_43 c_45 e_57) (o36_508 b_37) h (Fr.tr (Fr.tr hF_30 u_39) u_49) (lv_sub hl [0, 1, 3, 4] rfl)
          · -- 51
            refine lv_iload C0.1 C0.2.1 dX12_enough_54 (lv_at hl 0 rfl) ?_
            refine lv_iload_n C0.1 C0.2.1 dX12_enough_56 rfl (lv_at hl 2 rfl) ?_
            refine y_icmp_le (tgt := 65) C0 dX12_enough_57 (by decide) (fun c_58 => ?_) (fun c_58 => ?_)
            · -- 57
              refine lv_iload_n C0.1 C0.2.1 dX12_enough_65 rfl (lv_at hl 2 rfl) ?_
              refine lv_istore_n (lv' := [(2, .int x2_28), (4, .int r_51), (3, .int x3_27), (0, .ref (ad 0)), (1, .int a1)]) C0.1 C0.2.1 dX12_enough_66 rfl hl (by decide) rfl (fun ls hl => ?_)
              refine y_inc (kp := 2) (n := 1) (fun v_59 => [(3, .int v_59), (2, .int x2_28), (4, .int r_51), (0, .ref (ad 0)), (1, .int a1)]) C0 hl rfl (by decide) (by decide) (fun _ => rfl) (o36_502 b_35 b_36 hn_34 e_42 e_43 c_45 (le_min x3_27) (le_max x3_27) (le_min r_41) (le_max r_41)) (o36_503 b_35 b_36 hn_34 e_42 e_43 c_45 (le_min x3_27) (le_max x3_27) (le_min r_41) (le_max r_41)) dX12_enough_67 (fun v_59 ls e_60 hl => ?_)
              refine lv_goto (tgt := 29) C0.1 C0.2.1 dX12_enough_70 (by decide) ?_
              exact ih_32 v_59 x2_28 _ _ _ _ (o36_504 b_35 b_36 hn_34 e_42 e_43 c_45 e_60) (o36_505 b_35 b_36 hn_34 e_42 e_43 c_45 e_60) (o36_506 b_35 b_36 hn_34 e_42 e_43 c_45 e_60) (o36_509 b_37 e_54 c_55 c_58) h (Fr.tr (Fr.tr hF_30 u_39) u_49) (lv_sub hl [0, 1, 3, 4] rfl)
            · -- 57
              refine lv_iload C0.1 C0.2.1 dX12_enough_60 (lv_at hl 0 rfl) ?_
              refine lv_goto (tgt := 66) C0.1 C0.2.1 dX12_enough_62 (by decide) ?_
              refine lv_istore_n (lv' := [(2, .int r_51), (4, .int r_51), (3, .int x3_27), (0, .ref (ad 0)), (1, .int a1)]) C0.1 C0.2.1 dX12_enough_66 rfl hl (by decide) rfl (fun ls hl => ?_)
              refine y_inc (kp := 2) (n := 1) (fun v_61 => [(3, .int v_61), (2, .int r_51), (4, .int r_51), (0, .ref (ad 0)), (1, .int a1)]) C0 hl rfl (by decide) (by decide) (fun _ => rfl) (o36_502 b_35 b_36 hn_34 e_42 e_43 c_45 (le_min x3_27) (le_max x3_27) (le_min r_41) (le_max r_41)) (o36_503 b_35 b_36 hn_34 e_42 e_43 c_45 (le_min x3_27) (le_max x3_27) (le_min r_41) (le_max r_41)) dX12_enough_67 (fun v_61 ls e_62 hl => ?_)
              refine lv_goto (tgt := 29) C0.1 C0.2.1 dX12_enough_70 (by decide) ?_
              exact ih_32 v_61 r_51 _ _ _ _ (o36_504 b_35 b_36 hn_34 e_42 e_43 c_45 e_62) (o36_505 b_35 b_36 hn_34 e_42 e_43 c_45 e_62) (o36_506 b_35 b_36 hn_34 e_42 e_43 c_45 e_62) (o36_510 b_37 e_54 c_55 c_58) h (Fr.tr (Fr.tr hF_30 u_39) u_49) (lv_sub hl [0, 1, 3, 4] rfl)
    exact lp_31 ((25 - v_25.toInt + 1).toNat) v_25 v_23 _ _ _ _ (o36_63 e_26) (o36_61 e_26) (o36_64 e_26) (o36_61 e_24) h Fr.rf (lv_sub hl [0, 1, 2, 3] rfl)
  · -- 11
    refine y_c2 (n := (-2)) C0 (by decide) dX12_enough_14 (fun v_63 e_64 => ?_)
    rw [hQ]
    exact y_iret C0 h (Fr.tr (Fr.up u_4.1 kSM_0 (by decide)) (Fr.mono u_8 (by decide))) (o36_511 e_64) dX12_enough_16
set_option maxHeartbeats 4000000 in
set_option maxRecDepth 100000 in
theorem c_X12_byRights (l : Launch) (G : GG) (Z : RZ) (ad : Nat → Nat) (ws0 : va_W) (hT : Ty G (SM tt) ad ws0) (a1 : Int32) (a2 : Int32) (hJ : J ws0) : Mq l yX12_byRights cX12_byRights 9 (some .int) 4 G Z [.ref (ad 0), .int a1, .int a2] ws0 (PI G (SM tt) ad [0, 16, 17] ws0 (fun r u => ((-2) ≤ r.toInt) ∧ (r.toInt ≤ 60))) := by
  refine Mq.start (by decide) (Nat.le_of_ble_eq_true rfl) ?_
  intro p e s m below meth c A ls C0 hZ h hl
  have hl : lv_has ls 9 [(0, .ref (ad 0)), (1, .int a1), (2, .int a2)] := hl
  have h : Wt G (SM tt) ad A s s.heap [] ws0 := ⟨h, hT⟩
  obtain ⟨args, hargs⟩ : ∃ z, z = ([.ref (ad 0), .int a1, .int a2] : List Value).toArray := ⟨_, rfl⟩
  rw [← hargs] at C0 ⊢
  have C0 : Cx p s m args meth c RX12 cX12_byRights 9 (some .int) := C0
  obtain ⟨Q, hQ⟩ : ∃ z, z = MQ below ((PI G (SM tt) ad [0, 16, 17] ws0 (fun r u => ((-2) ≤ r.toInt) ∧ (r.toInt ≤ 60))) A) args s 0 0 A := ⟨_, rfl⟩
  rw [← hQ]
  refine lv_aload_n C0.1 C0.2.1 dX12_byRights_0 rfl (lv_at hl 0 rfl) ?_
  refine y_c1 (n := 0) C0 (by decide) dX12_byRights_1 (fun v_1 e_2 => ?_)
  refine np_X12_thrown C0 h kSM_0 q_1438 (le_min v_1) (le_max v_1) dX12_byRights_2 (fun H locs ws_3 h u_4 => ?_)
  refine lv_aload_n C0.1 C0.2.1 dX12_byRights_5 rfl (lv_at hl 0 rfl) ?_
  refine lv_iload_n C0.1 C0.2.1 dX12_byRights_6 rfl (lv_at hl 1 rfl) ?_
  refine y_i2l C0 dX12_byRights_7 (fun w_5 e_6 => ?_)
  refine y_ci h (y_rV (As := [.long w_5]) (rest := []) C0 hZ h (c_X12_isCrossing l G Z ad _ h.2 w_5) k_X12_isCrossing q_1701 q_78 q_1699 kSM_0 rfl rfl rfl hl.1 rfl rfl (Nat.le_of_ble_eq_true rfl) dX12_byRights_8 ⟨Nat.le_of_ble_eq_true rfl, Nat.le_of_ble_eq_true rfl⟩ ⟨Nat.le_of_ble_eq_true rfl, Nat.le_of_ble_eq_true rfl⟩) (fun r_10 H locs ws_7 h u_8 p_9 => ?_)
  obtain ⟨e_11, e_12, e_13, e_14⟩ := p_9
  refine y_if_eq (tgt := 21) C0 dX12_byRights_11 (by decide) (fun c_15 => ?_) (fun c_15 => ?_)
  · -- 11
    refine y_c2 (n := (-2)) C0 (by decide) dX12_byRights_21 (fun v_16 e_17 => ?_)
    rw [hQ]
    exact y_iret C0 h (Fr.tr (Fr.up u_4.1 kSM_0 (by decide)) (Fr.mono u_8 (by decide))) ⟨(o36_511 e_17), (o36_350 e_17)⟩ dX12_byRights_23
  · -- 11
    refine lv_iload_n C0.1 C0.2.1 dX12_byRights_14 rfl (lv_at hl 2 rfl) ?_
    refine y_ci h (y_rS (As := [.int a2]) (rest := []) C0 hZ h (c_X12_isDirection l G Z ad _ h.2 a2) k_X12_isDirection q_1708 q_1707 hl.1 rfl rfl (Nat.le_of_ble_eq_true rfl) dX12_byRights_15 ⟨Nat.le_of_ble_eq_true rfl, Nat.le_of_ble_eq_true rfl⟩ ⟨Nat.le_of_ble_eq_true rfl, Nat.le_of_ble_eq_true rfl⟩) (fun r_21 H locs ws_18 h u_19 p_20 => ?_)
    obtain ⟨e_22, e_23, e_24⟩ := p_20
    refine y_if_ne (tgt := 24) C0 dX12_byRights_18 (by decide) (fun c_25 => ?_) (fun c_25 => ?_)
    · -- 18
      refine lv_aload_n C0.1 C0.2.1 dX12_byRights_24 rfl (lv_at hl 0 rfl) ?_
      refine lv_iload_n C0.1 C0.2.1 dX12_byRights_25 rfl (lv_at hl 1 rfl) ?_
      refine lv_iload_n C0.1 C0.2.1 dX12_byRights_26 rfl (lv_at hl 2 rfl) ?_
      refine y_c1 (n := 2) C0 (by decide) dX12_byRights_27 (fun v_26 e_27 => ?_)
      refine y_ci h (y_rS (As := [.int a2, .int v_26]) (rest := [.int a1, .ref (ad 0)]) C0 hZ h (c_X12_directionBy l G Z ad _ h.2 a2 v_26 (o36_512 e_22 e_23 e_24 c_25) (o36_513 e_22 e_23 e_24 c_25) (o36_514 e_27) (o36_515 e_27)) k_X12_directionBy q_1761 q_1760 hl.1 rfl rfl (Nat.le_of_ble_eq_true rfl) dX12_byRights_28 ⟨Nat.le_of_ble_eq_true rfl, Nat.le_of_ble_eq_true rfl⟩ ⟨Nat.le_of_ble_eq_true rfl, Nat.le_of_ble_eq_true rfl⟩) (fun r_31 H locs ws_28 h u_29 p_30 => ?_)
      obtain ⟨e_32, e_33, e_34⟩ := p_30
      refine y_ci h (y_rV (As := [.int a1, .int r_31]) (rest := []) C0 hZ h (c_X12_streetFrom l G Z ad _ h.2 a1 r_31 (o36_516 e_6 e_11 e_12 e_13 c_15) (o36_517 e_6 e_11 e_12 e_13 c_15) (o36_67 e_32 e_33) (o36_68 e_32 e_33) (Laid.pa (Or.resolve_left e_14 (o36_518 e_6 e_11 e_12 e_13 c_15)) (Pa.tr (Pa.tr (Pa.fr u_8 (by decide)) (Pa.fr u_19 (by decide))) (Pa.fr u_29 (by decide))))) k_X12_streetFrom q_1713 q_80 q_1711 kSM_0 rfl rfl rfl hl.1 rfl rfl (Nat.le_of_ble_eq_true rfl) dX12_byRights_31 ⟨Nat.le_of_ble_eq_true rfl, Nat.le_of_ble_eq_true rfl⟩ ⟨Nat.le_of_ble_eq_true rfl, Nat.le_of_ble_eq_true rfl⟩) (fun r_38 H locs ws_35 h u_36 p_37 => ?_)
      obtain ⟨e_39, e_40, e_41⟩ := p_37
      refine lv_istore_n (lv' := [(3, .int r_38), (0, .ref (ad 0)), (1, .int a1), (2, .int a2)]) C0.1 C0.2.1 dX12_byRights_34 rfl hl (by decide) rfl (fun ls hl => ?_)
      refine lv_iload_n C0.1 C0.2.1 dX12_byRights_35 rfl (lv_at hl 0 rfl) ?_
      refine y_c1 (n := (-1)) C0 (by decide) dX12_byRights_36 (fun v_42 e_43 => ?_)
      refine y_icmp_ne (tgt := 42) C0 dX12_byRights_37 (by decide) (fun c_44 => ?_) (fun c_44 => ?_)
      · -- 37
        refine y_c1 (n := 0) C0 (by decide) dX12_byRights_42 (fun v_45 e_46 => ?_)
        refine lv_istore (lv' := [(4, .int v_45), (3, .int r_38), (0, .ref (ad 0)), (1, .int a1), (2, .int a2)]) C0.1 C0.2.1 dX12_byRights_43 hl (by decide) rfl (fun ls hl => ?_)
        have lp_50 : ∀ (n_52 : Nat) (x4_47 : Int32) (H : Heap) (locs : List Loc) (ls : Array Slot) (ws_48 : va_W), 100 - x4_47.toInt < (n_52 : Int) → 0 ≤ x4_47.toInt → x4_47.toInt ≤ 100 → Wt G (SM tt) ad A s H locs ws_48 → Fr (SM tt) [16] ws_35 ws_48 → lv_has ls 9 [(4, .int x4_47), (3, .int r_38), (0, .ref (ad 0)), (1, .int a1), (2, .int a2)] → W p l e (rmd 4 0 0) s m args below meth c H locs 0 0 Q (F0 m 45 ls []) := by
          intro n_52
          induction n_52 with
          | zero => intro x4_47 H locs ls ws_48 hn_53 b_54 b_55 h hF_49 hl; exact ((o36_127 b_54 b_55 hn_53)).elim
          | succ n_52 ih_51 =>
            intro x4_47 H locs ls ws_48 hn_53 b_54 b_55 h hF_49 hl
            refine lv_iload C0.1 C0.2.1 dX12_byRights_45 (lv_at hl 0 rfl) ?_
            refine y_c2 (n := 100) C0 (by decide) dX12_byRights_47 (fun v_56 e_57 => ?_)
            refine y_icmp_ge (tgt := 80) C0 dX12_byRights_49 (by decide) (fun c_58 => ?_) (fun c_58 => ?_)
            · -- 49
              refine y_c1 (n := 1) C0 (by decide) dX12_byRights_80 (fun v_59 e_60 => ?_)
              refine lv_istore (lv' := [(4, .int v_59), (3, .int r_38), (0, .ref (ad 0)), (1, .int a1), (2, .int a2)]) C0.1 C0.2.1 dX12_byRights_81 hl (by decide) rfl (fun ls hl => ?_)
              have lp_64 : ∀ (n_66 : Nat) (x4_61 : Int32) (H : Heap) (locs : List Loc) (ls : Array Slot) (ws_62 : va_W), 61 - x4_61.toInt < (n_66 : Int) → 1 ≤ x4_61.toInt → x4_61.toInt ≤ 61 → Wt G (SM tt) ad A s H locs ws_62 → Fr (SM tt) [16, 17] ws_48 ws_62 → lv_has ls 9 [(4, .int x4_61), (3, .int r_38), (0, .ref (ad 0)), (1, .int a1), (2, .int a2)] → W p l e (rmd 4 0 0) s m args below meth c H locs 0 0 Q (F0 m 83 ls []) := by
                intro n_66
                induction n_66 with
                | zero => intro x4_61 H locs ls ws_62 hn_67 b_68 b_69 h hF_63 hl; exact ((o36_519 b_68 b_69 hn_67)).elim
                | succ n_66 ih_65 =>
                  intro x4_61 H locs ls ws_62 hn_67 b_68 b_69 h hF_63 hl
                  refine lv_iload C0.1 C0.2.1 dX12_byRights_83 (lv_at hl 0 rfl) ?_
                  refine y_c2 (n := 60) C0 (by decide) dX12_byRights_85 (fun v_70 e_71 => ?_)
                  refine y_icmp_gt (tgt := 269) C0 dX12_byRights_87 (by decide) (fun c_72 => ?_) (fun c_72 => ?_)
                  · -- 87
                    refine y_c1 (n := (-1)) C0 (by decide) dX12_byRights_269 (fun v_73 e_74 => ?_)
                    rw [hQ]
                    exact y_iret C0 h (Fr.tr (Fr.tr (Fr.tr (Fr.tr (Fr.tr (Fr.tr (Fr.up u_4.1 kSM_0 (by decide)) (Fr.mono u_8 (by decide))) (Fr.mono u_19 (by decide))) (Fr.mono u_29 (by decide))) (Fr.mono u_36 (by decide))) (Fr.mono hF_49 (by decide))) (Fr.mono hF_63 (by decide))) ⟨(o36_520 e_74), (o36_323 e_74)⟩ dX12_byRights_270
                  · -- 87
                    refine y_c1 (n := 0) C0 (by decide) dX12_byRights_90 (fun v_75 e_76 => ?_)
                    refine lv_istore (lv' := [(5, .int v_75), (4, .int x4_61), (3, .int r_38), (0, .ref (ad 0)), (1, .int a1), (2, .int a2)]) C0.1 C0.2.1 dX12_byRights_91 hl (by decide) rfl (fun ls hl => ?_)
                    have lp_80 : ∀ (n_82 : Nat) (x5_77 : Int32) (H : Heap) (locs : List Loc) (ls : Array Slot) (ws_78 : va_W), 100 - x5_77.toInt < (n_82 : Int) → 0 ≤ x5_77.toInt → x5_77.toInt ≤ 100 → Wt G (SM tt) ad A s H locs ws_78 → Fr (SM tt) [17] ws_62 ws_78 → lv_has ls 9 [(5, .int x5_77), (4, .int x4_61), (3, .int r_38), (0, .ref (ad 0)), (1, .int a1), (2, .int a2)] → W p l e (rmd 4 0 0) s m args below meth c H locs 0 0 Q (F0 m 93 ls []) := by
                      intro n_82
                      induction n_82 with
                      | zero => intro x5_77 H locs ls ws_78 hn_83 b_84 b_85 h hF_79 hl; exact ((o36_127 b_84 b_85 hn_83)).elim
                      | succ n_82 ih_81 =>
                        intro x5_77 H locs ls ws_78 hn_83 b_84 b_85 h hF_79 hl
                        refine lv_iload C0.1 C0.2.1 dX12_byRights_93 (lv_at hl 0 rfl) ?_
                        refine y_c2 (n := 100) C0 (by decide) dX12_byRights_95 (fun v_86 e_87 => ?_)
                        refine y_icmp_ge (tgt := 114) C0 dX12_byRights_97 (by decide) (fun c_88 => ?_) (fun c_88 => ?_)
                        · -- 97
                          refine y_c1 (n := 0) C0 (by decide) dX12_byRights_114 (fun v_89 e_90 => ?_)
                          refine lv_istore (lv' := [(5, .int v_89), (4, .int x4_61), (3, .int r_38), (0, .ref (ad 0)), (1, .int a1), (2, .int a2)]) C0.1 C0.2.1 dX12_byRights_115 hl (by decide) rfl (fun ls hl => ?_)
                          have lp_94 : ∀ (n_96 : Nat) (x5_91 : Int32) (H : Heap) (locs : List Loc) (ls : Array Slot) (ws_92 : va_W), 100 - x5_91.toInt < (n_96 : Int) → 0 ≤ x5_91.toInt → x5_91.toInt ≤ 100 → Wt G (SM tt) ad A s H locs ws_92 → Fr (SM tt) [17] ws_78 ws_92 → lv_has ls 9 [(5, .int x5_91), (4, .int x4_61), (3, .int r_38), (0, .ref (ad 0)), (1, .int a1), (2, .int a2)] → W p l e (rmd 4 0 0) s m args below meth c H locs 0 0 Q (F0 m 117 ls []) := by
                            intro n_96
                            induction n_96 with
                            | zero => intro x5_91 H locs ls ws_92 hn_97 b_98 b_99 h hF_93 hl; exact ((o36_127 b_98 b_99 hn_97)).elim
                            | succ n_96 ih_95 =>
                              intro x5_91 H locs ls ws_92 hn_97 b_98 b_99 h hF_93 hl
                              refine lv_iload C0.1 C0.2.1 dX12_byRights_117 (lv_at hl 0 rfl) ?_
                              refine y_c1 (n := 4) C0 (by decide) dX12_byRights_119 (fun v_100 e_101 => ?_)
                              refine lv_aload_n C0.1 C0.2.1 dX12_byRights_120 rfl (lv_at hl 3 rfl) ?_
                              refine y_ci h (y_rV (As := []) (rest := [.int v_100, .int x5_91]) C0 hZ h (c_X12_crossings l G Z ad _ h.2) k_X12_crossings q_1705 q_79 q_1703 kSM_0 rfl rfl rfl hl.1 rfl rfl (Nat.le_of_ble_eq_true rfl) dX12_byRights_121 ⟨Nat.le_of_ble_eq_true rfl, Nat.le_of_ble_eq_true rfl⟩ ⟨Nat.le_of_ble_eq_true rfl, Nat.le_of_ble_eq_true rfl⟩) (fun r_105 H locs ws_102 h u_103 p_104 => ?_)
                              obtain ⟨e_106, e_107, e_108⟩ := p_104
                              refine y_cmul (n := 4) C0 (o36_28 e_101) (o36_128 e_106 e_107 (le_min r_105) (le_max r_105)) (o36_129 e_106 e_107 (le_min r_105) (le_max r_105)) dX12_byRights_124 (fun v_109 e_110 => ?_)
                              refine y_icmp_ge (tgt := 201) C0 dX12_byRights_125 (by decide) (fun c_111 => ?_) (fun c_111 => ?_)
                              · -- 125
                                refine y_c1 (n := 0) C0 (by decide) dX12_byRights_201 (fun v_112 e_113 => ?_)
                                refine lv_istore (lv' := [(5, .int v_112), (4, .int x4_61), (3, .int r_38), (0, .ref (ad 0)), (1, .int a1), (2, .int a2)]) C0.1 C0.2.1 dX12_byRights_202 hl (by decide) rfl (fun ls hl => ?_)
                                have lp_117 : ∀ (n_119 : Nat) (x5_114 : Int32) (H : Heap) (locs : List Loc) (ls : Array Slot) (ws_115 : va_W), 100 - x5_114.toInt < (n_119 : Int) → 0 ≤ x5_114.toInt → x5_114.toInt ≤ 100 → Wt G (SM tt) ad A s H locs ws_115 → Fr (SM tt) [16] ws_102 ws_115 → lv_has ls 9 [(5, .int x5_114), (4, .int x4_61), (3, .int r_38), (0, .ref (ad 0)), (1, .int a1), (2, .int a2)] → W p l e (rmd 4 0 0) s m args below meth c H locs 0 0 Q (F0 m 204 ls []) := by
                                  intro n_119
                                  induction n_119 with
                                  | zero => intro x5_114 H locs ls ws_115 hn_120 b_121 b_122 h hF_116 hl; exact ((o36_127 b_121 b_122 hn_120)).elim
                                  | succ n_119 ih_118 =>
                                    intro x5_114 H locs ls ws_115 hn_120 b_121 b_122 h hF_116 hl
                                    refine lv_iload C0.1 C0.2.1 dX12_byRights_204 (lv_at hl 0 rfl) ?_
                                    refine y_c2 (n := 100) C0 (by decide) dX12_byRights_206 (fun v_123 e_124 => ?_)
                                    refine y_icmp_ge (tgt := 231) C0 dX12_byRights_208 (by decide) (fun c_125 => ?_) (fun c_125 => ?_)
                                    · -- 208
                                      refine y_c1 (n := 0) C0 (by decide) dX12_byRights_231 (fun v_126 e_127 => ?_)
                                      refine lv_istore (lv' := [(5, .int v_126), (4, .int x4_61), (3, .int r_38), (0, .ref (ad 0)), (1, .int a1), (2, .int a2)]) C0.1 C0.2.1 dX12_byRights_232 hl (by decide) rfl (fun ls hl => ?_)
                                      have lp_131 : ∀ (n_133 : Nat) (x5_128 : Int32) (H : Heap) (locs : List Loc) (ls : Array Slot) (ws_129 : va_W), 4 - x5_128.toInt < (n_133 : Int) → 0 ≤ x5_128.toInt → x5_128.toInt ≤ 4 → Wt G (SM tt) ad A s H locs ws_129 → Fr (SM tt) [] ws_115 ws_129 → lv_has ls 9 [(5, .int x5_128), (4, .int x4_61), (3, .int r_38), (0, .ref (ad 0)), (1, .int a1), (2, .int a2)] → W p l e (rmd 4 0 0) s m args below meth c H locs 0 0 Q (F0 m 234 ls []) := by
                                        intro n_133
                                        induction n_133 with
                                        | zero => intro x5_128 H locs ls ws_129 hn_134 b_135 b_136 h hF_130 hl; exact ((o36_19 b_135 b_136 hn_134)).elim
                                        | succ n_133 ih_132 =>
                                          intro x5_128 H locs ls ws_129 hn_134 b_135 b_136 h hF_130 hl
                                          refine lv_iload C0.1 C0.2.1 dX12_byRights_234 (lv_at hl 0 rfl) ?_
                                          refine y_c1 (n := 4) C0 (by decide) dX12_byRights_236 (fun v_137 e_138 => ?_)
                                          refine y_icmp_ge (tgt := 263) C0 dX12_byRights_237 (by decide) (fun c_139 => ?_) (fun c_139 => ?_)
                                          · -- 237
                                            refine y_inc (kp := 1) (n := 1) (fun v_140 => [(4, .int v_140), (5, .int x5_128), (3, .int r_38), (0, .ref (ad 0)), (1, .int a1), (2, .int a2)]) C0 hl rfl (by decide) (by decide) (fun _ => rfl) (o36_521 b_68 b_69 hn_67 e_71 c_72 (le_min x4_61) (le_max x4_61) (le_min v_70) (le_max v_70)) (o36_522 b_68 b_69 hn_67 e_71 c_72 (le_min x4_61) (le_max x4_61) (le_min v_70) (le_max v_70)) dX12_byRights_263 (fun v_140 ls e_141 hl => ?_)
                                            refine lv_goto (tgt := 83) C0.1 C0.2.1 dX12_byRights_266 (by decide) ?_
                                            exact ih_65 v_140 _ _ _ _ (o36_523 b_68 b_69 hn_67 e_71 c_72 e_141) (o36_524 b_68 b_69 hn_67 e_71 c_72 e_141) (o36_525 b_68 b_69 hn_67 e_71 c_72 e_141) h (Fr.tr (Fr.tr (Fr.tr (Fr.tr (Fr.tr hF_63 (Fr.mono hF_79 (by decide))) (Fr.mono hF_93 (by decide))) (Fr.mono u_103 (by decide))) (Fr.mono hF_116 (by decide))) (Fr.mono hF_130 (by decide))) (lv_sub hl [0, 2, 3, 4, 5] rfl)
                                          · -- 237
                                            refine lv_aload_n C0.1 C0.2.1 dX12_byRights_240 rfl (lv_at hl 3 rfl) ?_
                                            refine ng_X12_met C0 h kSM_0 q_1469 dX12_byRights_241 ?_
                                            refine y_c1 (n := 4) C0 (by decide) dX12_byRights_244 (fun v_142 e_143 => ?_)
                                            refine lv_iload_n C0.1 C0.2.1 dX12_byRights_245 rfl (lv_at hl 2 rfl) ?_
                                            refine y_cmul (n := 4) C0 (o36_28 e_143) (o36_526 e_39 e_40 e_43 c_44 (le_min r_38) (le_max r_38) (le_min v_42) (le_max v_42)) (o36_527 e_39 e_40 e_43 c_44 (le_min r_38) (le_max r_38) (le_min v_42) (le_max v_42)) dX12_byRights_246 (fun v_144 e_145 => ?_)
                                            refine lv_iload C0.1 C0.2.1 dX12_byRights_247 (lv_at hl 0 rfl) ?_
                                            refine y_add C0 (o36_528 e_39 e_40 e_43 c_44 b_135 b_136 hn_134 e_138 c_139 e_145 (le_min v_144) (le_max v_144) (le_min x5_128) (le_max x5_128) (le_min r_38) (le_max r_38) (le_min v_42) (le_max v_42) (le_min v_137) (le_max v_137)) (o36_529 e_39 e_40 e_43 c_44 b_135 b_136 hn_134 e_138 c_139 e_145 (le_min v_144) (le_max v_144) (le_min x5_128) (le_max x5_128) (le_min r_38) (le_max r_38) (le_min v_42) (le_max v_42) (le_min v_137) (le_max v_137)) dX12_byRights_249 (fun v_146 e_147 => ?_)
                                            refine y_zald C0 h kSM_16 rfl (by decide) (o36_530 e_39 e_40 e_43 c_44 b_135 b_136 hn_134 e_138 c_139 e_145 e_147) (o36_531 e_39 e_40 e_43 c_44 b_135 b_136 hn_134 e_138 c_139 e_145 e_147) dX12_byRights_250 (fun v_148 e_149 e_150 e_151 => ?_)
                                            refine y_if_eq (tgt := 257) C0 dX12_byRights_251 (by decide) (fun c_152 => ?_) (fun c_152 => ?_)
                                            · -- 251
                                              refine y_inc (kp := 0) (n := 1) (fun v_153 => [(5, .int v_153), (4, .int x4_61), (3, .int r_38), (0, .ref (ad 0)), (1, .int a1), (2, .int a2)]) C0 hl rfl (by decide) (by decide) (fun _ => rfl) (o36_532 e_39 e_40 e_43 c_44 b_135 b_136 hn_134 e_138 c_139 e_145 e_147 (le_min x5_128) (le_max x5_128) (le_min r_38) (le_max r_38) (le_min v_42) (le_max v_42) (le_min v_137) (le_max v_137) (le_min v_144) (le_max v_144) (le_min v_146) (le_max v_146)) (o36_533 e_39 e_40 e_43 c_44 b_135 b_136 hn_134 e_138 c_139 e_145 e_147 (le_min x5_128) (le_max x5_128) (le_min r_38) (le_max r_38) (le_min v_42) (le_max v_42) (le_min v_137) (le_max v_137) (le_min v_144) (le_max v_144) (le_min v_146) (le_max v_146)) dX12_byRights_257 (fun v_153 ls e_154 hl => ?_)
                                              refine lv_goto (tgt := 234) C0.1 C0.2.1 dX12_byRights_260 (by decide) ?_
                                              exact ih_132 v_153 _ _ _ _ (o36_534 e_39 e_40 e_43 c_44 b_135 b_136 hn_134 e_138 c_139 e_145 e_147 e_154) (o36_535 e_39 e_40 e_43 c_44 b_135 b_136 hn_134 e_138 c_139 e_145 e_147 e_154) (o36_536 e_39 e_40 e_43 c_44 b_135 b_136 hn_134 e_138 c_139 e_145 e_147 e_154) h hF_130 (lv_sub hl [0, 1, 2, 3, 4, 5] rfl)
                                            · -- 251
                                              refine lv_iload C0.1 C0.2.1 dX12_byRights_254 (lv_at hl 1 rfl) ?_
                                              rw [hQ]
                                              exact y_iret C0 h (Fr.tr (Fr.tr (Fr.tr (Fr.tr (Fr.tr (Fr.tr (Fr.tr (Fr.tr (Fr.tr (Fr.tr (Fr.tr (Fr.up u_4.1 kSM_0 (by decide)) (Fr.mono u_8 (by decide))) (Fr.mono u_19 (by decide))) (Fr.mono u_29 (by decide))) (Fr.mono u_36 (by decide))) (Fr.mono hF_49 (by decide))) (Fr.mono hF_63 (by decide))) (Fr.mono hF_79 (by decide))) (Fr.mono hF_93 (by decide))) (Fr.mono u_103 (by decide))) (Fr.mono hF_116 (by decide))) (Fr.mono hF_130 (by decide))) ⟨(o36_537 b_68 b_69 hn_67 e_71 c_72), (o36_538 b_68 b_69 hn_67 e_71 c_72)⟩ dX12_byRights_256
                                      exact lp_131 ((4 - v_126.toInt + 1).toNat) v_126 _ _ _ _ (o36_60 e_127) (o36_61 e_127) (o36_62 e_127) h Fr.rf (lv_sub hl [0, 1, 2, 3, 4, 5] rfl)
                                    · -- 208
                                      refine lv_aload_n C0.1 C0.2.1 dX12_byRights_211 rfl (lv_at hl 3 rfl) ?_
                                      refine ng_X12_met C0 h kSM_0 q_1469 dX12_byRights_212 ?_
                                      refine lv_iload C0.1 C0.2.1 dX12_byRights_215 (lv_at hl 0 rfl) ?_
                                      refine lv_aload_n C0.1 C0.2.1 dX12_byRights_217 rfl (lv_at hl 3 rfl) ?_
                                      refine ng_X12_metThen C0 h kSM_0 q_1470 dX12_byRights_218 ?_
                                      refine lv_iload C0.1 C0.2.1 dX12_byRights_221 (lv_at hl 0 rfl) ?_
                                      refine y_zald C0 h kSM_17 rfl (by decide) (o36_539 b_121 b_122 hn_120 e_124 c_125) (o36_540 b_121 b_122 hn_120 e_124 c_125) dX12_byRights_223 (fun v_155 e_156 e_157 e_158 => ?_)
                                      refine y_zast C0 h kSM_16 rfl (by decide) (o36_539 b_121 b_122 hn_120 e_124 c_125) (o36_540 b_121 b_122 hn_120 e_124 c_125) (o36_17 e_157 e_158) (o36_18 e_157 e_158) (o36_17 e_157 e_158) (o36_18 e_157 e_158) dX12_byRights_224 (fun H locs ws_159 h u_160 => ?_)
                                      refine y_inc (kp := 0) (n := 1) (fun v_161 => [(5, .int v_161), (4, .int x4_61), (3, .int r_38), (0, .ref (ad 0)), (1, .int a1), (2, .int a2)]) C0 hl rfl (by decide) (by decide) (fun _ => rfl) (o36_541 b_121 b_122 hn_120 e_124 c_125 (le_min x5_114) (le_max x5_114) (le_min v_123) (le_max v_123)) (o36_542 b_121 b_122 hn_120 e_124 c_125 (le_min x5_114) (le_max x5_114) (le_min v_123) (le_max v_123)) dX12_byRights_225 (fun v_161 ls e_162 hl => ?_)
                                      refine lv_goto (tgt := 204) C0.1 C0.2.1 dX12_byRights_228 (by decide) ?_
                                      exact ih_118 v_161 _ _ _ _ (o36_543 b_121 b_122 hn_120 e_124 c_125 e_162) (o36_544 b_121 b_122 hn_120 e_124 c_125 e_162) (o36_545 b_121 b_122 hn_120 e_124 c_125 e_162) h (Fr.tr hF_116 (Fr.up u_160.1 kSM_16 (by decide))) (lv_sub hl [0, 1, 2, 3, 4, 5] rfl)
                                exact lp_117 ((100 - v_112.toInt + 1).toNat) v_112 _ _ _ _ (o36_192 e_113) (o36_61 e_113) (o36_193 e_113) h Fr.rf (lv_sub hl [0, 1, 2, 3, 4, 5] rfl)
                              · -- 125
                                refine y_c1 (n := 0) C0 (by decide) dX12_byRights_128 (fun v_163 e_164 => ?_)
                                refine lv_istore (lv' := [(6, .int v_163), (5, .int x5_91), (4, .int x4_61), (3, .int r_38), (0, .ref (ad 0)), (1, .int a1), (2, .int a2)]) C0.1 C0.2.1 dX12_byRights_129 hl (by decide) rfl (fun ls hl => ?_)
                                have lp_168 : ∀ (n_170 : Nat) (x6_165 : Int32) (H : Heap) (locs : List Loc) (ls : Array Slot) (ws_166 : va_W), 2 - x6_165.toInt < (n_170 : Int) → 0 ≤ x6_165.toInt → x6_165.toInt ≤ 2 → Wt G (SM tt) ad A s H locs ws_166 → Fr (SM tt) [17] ws_102 ws_166 → lv_has ls 9 [(6, .int x6_165), (5, .int x5_91), (4, .int x4_61), (3, .int r_38), (0, .ref (ad 0)), (1, .int a1), (2, .int a2)] → W p l e (rmd 4 0 0) s m args below meth c H locs 0 0 Q (F0 m 131 ls []) := by
                                  intro n_170
                                  induction n_170 with
                                  | zero => intro x6_165 H locs ls ws_166 hn_171 b_172 b_173 h hF_167 hl; exact ((o36_546 b_172 b_173 hn_171)).elim
                                  | succ n_170 ih_169 =>
                                    intro x6_165 H locs ls ws_166 hn_171 b_172 b_173 h hF_167 hl
                                    refine lv_iload C0.1 C0.2.1 dX12_byRights_131 (lv_at hl 0 rfl) ?_
                                    refine y_c1 (n := 2) C0 (by decide) dX12_byRights_133 (fun v_174 e_175 => ?_)
                                    refine y_icmp_ge (tgt := 195) C0 dX12_byRights_134 (by decide) (fun c_176 => ?_) (fun c_176 => ?_)
                                    · -- 134
                                      refine y_inc (kp := 1) (n := 1) (fun v_177 => [(5, .int v_177), (6, .int x6_165), (4, .int x4_61), (3, .int r_38), (0, .ref (ad 0)), (1, .int a1), (2, .int a2)]) C0 hl rfl (by decide) (by decide) (fun _ => rfl) (o36_490 b_98 b_99 hn_97 e_106 e_107 e_110 c_111 (le_min x5_91) (le_max x5_91) (le_min r_105) (le_max r_105) (le_min v_109) (le_max v_109)) (o36_491 b_98 b_99 hn_97 e_106 e_107 e_110 c_111 (le_min x5_91) (le_max x5_91) (le_min r_105) (le_max r_105) (le_min v_109) (le_max v_109)) dX12_byRights_195 (fun v_177 ls e_178 hl => ?_)
                                      refine lv_goto (tgt := 117) C0.1 C0.2.1 dX12_byRights_198 (by decide) ?_
                                      exact ih_95 v_177 _ _ _ _ (o36_492 b_98 b_99 hn_97 e_106 e_107 e_110 c_111 e_178) (o36_493 b_98 b_99 hn_97 e_106 e_107 e_110 c_111 e_178) (o36_494 b_98 b_99 hn_97 e_106 e_107 e_110 c_111 e_178) h (Fr.tr (Fr.tr hF_93 (Fr.mono u_103 (by decide))) hF_167) (lv_sub hl [0, 2, 3, 4, 5, 6] rfl)
                                    · -- 134
                                      refine lv_aload_n C0.1 C0.2.1 dX12_byRights_137 rfl (lv_at hl 4 rfl) ?_
                                      refine ng_X12_met C0 h kSM_0 q_1469 dX12_byRights_138 ?_
                                      refine lv_iload C0.1 C0.2.1 dX12_byRights_141 (lv_at hl 1 rfl) ?_
                                      refine y_zald C0 h kSM_16 rfl (by decide) (o36_485 b_98 b_99 hn_97 e_106 e_107 e_110 c_111) (o36_547 b_98 b_99 hn_97 e_106 e_107 e_110 c_111) dX12_byRights_143 (fun v_179 e_180 e_181 e_182 => ?_)
                                      refine y_if_eq (tgt := 195) C0 dX12_byRights_144 (by decide) (fun c_183 => ?_) (fun c_183 => ?_)
                                      · -- 144
                                        refine y_inc (kp := 1) (n := 1) (fun v_184 => [(5, .int v_184), (6, .int x6_165), (4, .int x4_61), (3, .int r_38), (0, .ref (ad 0)), (1, .int a1), (2, .int a2)]) C0 hl rfl (by decide) (by decide) (fun _ => rfl) (o36_490 b_98 b_99 hn_97 e_106 e_107 e_110 c_111 (le_min x5_91) (le_max x5_91) (le_min r_105) (le_max r_105) (le_min v_109) (le_max v_109)) (o36_491 b_98 b_99 hn_97 e_106 e_107 e_110 c_111 (le_min x5_91) (le_max x5_91) (le_min r_105) (le_max r_105) (le_min v_109) (le_max v_109)) dX12_byRights_195 (fun v_184 ls e_185 hl => ?_)
                                        refine lv_goto (tgt := 117) C0.1 C0.2.1 dX12_byRights_198 (by decide) ?_
                                        exact ih_95 v_184 _ _ _ _ (o36_492 b_98 b_99 hn_97 e_106 e_107 e_110 c_111 e_185) (o36_493 b_98 b_99 hn_97 e_106 e_107 e_110 c_111 e_185) (o36_494 b_98 b_99 hn_97 e_106 e_107 e_110 c_111 e_185) h (Fr.tr (Fr.tr hF_93 (Fr.mono u_103 (by decide))) hF_167) (lv_sub hl [0, 2, 3, 4, 5, 6] rfl)
                                      · -- 144
                                        refine lv_iload C0.1 C0.2.1 dX12_byRights_147 (lv_at hl 1 rfl) ?_
                                        refine y_c1 (n := 4) C0 (by decide) dX12_byRights_149 (fun v_186 e_187 => ?_)
                                        refine y_remc (n := 4) C0 (o36_28 e_187) (by decide) (o36_485 b_98 b_99 hn_97 e_106 e_107 e_110 c_111) dX12_byRights_150 (fun v_188 e_189 => ?_)
                                        refine lv_iload C0.1 C0.2.1 dX12_byRights_151 (lv_at hl 0 rfl) ?_
                                        refine y_ci h (y_rS (As := [.int v_188, .int x6_165]) (rest := []) C0 hZ h (c_X12_directionBy l G Z ad _ h.2 v_188 x6_165 (o36_548 b_98 b_99 hn_97 e_106 e_107 e_110 c_111 e_189) (o36_549 b_98 b_99 hn_97 e_106 e_107 e_110 c_111 e_189) (o36_550 b_172 b_173 hn_171 e_175 c_176) (o36_551 b_172 b_173 hn_171 e_175 c_176)) k_X12_directionBy q_1761 q_1760 hl.1 rfl rfl (Nat.le_of_ble_eq_true rfl) dX12_byRights_153 ⟨Nat.le_of_ble_eq_true rfl, Nat.le_of_ble_eq_true rfl⟩ ⟨Nat.le_of_ble_eq_true rfl, Nat.le_of_ble_eq_true rfl⟩) (fun r_193 H locs ws_190 h u_191 p_192 => ?_)
                                        obtain ⟨e_194, e_195, e_196⟩ := p_192
                                        refine lv_istore (lv' := [(7, .int r_193), (6, .int x6_165), (5, .int x5_91), (4, .int x4_61), (3, .int r_38), (0, .ref (ad 0)), (1, .int a1), (2, .int a2)]) C0.1 C0.2.1 dX12_byRights_156 hl (by decide) rfl (fun ls hl => ?_)
                                        refine lv_aload_n C0.1 C0.2.1 dX12_byRights_158 rfl (lv_at hl 5 rfl) ?_
                                        refine lv_iload C0.1 C0.2.1 dX12_byRights_159 (lv_at hl 2 rfl) ?_
                                        refine y_c1 (n := 4) C0 (by decide) dX12_byRights_161 (fun v_197 e_198 => ?_)
                                        refine y_divc (n := 4) C0 (o36_28 e_198) (by decide) (o36_552 b_98 b_99 hn_97 e_106 e_107 e_110 c_111 e_189) dX12_byRights_162 (fun v_199 e_200 => ?_)
                                        refine lv_iload C0.1 C0.2.1 dX12_byRights_163 (lv_at hl 0 rfl) ?_
                                        refine y_ci h (y_rV (As := [.int v_199, .int r_193]) (rest := []) C0 hZ h (c_X12_streetFrom l G Z ad _ h.2 v_199 r_193 (o36_553 b_98 b_99 hn_97 e_106 e_107 e_110 c_111 e_189 e_200) (o36_554 b_98 b_99 hn_97 e_106 e_107 e_110 c_111 e_189 e_200) (o36_67 e_194 e_195) (o36_68 e_194 e_195) (Laid.pa (Or.resolve_left e_14 (o36_518 e_6 e_11 e_12 e_13 c_15)) (Pa.tr (Pa.tr (Pa.tr (Pa.tr (Pa.tr (Pa.tr (Pa.tr (Pa.tr (Pa.tr (Pa.tr (Pa.fr u_8 (by decide)) (Pa.fr u_19 (by decide))) (Pa.fr u_29 (by decide))) (Pa.fr u_36 (by decide))) (Pa.fr hF_49 (by decide))) (Pa.fr hF_63 (by decide))) (Pa.fr hF_79 (by decide))) (Pa.fr hF_93 (by decide))) (Pa.fr u_103 (by decide))) (Pa.fr hF_167 (by decide))) (Pa.fr u_191 (by decide))))) k_X12_streetFrom q_1713 q_80 q_1711 kSM_0 rfl rfl rfl hl.1 rfl rfl (Nat.le_of_ble_eq_true rfl) dX12_byRights_165 ⟨Nat.le_of_ble_eq_true rfl, Nat.le_of_ble_eq_true rfl⟩ ⟨Nat.le_of_ble_eq_true rfl, Nat.le_of_ble_eq_true rfl⟩) (fun r_204 H locs ws_201 h u_202 p_203 => ?_)
                                        obtain ⟨e_205, e_206, e_207⟩ := p_203
                                        refine lv_istore (lv' := [(8, .int r_204), (7, .int r_193), (6, .int x6_165), (5, .int x5_91), (4, .int x4_61), (3, .int r_38), (0, .ref (ad 0)), (1, .int a1), (2, .int a2)]) C0.1 C0.2.1 dX12_byRights_168 hl (by decide) rfl (fun ls hl => ?_)
                                        refine lv_iload C0.1 C0.2.1 dX12_byRights_170 (lv_at hl 0 rfl) ?_
                                        refine y_c1 (n := (-1)) C0 (by decide) dX12_byRights_172 (fun v_208 e_209 => ?_)
                                        refine y_icmp_eq (tgt := 189) C0 dX12_byRights_173 (by decide) (fun c_210 => ?_) (fun c_210 => ?_)
                                        · -- 173
                                          refine y_inc (kp := 2) (n := 1) (fun v_211 => [(6, .int v_211), (8, .int r_204), (7, .int r_193), (5, .int x5_91), (4, .int x4_61), (3, .int r_38), (0, .ref (ad 0)), (1, .int a1), (2, .int a2)]) C0 hl rfl (by decide) (by decide) (fun _ => rfl) (o36_555 b_172 b_173 hn_171 e_175 c_176 (le_min x6_165) (le_max x6_165) (le_min v_174) (le_max v_174)) (o36_556 b_172 b_173 hn_171 e_175 c_176 (le_min x6_165) (le_max x6_165) (le_min v_174) (le_max v_174)) dX12_byRights_189 (fun v_211 ls e_212 hl => ?_)
                                          refine lv_goto (tgt := 131) C0.1 C0.2.1 dX12_byRights_192 (by decide) ?_
                                          exact ih_169 v_211 _ _ _ _ (o36_557 b_172 b_173 hn_171 e_175 c_176 e_212) (o36_558 b_172 b_173 hn_171 e_175 c_176 e_212) (o36_559 b_172 b_173 hn_171 e_175 c_176 e_212) h (Fr.tr (Fr.tr hF_167 (Fr.mono u_191 (by decide))) (Fr.mono u_202 (by decide))) (lv_sub hl [0, 3, 4, 5, 6, 7, 8] rfl)
                                        · -- 173
                                          refine lv_aload_n C0.1 C0.2.1 dX12_byRights_176 rfl (lv_at hl 6 rfl) ?_
                                          refine ng_X12_metThen C0 h kSM_0 q_1470 dX12_byRights_177 ?_
                                          refine y_c1 (n := 4) C0 (by decide) dX12_byRights_180 (fun v_213 e_214 => ?_)
                                          refine lv_iload C0.1 C0.2.1 dX12_byRights_181 (lv_at hl 0 rfl) ?_
                                          refine y_cmul (n := 4) C0 (o36_28 e_214) (o36_526 e_205 e_206 e_209 c_210 (le_min r_204) (le_max r_204) (le_min v_208) (le_max v_208)) (o36_527 e_205 e_206 e_209 c_210 (le_min r_204) (le_max r_204) (le_min v_208) (le_max v_208)) dX12_byRights_183 (fun v_215 e_216 => ?_)
                                          refine lv_iload C0.1 C0.2.1 dX12_byRights_184 (lv_at hl 1 rfl) ?_
                                          refine y_add C0 (o36_560 e_194 e_195 e_205 e_206 e_209 c_210 e_216 (le_min v_215) (le_max v_215) (le_min r_193) (le_max r_193) (le_min r_204) (le_max r_204) (le_min v_208) (le_max v_208)) (o36_561 e_194 e_195 e_205 e_206 e_209 c_210 e_216 (le_min v_215) (le_max v_215) (le_min r_193) (le_max r_193) (le_min r_204) (le_max r_204) (le_min v_208) (le_max v_208)) dX12_byRights_186 (fun v_217 e_218 => ?_)
                                          refine y_c1 (n := 1) C0 (by decide) dX12_byRights_187 (fun v_219 e_220 => ?_)
                                          refine y_zast C0 h kSM_17 rfl (by decide) (o36_562 e_194 e_195 e_205 e_206 e_209 c_210 e_216 e_218) (o36_563 e_194 e_195 e_205 e_206 e_209 c_210 e_216 e_218) (o36_401 e_220) (o36_402 e_220) (o36_401 e_220) (o36_402 e_220) dX12_byRights_188 (fun H locs ws_221 h u_222 => ?_)
                                          refine y_inc (kp := 2) (n := 1) (fun v_223 => [(6, .int v_223), (8, .int r_204), (7, .int r_193), (5, .int x5_91), (4, .int x4_61), (3, .int r_38), (0, .ref (ad 0)), (1, .int a1), (2, .int a2)]) C0 hl rfl (by decide) (by decide) (fun _ => rfl) (o36_555 b_172 b_173 hn_171 e_175 c_176 (le_min x6_165) (le_max x6_165) (le_min v_174) (le_max v_174)) (o36_556 b_172 b_173 hn_171 e_175 c_176 (le_min x6_165) (le_max x6_165) (le_min v_174) (le_max v_174)) dX12_byRights_189 (fun v_223 ls e_224 hl => ?_)
                                          refine lv_goto (tgt := 131) C0.1 C0.2.1 dX12_byRights_192 (by decide) ?_
                                          exact ih_169 v_223 _ _ _ _ (o36_557 b_172 b_173 hn_171 e_175 c_176 e_224) (o36_558 b_172 b_173 hn_171 e_175 c_176 e_224) (o36_559 b_172 b_173 hn_171 e_175 c_176 e_224) h (Fr.tr (Fr.tr (Fr.tr hF_167 (Fr.mono u_191 (by decide))) (Fr.mono u_202 (by decide))) (Fr.up u_222.1 kSM_17 (by decide))) (lv_sub hl [0, 3, 4, 5, 6, 7, 8] rfl)
                                exact lp_168 ((2 - v_163.toInt + 1).toNat) v_163 _ _ _ _ (o36_564 e_164) (o36_61 e_164) (o36_565 e_164) h Fr.rf (lv_sub hl [0, 1, 2, 3, 4, 5, 6] rfl)
                          exact lp_94 ((100 - v_89.toInt + 1).toNat) v_89 _ _ _ _ (o36_192 e_90) (o36_61 e_90) (o36_193 e_90) h Fr.rf (lv_sub hl [0, 1, 2, 3, 4, 5] rfl)
                        · -- 97
                          refine lv_aload_n C0.1 C0.2.1 dX12_byRights_100 rfl (lv_at hl 3 rfl) ?_
                          refine ng_X12_metThen C0 h kSM_0 q_1470 dX12_byRights_101 ?_
                          refine lv_iload C0.1 C0.2.1 dX12_byRights_104 (lv_at hl 0 rfl) ?_
                          refine y_c1 (n := 0) C0 (by decide) dX12_byRights_106 (fun v_225 e_226 => ?_)
                          refine y_zast C0 h kSM_17 rfl (by decide) (o36_539 b_84 b_85 hn_83 e_87 c_88) (o36_540 b_84 b_85 hn_83 e_87 c_88) (o36_61 e_226) (o36_338 e_226) (o36_61 e_226) (o36_338 e_226) dX12_byRights_107 (fun H locs ws_227 h u_228 => ?_)
                          refine y_inc (kp := 0) (n := 1) (fun v_229 => [(5, .int v_229), (4, .int x4_61), (3, .int r_38), (0, .ref (ad 0)), (1, .int a1), (2, .int a2)]) C0 hl rfl (by decide) (by decide) (fun _ => rfl) (o36_541 b_84 b_85 hn_83 e_87 c_88 (le_min x5_77) (le_max x5_77) (le_min v_86) (le_max v_86)) (o36_542 b_84 b_85 hn_83 e_87 c_88 (le_min x5_77) (le_max x5_77) (le_min v_86) (le_max v_86)) dX12_byRights_108 (fun v_229 ls e_230 hl => ?_)
                          refine lv_goto (tgt := 93) C0.1 C0.2.1 dX12_byRights_111 (by decide) ?_
                          exact ih_81 v_229 _ _ _ _ (o36_543 b_84 b_85 hn_83 e_87 c_88 e_230) (o36_544 b_84 b_85 hn_83 e_87 c_88 e_230) (o36_545 b_84 b_85 hn_83 e_87 c_88 e_230) h (Fr.tr hF_79 (Fr.up u_228.1 kSM_17 (by decide))) (lv_sub hl [0, 1, 2, 3, 4, 5] rfl)
                    exact lp_80 ((100 - v_75.toInt + 1).toNat) v_75 _ _ _ _ (o36_192 e_76) (o36_61 e_76) (o36_193 e_76) h Fr.rf (lv_sub hl [0, 1, 2, 3, 4, 5] rfl)
              exact lp_64 ((61 - v_59.toInt + 1).toNat) v_59 _ _ _ _ (o36_566 e_60) (o36_567 e_60) (o36_568 e_60) h Fr.rf (lv_sub hl [0, 1, 2, 3, 4] rfl)
            · -- 49
              refine lv_aload_n C0.1 C0.2.1 dX12_byRights_52 rfl (lv_at hl 2 rfl) ?_
              refine ng_X12_met C0 h kSM_0 q_1469 dX12_byRights_53 ?_
              refine lv_iload C0.1 C0.2.1 dX12_byRights_56 (lv_at hl 0 rfl) ?_
              refine lv_iload C0.1 C0.2.1 dX12_byRights_58 (lv_at hl 0 rfl) ?_
              refine y_c1 (n := 4) C0 (by decide) dX12_byRights_60 (fun v_231 e_232 => ?_)
              refine lv_iload_n C0.1 C0.2.1 dX12_byRights_61 rfl (lv_at hl 3 rfl) ?_
              refine y_cmul (n := 4) C0 (o36_28 e_232) (o36_569 e_6 e_11 e_12 e_13 c_15 (le_min a1) (le_max a1) (le_min r_10) (le_max r_10)) (o36_570 e_6 e_11 e_12 e_13 c_15 (le_min a1) (le_max a1) (le_min r_10) (le_max r_10)) dX12_byRights_62 (fun v_233 e_234 => ?_)
              refine lv_iload_n C0.1 C0.2.1 dX12_byRights_63 rfl (lv_at hl 4 rfl) ?_
              refine y_add C0 (o36_571 e_6 e_11 e_12 e_13 c_15 e_22 e_23 e_24 c_25 e_234 (le_min v_233) (le_max v_233) (le_min a2) (le_max a2) (le_min a1) (le_max a1) (le_min r_10) (le_max r_10) (le_min r_21) (le_max r_21)) (o36_572 e_6 e_11 e_12 e_13 c_15 e_22 e_23 e_24 c_25 e_234 (le_min v_233) (le_max v_233) (le_min a2) (le_max a2) (le_min a1) (le_max a1) (le_min r_10) (le_max r_10) (le_min r_21) (le_max r_21)) dX12_byRights_64 (fun v_235 e_236 => ?_)
              refine y_icmp_ne (tgt := 72) C0 dX12_byRights_65 (by decide) (fun c_237 => ?_) (fun c_237 => ?_)
              · -- 65
                refine y_c1 (n := 0) C0 (by decide) dX12_byRights_72 (fun v_238 e_239 => ?_)
                refine y_zast C0 h kSM_16 rfl (by decide) (o36_573 e_6 e_11 e_12 e_13 c_15 e_22 e_23 e_24 c_25 b_54 b_55 hn_53 e_57 c_58 e_234 e_236 c_237) (o36_574 e_6 e_11 e_12 e_13 c_15 e_22 e_23 e_24 c_25 b_54 b_55 hn_53 e_57 c_58 e_234 e_236 c_237) (o36_61 e_239) (o36_338 e_239) (o36_61 e_239) (o36_338 e_239) dX12_byRights_73 (fun H locs ws_240 h u_241 => ?_)
                refine y_inc (kp := 0) (n := 1) (fun v_242 => [(4, .int v_242), (3, .int r_38), (0, .ref (ad 0)), (1, .int a1), (2, .int a2)]) C0 hl rfl (by decide) (by decide) (fun _ => rfl) (o36_575 e_6 e_11 e_12 e_13 c_15 e_22 e_23 e_24 c_25 b_54 b_55 hn_53 e_57 c_58 e_234 e_236 c_237 (le_min x4_47) (le_max x4_47) (le_min a1) (le_max a1) (le_min r_10) (le_max r_10) (le_min r_21) (le_max r_21) (le_min a2) (le_max a2) (le_min v_56) (le_max v_56) (le_min v_233) (le_max v_233) (le_min v_235) (le_max v_235)) (o36_576 e_6 e_11 e_12 e_13 c_15 e_22 e_23 e_24 c_25 b_54 b_55 hn_53 e_57 c_58 e_234 e_236 c_237 (le_min x4_47) (le_max x4_47) (le_min a1) (le_max a1) (le_min r_10) (le_max r_10) (le_min r_21) (le_max r_21) (le_min a2) (le_max a2) (le_min v_56) (le_max v_56) (le_min v_233) (le_max v_233) (le_min v_235) (le_max v_235)) dX12_byRights_74 (fun v_242 ls e_243 hl => ?_)
                refine lv_goto (tgt := 45) C0.1 C0.2.1 dX12_byRights_77 (by decide) ?_
                exact ih_51 v_242 _ _ _ _ (o36_577 e_6 e_11 e_12 e_13 c_15 e_22 e_23 e_24 c_25 b_54 b_55 hn_53 e_57 c_58 e_234 e_236 c_237 e_243) (o36_578 e_6 e_11 e_12 e_13 c_15 e_22 e_23 e_24 c_25 b_54 b_55 hn_53 e_57 c_58 e_234 e_236 c_237 e_243) (o36_579 e_6 e_11 e_12 e_13 c_15 e_22 e_23 e_24 c_25 b_54 b_55 hn_53 e_57 c_58 e_234 e_236 c_237 e_243) h (Fr.tr hF_49 (Fr.up u_241.1 kSM_16 (by decide))) (lv_sub hl [0, 1, 2, 3, 4] rfl)
              · -- 65
                refine y_c1 (n := 1) C0 (by decide) dX12_byRights_68 (fun v_244 e_245 => ?_)
                refine lv_goto (tgt := 73) C0.1 C0.2.1 dX12_byRights_69 (by decide) ?_
                refine y_zast C0 h kSM_16 rfl (by decide) (o36_580 e_6 e_11 e_12 e_13 c_15 e_22 e_23 e_24 c_25 b_54 b_55 hn_53 e_57 c_58 e_234 e_236 c_237) (o36_581 e_6 e_11 e_12 e_13 c_15 e_22 e_23 e_24 c_25 b_54 b_55 hn_53 e_57 c_58 e_234 e_236 c_237) (o36_401 e_245) (o36_402 e_245) (o36_401 e_245) (o36_402 e_245) dX12_byRights_73 (fun H locs ws_246 h u_247 => ?_)
                refine y_inc (kp := 0) (n := 1) (fun v_248 => [(4, .int v_248), (3, .int r_38), (0, .ref (ad 0)), (1, .int a1), (2, .int a2)]) C0 hl rfl (by decide) (by decide) (fun _ => rfl) (o36_582 e_6 e_11 e_12 e_13 c_15 e_22 e_23 e_24 c_25 b_54 b_55 hn_53 e_57 c_58 e_234 e_236 c_237 (le_min x4_47) (le_max x4_47) (le_min a1) (le_max a1) (le_min r_10) (le_max r_10) (le_min r_21) (le_max r_21) (le_min a2) (le_max a2) (le_min v_56) (le_max v_56) (le_min v_233) (le_max v_233) (le_min v_235) (le_max v_235)) (o36_583 e_6 e_11 e_12 e_13 c_15 e_22 e_23 e_24 c_25 b_54 b_55 hn_53 e_57 c_58 e_234 e_236 c_237 (le_min x4_47) (le_max x4_47) (le_min a1) (le_max a1) (le_min r_10) (le_max r_10) (le_min r_21) (le_max r_21) (le_min a2) (le_max a2) (le_min v_56) (le_max v_56) (le_min v_233) (le_max v_233) (le_min v_235) (le_max v_235)) dX12_byRights_74 (fun v_248 ls e_249 hl => ?_)
                refine lv_goto (tgt := 45) C0.1 C0.2.1 dX12_byRights_77 (by decide) ?_
                exact ih_51 v_248 _ _ _ _ (o36_584 e_6 e_11 e_12 e_13 c_15 e_22 e_23 e_24 c_25 b_54 b_55 hn_53 e_57 c_58 e_234 e_236 c_237 e_249) (o36_585 e_6 e_11 e_12 e_13 c_15 e_22 e_23 e_24 c_25 b_54 b_55 hn_53 e_57 c_58 e_234 e_236 c_237 e_249) (o36_586 e_6 e_11 e_12 e_13 c_15 e_22 e_23 e_24 c_25 b_54 b_55 hn_53 e_57 c_58 e_234 e_236 c_237 e_249) h (Fr.tr hF_49 (Fr.up u_247.1 kSM_16 (by decide))) (lv_sub hl [0, 1, 2, 3, 4] rfl)
        exact lp_50 ((100 - v_45.toInt + 1).toNat) v_45 _ _ _ _ (o36_192 e_46) (o36_61 e_46) (o36_193 e_46) h Fr.rf (lv_sub hl [0, 1, 2, 3, 4] rfl)
      · -- 37
        refine y_c1 (n := (-1)) C0 (by decide) dX12_byRights_40 (fun v_250 e_251 => ?_)
        rw [hQ]
        exact y_iret C0 h (Fr.tr (Fr.tr (Fr.tr (Fr.tr (Fr.up u_4.1 kSM_0 (by decide)) (Fr.mono u_8 (by decide))) (Fr.mono u_19 (by decide))) (Fr.mono u_29 (by decide))) (Fr.mono u_36 (by decide))) ⟨(o36_520 e_251), (o36_323 e_251)⟩ dX12_byRights_41
    · -- 18
      refine y_c2 (n := (-2)) C0 (by decide) dX12_byRights_21 (fun v_252 e_253 => ?_)
      rw [hQ]
      exact y_iret C0 h (Fr.tr (Fr.tr (Fr.up u_4.1 kSM_0 (by decide)) (Fr.mono u_8 (by decide))) (Fr.mono u_19 (by decide))) ⟨(o36_511 e_253), (o36_350 e_253)⟩ dX12_byRights_23
