theorem dX12_byRights_0 : decode cX12_byRights 0 = .ok (.aload_n 0, 1) := by decide +kernel
theorem dX12_byRights_1 : decode cX12_byRights 1 = .ok (.iconst 0, 1) := by decide +kernel
theorem dX12_byRights_2 : decode cX12_byRights 2 = .ok (.putfield 1, 3) := by decide +kernel
theorem dX12_byRights_5 : decode cX12_byRights 5 = .ok (.aload_n 0, 1) := by decide +kernel
theorem dX12_byRights_6 : decode cX12_byRights 6 = .ok (.iload_n 1, 1) := by decide +kernel
theorem dX12_byRights_7 : decode cX12_byRights 7 = .ok (.i2l, 1) := by decide +kernel
theorem dX12_byRights_8 : decode cX12_byRights 8 = .ok (.invokevirtual 257, 3) := by decide +kernel
theorem dX12_byRights_11 : decode cX12_byRights 11 = .ok (.ifCond .eq 10, 3) := by decide +kernel
theorem dX12_byRights_14 : decode cX12_byRights 14 = .ok (.iload_n 2, 1) := by decide +kernel
theorem dX12_byRights_15 : decode cX12_byRights 15 = .ok (.invokestatic 260, 3) := by decide +kernel
theorem dX12_byRights_18 : decode cX12_byRights 18 = .ok (.ifCond .ne 6, 3) := by decide +kernel
theorem dX12_byRights_21 : decode cX12_byRights 21 = .ok (.bipush (-2), 2) := by decide +kernel
theorem dX12_byRights_23 : decode cX12_byRights 23 = .ok (.ireturn, 1) := by decide +kernel
theorem dX12_byRights_24 : decode cX12_byRights 24 = .ok (.aload_n 0, 1) := by decide +kernel
theorem dX12_byRights_25 : decode cX12_byRights 25 = .ok (.iload_n 1, 1) := by decide +kernel
theorem dX12_byRights_26 : decode cX12_byRights 26 = .ok (.iload_n 2, 1) := by decide +kernel
theorem dX12_byRights_27 : decode cX12_byRights 27 = .ok (.iconst 2, 1) := by decide +kernel
theorem dX12_byRights_28 : decode cX12_byRights 28 = .ok (.invokestatic 278, 3) := by decide +kernel
theorem dX12_byRights_31 : decode cX12_byRights 31 = .ok (.invokevirtual 263, 3) := by decide +kernel
theorem dX12_byRights_34 : decode cX12_byRights 34 = .ok (.istore_n 3, 1) := by decide +kernel
theorem dX12_byRights_35 : decode cX12_byRights 35 = .ok (.iload_n 3, 1) := by decide +kernel
theorem dX12_byRights_36 : decode cX12_byRights 36 = .ok (.iconst (-1), 1) := by decide +kernel
theorem dX12_byRights_37 : decode cX12_byRights 37 = .ok (.if_icmp .ne 5, 3) := by decide +kernel
theorem dX12_byRights_40 : decode cX12_byRights 40 = .ok (.iconst (-1), 1) := by decide +kernel
theorem dX12_byRights_41 : decode cX12_byRights 41 = .ok (.ireturn, 1) := by decide +kernel
theorem dX12_byRights_42 : decode cX12_byRights 42 = .ok (.iconst 0, 1) := by decide +kernel
theorem dX12_byRights_43 : decode cX12_byRights 43 = .ok (.istore 4, 2) := by decide +kernel
theorem dX12_byRights_45 : decode cX12_byRights 45 = .ok (.iload 4, 2) := by decide +kernel
theorem dX12_byRights_47 : decode cX12_byRights 47 = .ok (.bipush 100, 2) := by decide +kernel
theorem dX12_byRights_49 : decode cX12_byRights 49 = .ok (.if_icmp .ge 31, 3) := by decide +kernel
theorem dX12_byRights_52 : decode cX12_byRights 52 = .ok (.aload_n 0, 1) := by decide +kernel
theorem dX12_byRights_53 : decode cX12_byRights 53 = .ok (.getfield 64, 3) := by decide +kernel
theorem dX12_byRights_56 : decode cX12_byRights 56 = .ok (.iload 4, 2) := by decide +kernel
theorem dX12_byRights_58 : decode cX12_byRights 58 = .ok (.iload 4, 2) := by decide +kernel
theorem dX12_byRights_60 : decode cX12_byRights 60 = .ok (.iconst 4, 1) := by decide +kernel
theorem dX12_byRights_61 : decode cX12_byRights 61 = .ok (.iload_n 1, 1) := by decide +kernel
theorem dX12_byRights_62 : decode cX12_byRights 62 = .ok (.imul, 1) := by decide +kernel
theorem dX12_byRights_63 : decode cX12_byRights 63 = .ok (.iload_n 2, 1) := by decide +kernel
theorem dX12_byRights_64 : decode cX12_byRights 64 = .ok (.iadd, 1) := by decide +kernel
theorem dX12_byRights_65 : decode cX12_byRights 65 = .ok (.if_icmp .ne 7, 3) := by decide +kernel
theorem dX12_byRights_68 : decode cX12_byRights 68 = .ok (.iconst 1, 1) := by decide +kernel
theorem dX12_byRights_69 : decode cX12_byRights 69 = .ok (.goto 4, 3) := by decide +kernel
theorem dX12_byRights_72 : decode cX12_byRights 72 = .ok (.iconst 0, 1) := by decide +kernel
theorem dX12_byRights_73 : decode cX12_byRights 73 = .ok (.bastore, 1) := by decide +kernel
theorem dX12_byRights_74 : decode cX12_byRights 74 = .ok (.iinc 4 1, 3) := by decide +kernel
theorem dX12_byRights_77 : decode cX12_byRights 77 = .ok (.goto (-32), 3) := by decide +kernel
theorem dX12_byRights_80 : decode cX12_byRights 80 = .ok (.iconst 1, 1) := by decide +kernel
theorem dX12_byRights_81 : decode cX12_byRights 81 = .ok (.istore 4, 2) := by decide +kernel
theorem dX12_byRights_83 : decode cX12_byRights 83 = .ok (.iload 4, 2) := by decide +kernel
theorem dX12_byRights_85 : decode cX12_byRights 85 = .ok (.bipush 60, 2) := by decide +kernel
theorem dX12_byRights_87 : decode cX12_byRights 87 = .ok (.if_icmp .gt 182, 3) := by decide +kernel
theorem dX12_byRights_90 : decode cX12_byRights 90 = .ok (.iconst 0, 1) := by decide +kernel
theorem dX12_byRights_91 : decode cX12_byRights 91 = .ok (.istore 5, 2) := by decide +kernel
theorem dX12_byRights_93 : decode cX12_byRights 93 = .ok (.iload 5, 2) := by decide +kernel
theorem dX12_byRights_95 : decode cX12_byRights 95 = .ok (.bipush 100, 2) := by decide +kernel
theorem dX12_byRights_97 : decode cX12_byRights 97 = .ok (.if_icmp .ge 17, 3) := by decide +kernel
theorem dX12_byRights_100 : decode cX12_byRights 100 = .ok (.aload_n 0, 1) := by decide +kernel
theorem dX12_byRights_101 : decode cX12_byRights 101 = .ok (.getfield 67, 3) := by decide +kernel
theorem dX12_byRights_104 : decode cX12_byRights 104 = .ok (.iload 5, 2) := by decide +kernel
theorem dX12_byRights_106 : decode cX12_byRights 106 = .ok (.iconst 0, 1) := by decide +kernel
theorem dX12_byRights_107 : decode cX12_byRights 107 = .ok (.bastore, 1) := by decide +kernel
theorem dX12_byRights_108 : decode cX12_byRights 108 = .ok (.iinc 5 1, 3) := by decide +kernel
theorem dX12_byRights_111 : decode cX12_byRights 111 = .ok (.goto (-18), 3) := by decide +kernel
theorem dX12_byRights_114 : decode cX12_byRights 114 = .ok (.iconst 0, 1) := by decide +kernel
theorem dX12_byRights_115 : decode cX12_byRights 115 = .ok (.istore 5, 2) := by decide +kernel
theorem dX12_byRights_117 : decode cX12_byRights 117 = .ok (.iload 5, 2) := by decide +kernel
theorem dX12_byRights_119 : decode cX12_byRights 119 = .ok (.iconst 4, 1) := by decide +kernel
theorem dX12_byRights_120 : decode cX12_byRights 120 = .ok (.aload_n 0, 1) := by decide +kernel
theorem dX12_byRights_121 : decode cX12_byRights 121 = .ok (.invokevirtual 233, 3) := by decide +kernel
theorem dX12_byRights_124 : decode cX12_byRights 124 = .ok (.imul, 1) := by decide +kernel
theorem dX12_byRights_125 : decode cX12_byRights 125 = .ok (.if_icmp .ge 76, 3) := by decide +kernel
theorem dX12_byRights_128 : decode cX12_byRights 128 = .ok (.iconst 0, 1) := by decide +kernel
theorem dX12_byRights_129 : decode cX12_byRights 129 = .ok (.istore 6, 2) := by decide +kernel
theorem dX12_byRights_131 : decode cX12_byRights 131 = .ok (.iload 6, 2) := by decide +kernel
theorem dX12_byRights_133 : decode cX12_byRights 133 = .ok (.iconst 2, 1) := by decide +kernel
theorem dX12_byRights_134 : decode cX12_byRights 134 = .ok (.if_icmp .ge 61, 3) := by decide +kernel
theorem dX12_byRights_137 : decode cX12_byRights 137 = .ok (.aload_n 0, 1) := by decide +kernel
theorem dX12_byRights_138 : decode cX12_byRights 138 = .ok (.getfield 64, 3) := by decide +kernel
theorem dX12_byRights_141 : decode cX12_byRights 141 = .ok (.iload 5, 2) := by decide +kernel
theorem dX12_byRights_143 : decode cX12_byRights 143 = .ok (.baload, 1) := by decide +kernel
theorem dX12_byRights_144 : decode cX12_byRights 144 = .ok (.ifCond .eq 51, 3) := by decide +kernel
theorem dX12_byRights_147 : decode cX12_byRights 147 = .ok (.iload 5, 2) := by decide +kernel
theorem dX12_byRights_149 : decode cX12_byRights 149 = .ok (.iconst 4, 1) := by decide +kernel
theorem dX12_byRights_150 : decode cX12_byRights 150 = .ok (.irem, 1) := by decide +kernel
theorem dX12_byRights_151 : decode cX12_byRights 151 = .ok (.iload 6, 2) := by decide +kernel
theorem dX12_byRights_153 : decode cX12_byRights 153 = .ok (.invokestatic 278, 3) := by decide +kernel
theorem dX12_byRights_156 : decode cX12_byRights 156 = .ok (.istore 7, 2) := by decide +kernel
theorem dX12_byRights_158 : decode cX12_byRights 158 = .ok (.aload_n 0, 1) := by decide +kernel
theorem dX12_byRights_159 : decode cX12_byRights 159 = .ok (.iload 5, 2) := by decide +kernel
theorem dX12_byRights_161 : decode cX12_byRights 161 = .ok (.iconst 4, 1) := by decide +kernel
theorem dX12_byRights_162 : decode cX12_byRights 162 = .ok (.idiv, 1) := by decide +kernel
theorem dX12_byRights_163 : decode cX12_byRights 163 = .ok (.iload 7, 2) := by decide +kernel
theorem dX12_byRights_165 : decode cX12_byRights 165 = .ok (.invokevirtual 263, 3) := by decide +kernel
theorem dX12_byRights_168 : decode cX12_byRights 168 = .ok (.istore 8, 2) := by decide +kernel
theorem dX12_byRights_170 : decode cX12_byRights 170 = .ok (.iload 8, 2) := by decide +kernel
theorem dX12_byRights_172 : decode cX12_byRights 172 = .ok (.iconst (-1), 1) := by decide +kernel
theorem dX12_byRights_173 : decode cX12_byRights 173 = .ok (.if_icmp .eq 16, 3) := by decide +kernel
theorem dX12_byRights_176 : decode cX12_byRights 176 = .ok (.aload_n 0, 1) := by decide +kernel
theorem dX12_byRights_177 : decode cX12_byRights 177 = .ok (.getfield 67, 3) := by decide +kernel
theorem dX12_byRights_180 : decode cX12_byRights 180 = .ok (.iconst 4, 1) := by decide +kernel
theorem dX12_byRights_181 : decode cX12_byRights 181 = .ok (.iload 8, 2) := by decide +kernel
theorem dX12_byRights_183 : decode cX12_byRights 183 = .ok (.imul, 1) := by decide +kernel
theorem dX12_byRights_184 : decode cX12_byRights 184 = .ok (.iload 7, 2) := by decide +kernel
theorem dX12_byRights_186 : decode cX12_byRights 186 = .ok (.iadd, 1) := by decide +kernel
theorem dX12_byRights_187 : decode cX12_byRights 187 = .ok (.iconst 1, 1) := by decide +kernel
theorem dX12_byRights_188 : decode cX12_byRights 188 = .ok (.bastore, 1) := by decide +kernel
theorem dX12_byRights_189 : decode cX12_byRights 189 = .ok (.iinc 6 1, 3) := by decide +kernel
theorem dX12_byRights_192 : decode cX12_byRights 192 = .ok (.goto (-61), 3) := by decide +kernel
theorem dX12_byRights_195 : decode cX12_byRights 195 = .ok (.iinc 5 1, 3) := by decide +kernel
theorem dX12_byRights_198 : decode cX12_byRights 198 = .ok (.goto (-81), 3) := by decide +kernel
theorem dX12_byRights_201 : decode cX12_byRights 201 = .ok (.iconst 0, 1) := by decide +kernel
theorem dX12_byRights_202 : decode cX12_byRights 202 = .ok (.istore 5, 2) := by decide +kernel
theorem dX12_byRights_204 : decode cX12_byRights 204 = .ok (.iload 5, 2) := by decide +kernel
theorem dX12_byRights_206 : decode cX12_byRights 206 = .ok (.bipush 100, 2) := by decide +kernel
theorem dX12_byRights_208 : decode cX12_byRights 208 = .ok (.if_icmp .ge 23, 3) := by decide +kernel
theorem dX12_byRights_211 : decode cX12_byRights 211 = .ok (.aload_n 0, 1) := by decide +kernel
theorem dX12_byRights_212 : decode cX12_byRights 212 = .ok (.getfield 64, 3) := by decide +kernel
theorem dX12_byRights_215 : decode cX12_byRights 215 = .ok (.iload 5, 2) := by decide +kernel
theorem dX12_byRights_217 : decode cX12_byRights 217 = .ok (.aload_n 0, 1) := by decide +kernel
theorem dX12_byRights_218 : decode cX12_byRights 218 = .ok (.getfield 67, 3) := by decide +kernel
theorem dX12_byRights_221 : decode cX12_byRights 221 = .ok (.iload 5, 2) := by decide +kernel
theorem dX12_byRights_223 : decode cX12_byRights 223 = .ok (.baload, 1) := by decide +kernel
theorem dX12_byRights_224 : decode cX12_byRights 224 = .ok (.bastore, 1) := by decide +kernel
theorem dX12_byRights_225 : decode cX12_byRights 225 = .ok (.iinc 5 1, 3) := by decide +kernel
theorem dX12_byRights_228 : decode cX12_byRights 228 = .ok (.goto (-24), 3) := by decide +kernel
theorem dX12_byRights_231 : decode cX12_byRights 231 = .ok (.iconst 0, 1) := by decide +kernel
theorem dX12_byRights_232 : decode cX12_byRights 232 = .ok (.istore 5, 2) := by decide +kernel
theorem dX12_byRights_234 : decode cX12_byRights 234 = .ok (.iload 5, 2) := by decide +kernel
theorem dX12_byRights_236 : decode cX12_byRights 236 = .ok (.iconst 4, 1) := by decide +kernel
theorem dX12_byRights_237 : decode cX12_byRights 237 = .ok (.if_icmp .ge 26, 3) := by decide +kernel
theorem dX12_byRights_240 : decode cX12_byRights 240 = .ok (.aload_n 0, 1) := by decide +kernel
theorem dX12_byRights_241 : decode cX12_byRights 241 = .ok (.getfield 64, 3) := by decide +kernel
theorem dX12_byRights_244 : decode cX12_byRights 244 = .ok (.iconst 4, 1) := by decide +kernel
theorem dX12_byRights_245 : decode cX12_byRights 245 = .ok (.iload_n 3, 1) := by decide +kernel
theorem dX12_byRights_246 : decode cX12_byRights 246 = .ok (.imul, 1) := by decide +kernel
theorem dX12_byRights_247 : decode cX12_byRights 247 = .ok (.iload 5, 2) := by decide +kernel
theorem dX12_byRights_249 : decode cX12_byRights 249 = .ok (.iadd, 1) := by decide +kernel
theorem dX12_byRights_250 : decode cX12_byRights 250 = .ok (.baload, 1) := by decide +kernel
theorem dX12_byRights_251 : decode cX12_byRights 251 = .ok (.ifCond .eq 6, 3) := by decide +kernel
theorem dX12_byRights_254 : decode cX12_byRights 254 = .ok (.iload 4, 2) := by decide +kernel
theorem dX12_byRights_256 : decode cX12_byRights 256 = .ok (.ireturn, 1) := by decide +kernel
theorem dX12_byRights_257 : decode cX12_byRights 257 = .ok (.iinc 5 1, 3) := by decide +kernel
theorem dX12_byRights_260 : decode cX12_byRights 260 = .ok (.goto (-26), 3) := by decide +kernel
theorem dX12_byRights_263 : decode cX12_byRights 263 = .ok (.iinc 4 1, 3) := by decide +kernel
theorem dX12_byRights_266 : decode cX12_byRights 266 = .ok (.goto (-183), 3) := by decide +kernel
theorem dX12_byRights_269 : decode cX12_byRights 269 = .ok (.iconst (-1), 1) := by decide +kernel
theorem dX12_byRights_270 : decode cX12_byRights 270 = .ok (.ireturn, 1) := by decide +kernel
theorem dX12_cheapest_0 : decode cX12_cheapest 0 = .ok (.aload_n 0, 1) := by decide +kernel
theorem dX12_cheapest_1 : decode cX12_cheapest 1 = .ok (.iconst 0, 1) := by decide +kernel
theorem dX12_cheapest_2 : decode cX12_cheapest 2 = .ok (.putfield 1, 3) := by decide +kernel
theorem dX12_cheapest_5 : decode cX12_cheapest 5 = .ok (.aload_n 0, 1) := by decide +kernel
theorem dX12_cheapest_6 : decode cX12_cheapest 6 = .ok (.iload_n 1, 1) := by decide +kernel
theorem dX12_cheapest_7 : decode cX12_cheapest 7 = .ok (.iload_n 2, 1) := by decide +kernel
theorem dX12_cheapest_8 : decode cX12_cheapest 8 = .ok (.invokevirtual 376, 3) := by decide +kernel
theorem dX12_cheapest_11 : decode cX12_cheapest 11 = .ok (.ifCond .ne 6, 3) := by decide +kernel
theorem dX12_cheapest_14 : decode cX12_cheapest 14 = .ok (.bipush (-2), 2) := by decide +kernel
theorem dX12_cheapest_16 : decode cX12_cheapest 16 = .ok (.ireturn, 1) := by decide +kernel
theorem dX12_cheapest_17 : decode cX12_cheapest 17 = .ok (.iload_n 3, 1) := by decide +kernel
theorem dX12_cheapest_18 : decode cX12_cheapest 18 = .ok (.i2l, 1) := by decide +kernel
theorem dX12_cheapest_19 : decode cX12_cheapest 19 = .ok (.lconst 0, 1) := by decide +kernel
theorem dX12_cheapest_20 : decode cX12_cheapest 20 = .ok (.ldc2_w 342, 3) := by decide +kernel
theorem dX12_cheapest_23 : decode cX12_cheapest 23 = .ok (.invokestatic 161, 3) := by decide +kernel
theorem dX12_cheapest_26 : decode cX12_cheapest 26 = .ok (.ifCond .ne 6, 3) := by decide +kernel
theorem dX12_cheapest_29 : decode cX12_cheapest 29 = .ok (.bipush (-3), 2) := by decide +kernel
theorem dX12_cheapest_31 : decode cX12_cheapest 31 = .ok (.ireturn, 1) := by decide +kernel
theorem dX12_cheapest_32 : decode cX12_cheapest 32 = .ok (.aload_n 0, 1) := by decide +kernel
theorem dX12_cheapest_33 : decode cX12_cheapest 33 = .ok (.iload_n 1, 1) := by decide +kernel
theorem dX12_cheapest_34 : decode cX12_cheapest 34 = .ok (.iload_n 3, 1) := by decide +kernel
theorem dX12_cheapest_35 : decode cX12_cheapest 35 = .ok (.iconst 1, 1) := by decide +kernel
theorem dX12_cheapest_36 : decode cX12_cheapest 36 = .ok (.invokevirtual 369, 3) := by decide +kernel
theorem dX12_cheapest_39 : decode cX12_cheapest 39 = .ok (.aload_n 0, 1) := by decide +kernel
theorem dX12_cheapest_40 : decode cX12_cheapest 40 = .ok (.iload_n 2, 1) := by decide +kernel
theorem dX12_cheapest_41 : decode cX12_cheapest 41 = .ok (.iload_n 3, 1) := by decide +kernel
theorem dX12_cheapest_42 : decode cX12_cheapest 42 = .ok (.invokevirtual 398, 3) := by decide +kernel
theorem dX12_cheapest_45 : decode cX12_cheapest 45 = .ok (.invokestatic 401, 3) := by decide +kernel
theorem dX12_cheapest_48 : decode cX12_cheapest 48 = .ok (.ireturn, 1) := by decide +kernel
theorem dX12_costOf_0 : decode cX12_costOf 0 = .ok (.iload_n 3, 1) := by decide +kernel
theorem dX12_costOf_1 : decode cX12_costOf 1 = .ok (.iload 4, 2) := by decide +kernel
theorem dX12_costOf_3 : decode cX12_costOf 3 = .ok (.invokestatic 278, 3) := by decide +kernel
theorem dX12_costOf_6 : decode cX12_costOf 6 = .ok (.istore 6, 2) := by decide +kernel
theorem dX12_costOf_8 : decode cX12_costOf 8 = .ok (.aload_n 0, 1) := by decide +kernel
theorem dX12_costOf_9 : decode cX12_costOf 9 = .ok (.iload_n 2, 1) := by decide +kernel
theorem dX12_costOf_10 : decode cX12_costOf 10 = .ok (.iload 6, 2) := by decide +kernel
theorem dX12_costOf_12 : decode cX12_costOf 12 = .ok (.invokevirtual 263, 3) := by decide +kernel
theorem dX12_costOf_15 : decode cX12_costOf 15 = .ok (.iconst (-1), 1) := by decide +kernel
theorem dX12_costOf_16 : decode cX12_costOf 16 = .ok (.if_icmp .eq 28, 3) := by decide +kernel
theorem dX12_costOf_19 : decode cX12_costOf 19 = .ok (.iload 4, 2) := by decide +kernel
theorem dX12_costOf_21 : decode cX12_costOf 21 = .ok (.iconst 1, 1) := by decide +kernel
theorem dX12_costOf_22 : decode cX12_costOf 22 = .ok (.if_icmp .le 26, 3) := by decide +kernel
theorem dX12_costOf_25 : decode cX12_costOf 25 = .ok (.aload_n 0, 1) := by decide +kernel
theorem dX12_costOf_26 : decode cX12_costOf 26 = .ok (.getfield 48, 3) := by decide +kernel
theorem dX12_costOf_29 : decode cX12_costOf 29 = .ok (.bipush 100, 2) := by decide +kernel
theorem dX12_costOf_31 : decode cX12_costOf 31 = .ok (.iload_n 1, 1) := by decide +kernel
theorem dX12_costOf_32 : decode cX12_costOf 32 = .ok (.imul, 1) := by decide +kernel
theorem dX12_costOf_33 : decode cX12_costOf 33 = .ok (.iconst 4, 1) := by decide +kernel
theorem dX12_costOf_34 : decode cX12_costOf 34 = .ok (.iload_n 2, 1) := by decide +kernel
theorem dX12_costOf_35 : decode cX12_costOf 35 = .ok (.imul, 1) := by decide +kernel
theorem dX12_costOf_36 : decode cX12_costOf 36 = .ok (.iadd, 1) := by decide +kernel
theorem dX12_costOf_37 : decode cX12_costOf 37 = .ok (.iload 6, 2) := by decide +kernel
theorem dX12_costOf_39 : decode cX12_costOf 39 = .ok (.iadd, 1) := by decide +kernel
theorem dX12_costOf_40 : decode cX12_costOf 40 = .ok (.baload, 1) := by decide +kernel
theorem dX12_costOf_41 : decode cX12_costOf 41 = .ok (.ifCond .ne 7, 3) := by decide +kernel
theorem dX12_costOf_44 : decode cX12_costOf 44 = .ok (.ldc_w 351, 3) := by decide +kernel
theorem dX12_costOf_47 : decode cX12_costOf 47 = .ok (.ireturn, 1) := by decide +kernel
theorem dX12_costOf_48 : decode cX12_costOf 48 = .ok (.iload 4, 2) := by decide +kernel
theorem dX12_costOf_50 : decode cX12_costOf 50 = .ok (.iconst 2, 1) := by decide +kernel
theorem dX12_costOf_51 : decode cX12_costOf 51 = .ok (.if_icmp .lt 17, 3) := by decide +kernel
theorem dX12_costOf_54 : decode cX12_costOf 54 = .ok (.aload_n 0, 1) := by decide +kernel
theorem dX12_costOf_55 : decode cX12_costOf 55 = .ok (.getfield 51, 3) := by decide +kernel
theorem dX12_costOf_58 : decode cX12_costOf 58 = .ok (.bipush 25, 2) := by decide +kernel
theorem dX12_costOf_60 : decode cX12_costOf 60 = .ok (.iload_n 1, 1) := by decide +kernel
theorem dX12_costOf_61 : decode cX12_costOf 61 = .ok (.imul, 1) := by decide +kernel
theorem dX12_costOf_62 : decode cX12_costOf 62 = .ok (.iload_n 2, 1) := by decide +kernel
theorem dX12_costOf_63 : decode cX12_costOf 63 = .ok (.iadd, 1) := by decide +kernel
theorem dX12_costOf_64 : decode cX12_costOf 64 = .ok (.baload, 1) := by decide +kernel
theorem dX12_costOf_65 : decode cX12_costOf 65 = .ok (.ifCond .eq 5, 3) := by decide +kernel
theorem dX12_costOf_68 : decode cX12_costOf 68 = .ok (.iconst 0, 1) := by decide +kernel
theorem dX12_costOf_69 : decode cX12_costOf 69 = .ok (.ireturn, 1) := by decide +kernel
theorem dX12_costOf_70 : decode cX12_costOf 70 = .ok (.iload 4, 2) := by decide +kernel
theorem dX12_costOf_72 : decode cX12_costOf 72 = .ok (.invokestatic 287, 3) := by decide +kernel
theorem dX12_costOf_75 : decode cX12_costOf 75 = .ok (.iload 5, 2) := by decide +kernel
theorem dX12_costOf_77 : decode cX12_costOf 77 = .ok (.ifCond .eq 22, 3) := by decide +kernel
theorem dX12_costOf_80 : decode cX12_costOf 80 = .ok (.aload_n 0, 1) := by decide +kernel
theorem dX12_costOf_81 : decode cX12_costOf 81 = .ok (.getfield 45, 3) := by decide +kernel
theorem dX12_costOf_84 : decode cX12_costOf 84 = .ok (.bipush 100, 2) := by decide +kernel
theorem dX12_costOf_86 : decode cX12_costOf 86 = .ok (.iload_n 1, 1) := by decide +kernel
theorem dX12_costOf_87 : decode cX12_costOf 87 = .ok (.imul, 1) := by decide +kernel
theorem dX12_costOf_88 : decode cX12_costOf 88 = .ok (.iconst 4, 1) := by decide +kernel
theorem dX12_costOf_89 : decode cX12_costOf 89 = .ok (.iload_n 2, 1) := by decide +kernel
theorem dX12_costOf_90 : decode cX12_costOf 90 = .ok (.imul, 1) := by decide +kernel
theorem dX12_costOf_91 : decode cX12_costOf 91 = .ok (.iadd, 1) := by decide +kernel
theorem dX12_costOf_92 : decode cX12_costOf 92 = .ok (.iload 6, 2) := by decide +kernel
theorem dX12_costOf_94 : decode cX12_costOf 94 = .ok (.iadd, 1) := by decide +kernel
theorem dX12_costOf_95 : decode cX12_costOf 95 = .ok (.iaload, 1) := by decide +kernel
theorem dX12_costOf_96 : decode cX12_costOf 96 = .ok (.goto 4, 3) := by decide +kernel
theorem dX12_costOf_99 : decode cX12_costOf 99 = .ok (.iconst 1, 1) := by decide +kernel
theorem dX12_costOf_100 : decode cX12_costOf 100 = .ok (.imul, 1) := by decide +kernel
theorem dX12_costOf_101 : decode cX12_costOf 101 = .ok (.ireturn, 1) := by decide +kernel
theorem dX12_countsOn_0 : decode cX12_countsOn 0 = .ok (.iconst 0, 1) := by decide +kernel
theorem dX12_countsOn_1 : decode cX12_countsOn 1 = .ok (.istore 4, 2) := by decide +kernel
theorem dX12_countsOn_3 : decode cX12_countsOn 3 = .ok (.iload 4, 2) := by decide +kernel
theorem dX12_countsOn_5 : decode cX12_countsOn 5 = .ok (.iconst 4, 1) := by decide +kernel
theorem dX12_countsOn_6 : decode cX12_countsOn 6 = .ok (.if_icmp .ge 111, 3) := by decide +kernel
theorem dX12_countsOn_9 : decode cX12_countsOn 9 = .ok (.aload_n 0, 1) := by decide +kernel
theorem dX12_countsOn_10 : decode cX12_countsOn 10 = .ok (.iload_n 1, 1) := by decide +kernel
theorem dX12_countsOn_11 : decode cX12_countsOn 11 = .ok (.iload_n 2, 1) := by decide +kernel
theorem dX12_countsOn_12 : decode cX12_countsOn 12 = .ok (.iconst 4, 1) := by decide +kernel
theorem dX12_countsOn_13 : decode cX12_countsOn 13 = .ok (.idiv, 1) := by decide +kernel
theorem dX12_countsOn_14 : decode cX12_countsOn 14 = .ok (.iload_n 2, 1) := by decide +kernel
theorem dX12_countsOn_15 : decode cX12_countsOn 15 = .ok (.iconst 4, 1) := by decide +kernel
theorem dX12_countsOn_16 : decode cX12_countsOn 16 = .ok (.irem, 1) := by decide +kernel
theorem dX12_countsOn_17 : decode cX12_countsOn 17 = .ok (.iload 4, 2) := by decide +kernel
theorem dX12_countsOn_19 : decode cX12_countsOn 19 = .ok (.iconst 0, 1) := by decide +kernel
theorem dX12_countsOn_20 : decode cX12_countsOn 20 = .ok (.invokevirtual 352, 3) := by decide +kernel
theorem dX12_countsOn_23 : decode cX12_countsOn 23 = .ok (.istore 5, 2) := by decide +kernel
theorem dX12_countsOn_25 : decode cX12_countsOn 25 = .ok (.iload 5, 2) := by decide +kernel
theorem dX12_countsOn_27 : decode cX12_countsOn 27 = .ok (.ldc_w 351, 3) := by decide +kernel
theorem dX12_countsOn_30 : decode cX12_countsOn 30 = .ok (.if_icmp .ne 6, 3) := by decide +kernel
theorem dX12_countsOn_33 : decode cX12_countsOn 33 = .ok (.goto 78, 3) := by decide +kernel
theorem dX12_countsOn_36 : decode cX12_countsOn 36 = .ok (.iload_n 2, 1) := by decide +kernel
theorem dX12_countsOn_37 : decode cX12_countsOn 37 = .ok (.iconst 4, 1) := by decide +kernel
theorem dX12_countsOn_38 : decode cX12_countsOn 38 = .ok (.irem, 1) := by decide +kernel
theorem dX12_countsOn_39 : decode cX12_countsOn 39 = .ok (.iload 4, 2) := by decide +kernel
theorem dX12_countsOn_41 : decode cX12_countsOn 41 = .ok (.invokestatic 278, 3) := by decide +kernel
theorem dX12_countsOn_44 : decode cX12_countsOn 44 = .ok (.istore 6, 2) := by decide +kernel
theorem dX12_countsOn_46 : decode cX12_countsOn 46 = .ok (.iconst 4, 1) := by decide +kernel
theorem dX12_countsOn_47 : decode cX12_countsOn 47 = .ok (.aload_n 0, 1) := by decide +kernel
theorem dX12_countsOn_48 : decode cX12_countsOn 48 = .ok (.iload_n 2, 1) := by decide +kernel
theorem dX12_countsOn_49 : decode cX12_countsOn 49 = .ok (.iconst 4, 1) := by decide +kernel
theorem dX12_countsOn_50 : decode cX12_countsOn 50 = .ok (.idiv, 1) := by decide +kernel
theorem dX12_countsOn_51 : decode cX12_countsOn 51 = .ok (.iload 6, 2) := by decide +kernel
theorem dX12_countsOn_53 : decode cX12_countsOn 53 = .ok (.invokevirtual 263, 3) := by decide +kernel
theorem dX12_countsOn_56 : decode cX12_countsOn 56 = .ok (.imul, 1) := by decide +kernel
theorem dX12_countsOn_57 : decode cX12_countsOn 57 = .ok (.iload 6, 2) := by decide +kernel
theorem dX12_countsOn_59 : decode cX12_countsOn 59 = .ok (.iadd, 1) := by decide +kernel
theorem dX12_countsOn_60 : decode cX12_countsOn 60 = .ok (.istore 7, 2) := by decide +kernel
theorem dX12_countsOn_62 : decode cX12_countsOn 62 = .ok (.iconst 0, 1) := by decide +kernel
theorem dX12_countsOn_63 : decode cX12_countsOn 63 = .ok (.istore 8, 2) := by decide +kernel
theorem dX12_countsOn_65 : decode cX12_countsOn 65 = .ok (.iload 8, 2) := by decide +kernel
theorem dX12_countsOn_67 : decode cX12_countsOn 67 = .ok (.iload 5, 2) := by decide +kernel
theorem dX12_countsOn_69 : decode cX12_countsOn 69 = .ok (.iadd, 1) := by decide +kernel
theorem dX12_countsOn_70 : decode cX12_countsOn 70 = .ok (.iload_n 3, 1) := by decide +kernel
theorem dX12_countsOn_71 : decode cX12_countsOn 71 = .ok (.if_icmp .gt 40, 3) := by decide +kernel
theorem dX12_countsOn_74 : decode cX12_countsOn 74 = .ok (.aload_n 0, 1) := by decide +kernel
theorem dX12_countsOn_75 : decode cX12_countsOn 75 = .ok (.getfield 61, 3) := by decide +kernel
theorem dX12_countsOn_78 : decode cX12_countsOn 78 = .ok (.bipush 41, 2) := by decide +kernel
theorem dX12_countsOn_80 : decode cX12_countsOn 80 = .ok (.iload 7, 2) := by decide +kernel
theorem dX12_countsOn_82 : decode cX12_countsOn 82 = .ok (.imul, 1) := by decide +kernel
theorem dX12_countsOn_83 : decode cX12_countsOn 83 = .ok (.iload 8, 2) := by decide +kernel
theorem dX12_countsOn_85 : decode cX12_countsOn 85 = .ok (.iadd, 1) := by decide +kernel
theorem dX12_countsOn_86 : decode cX12_countsOn 86 = .ok (.iload 5, 2) := by decide +kernel
theorem dX12_countsOn_88 : decode cX12_countsOn 88 = .ok (.iadd, 1) := by decide +kernel
theorem dX12_countsOn_89 : decode cX12_countsOn 89 = .ok (.dup2, 1) := by decide +kernel
theorem dX12_countsOn_90 : decode cX12_countsOn 90 = .ok (.laload, 1) := by decide +kernel
theorem dX12_countsOn_91 : decode cX12_countsOn 91 = .ok (.aload_n 0, 1) := by decide +kernel
theorem dX12_countsOn_92 : decode cX12_countsOn 92 = .ok (.getfield 57, 3) := by decide +kernel
theorem dX12_countsOn_95 : decode cX12_countsOn 95 = .ok (.bipush 41, 2) := by decide +kernel
theorem dX12_countsOn_97 : decode cX12_countsOn 97 = .ok (.iload_n 2, 1) := by decide +kernel
theorem dX12_countsOn_98 : decode cX12_countsOn 98 = .ok (.imul, 1) := by decide +kernel
theorem dX12_countsOn_99 : decode cX12_countsOn 99 = .ok (.iload 8, 2) := by decide +kernel
theorem dX12_countsOn_101 : decode cX12_countsOn 101 = .ok (.iadd, 1) := by decide +kernel
theorem dX12_countsOn_102 : decode cX12_countsOn 102 = .ok (.laload, 1) := by decide +kernel
theorem dX12_countsOn_103 : decode cX12_countsOn 103 = .ok (.ladd, 1) := by decide +kernel
theorem dX12_countsOn_104 : decode cX12_countsOn 104 = .ok (.lastore, 1) := by decide +kernel
theorem dX12_countsOn_105 : decode cX12_countsOn 105 = .ok (.iinc 8 1, 3) := by decide +kernel
theorem dX12_countsOn_108 : decode cX12_countsOn 108 = .ok (.goto (-43), 3) := by decide +kernel
theorem dX12_countsOn_111 : decode cX12_countsOn 111 = .ok (.iinc 4 1, 3) := by decide +kernel
theorem dX12_countsOn_114 : decode cX12_countsOn 114 = .ok (.goto (-111), 3) := by decide +kernel
theorem dX12_countsOn_117 : decode cX12_countsOn 117 = .ok (.return_, 1) := by decide +kernel
theorem dX12_enough_0 : decode cX12_enough 0 = .ok (.aload_n 0, 1) := by decide +kernel
theorem dX12_enough_1 : decode cX12_enough 1 = .ok (.iconst 0, 1) := by decide +kernel
theorem dX12_enough_2 : decode cX12_enough 2 = .ok (.putfield 1, 3) := by decide +kernel
theorem dX12_enough_5 : decode cX12_enough 5 = .ok (.aload_n 0, 1) := by decide +kernel
theorem dX12_enough_6 : decode cX12_enough 6 = .ok (.iload_n 1, 1) := by decide +kernel
theorem dX12_enough_7 : decode cX12_enough 7 = .ok (.i2l, 1) := by decide +kernel
theorem dX12_enough_8 : decode cX12_enough 8 = .ok (.invokevirtual 253, 3) := by decide +kernel
theorem dX12_enough_11 : decode cX12_enough 11 = .ok (.ifCond .ne 6, 3) := by decide +kernel
theorem dX12_enough_14 : decode cX12_enough 14 = .ok (.bipush (-2), 2) := by decide +kernel
theorem dX12_enough_16 : decode cX12_enough 16 = .ok (.ireturn, 1) := by decide +kernel
theorem dX12_enough_17 : decode cX12_enough 17 = .ok (.aload_n 0, 1) := by decide +kernel
theorem dX12_enough_18 : decode cX12_enough 18 = .ok (.iload_n 1, 1) := by decide +kernel
theorem dX12_enough_19 : decode cX12_enough 19 = .ok (.bipush 60, 2) := by decide +kernel
theorem dX12_enough_21 : decode cX12_enough 21 = .ok (.iconst 0, 1) := by decide +kernel
theorem dX12_enough_22 : decode cX12_enough 22 = .ok (.invokevirtual 369, 3) := by decide +kernel
theorem dX12_enough_25 : decode cX12_enough 25 = .ok (.iconst 0, 1) := by decide +kernel
theorem dX12_enough_26 : decode cX12_enough 26 = .ok (.istore_n 2, 1) := by decide +kernel
theorem dX12_enough_27 : decode cX12_enough 27 = .ok (.iconst 0, 1) := by decide +kernel
theorem dX12_enough_28 : decode cX12_enough 28 = .ok (.istore_n 3, 1) := by decide +kernel
theorem dX12_enough_29 : decode cX12_enough 29 = .ok (.iload_n 3, 1) := by decide +kernel
theorem dX12_enough_30 : decode cX12_enough 30 = .ok (.aload_n 0, 1) := by decide +kernel
theorem dX12_enough_31 : decode cX12_enough 31 = .ok (.invokevirtual 233, 3) := by decide +kernel
theorem dX12_enough_34 : decode cX12_enough 34 = .ok (.if_icmp .ge 39, 3) := by decide +kernel
theorem dX12_enough_37 : decode cX12_enough 37 = .ok (.aload_n 0, 1) := by decide +kernel
theorem dX12_enough_38 : decode cX12_enough 38 = .ok (.iload_n 3, 1) := by decide +kernel
theorem dX12_enough_39 : decode cX12_enough 39 = .ok (.bipush 60, 2) := by decide +kernel
theorem dX12_enough_41 : decode cX12_enough 41 = .ok (.invokevirtual 398, 3) := by decide +kernel
theorem dX12_enough_44 : decode cX12_enough 44 = .ok (.istore 4, 2) := by decide +kernel
theorem dX12_enough_46 : decode cX12_enough 46 = .ok (.iload 4, 2) := by decide +kernel
theorem dX12_enough_48 : decode cX12_enough 48 = .ok (.ldc_w 351, 3) := by decide +kernel
theorem dX12_enough_51 : decode cX12_enough 51 = .ok (.if_icmp .eq 14, 3) := by decide +kernel
theorem dX12_enough_54 : decode cX12_enough 54 = .ok (.iload 4, 2) := by decide +kernel
theorem dX12_enough_56 : decode cX12_enough 56 = .ok (.iload_n 2, 1) := by decide +kernel
theorem dX12_enough_57 : decode cX12_enough 57 = .ok (.if_icmp .le 8, 3) := by decide +kernel
theorem dX12_enough_60 : decode cX12_enough 60 = .ok (.iload 4, 2) := by decide +kernel
theorem dX12_enough_62 : decode cX12_enough 62 = .ok (.goto 4, 3) := by decide +kernel
theorem dX12_enough_65 : decode cX12_enough 65 = .ok (.iload_n 2, 1) := by decide +kernel
theorem dX12_enough_66 : decode cX12_enough 66 = .ok (.istore_n 2, 1) := by decide +kernel
theorem dX12_enough_67 : decode cX12_enough 67 = .ok (.iinc 3 1, 3) := by decide +kernel
theorem dX12_enough_70 : decode cX12_enough 70 = .ok (.goto (-41), 3) := by decide +kernel
theorem dX12_enough_73 : decode cX12_enough 73 = .ok (.iload_n 2, 1) := by decide +kernel
theorem dX12_enough_74 : decode cX12_enough 74 = .ok (.ireturn, 1) := by decide +kernel
theorem dX12_fewest_0 : decode cX12_fewest 0 = .ok (.aload_n 0, 1) := by decide +kernel
theorem dX12_fewest_1 : decode cX12_fewest 1 = .ok (.iconst 0, 1) := by decide +kernel
theorem dX12_fewest_2 : decode cX12_fewest 2 = .ok (.putfield 1, 3) := by decide +kernel
theorem dX12_fewest_5 : decode cX12_fewest 5 = .ok (.aload_n 0, 1) := by decide +kernel
theorem dX12_fewest_6 : decode cX12_fewest 6 = .ok (.iload_n 1, 1) := by decide +kernel
theorem dX12_fewest_7 : decode cX12_fewest 7 = .ok (.iload_n 2, 1) := by decide +kernel
theorem dX12_fewest_8 : decode cX12_fewest 8 = .ok (.invokevirtual 376, 3) := by decide +kernel
theorem dX12_fewest_11 : decode cX12_fewest 11 = .ok (.ifCond .ne 6, 3) := by decide +kernel
theorem dX12_fewest_14 : decode cX12_fewest 14 = .ok (.bipush (-2), 2) := by decide +kernel
theorem dX12_fewest_16 : decode cX12_fewest 16 = .ok (.ireturn, 1) := by decide +kernel
theorem dX12_fewest_17 : decode cX12_fewest 17 = .ok (.iload_n 3, 1) := by decide +kernel
theorem dX12_fewest_18 : decode cX12_fewest 18 = .ok (.i2l, 1) := by decide +kernel
theorem dX12_fewest_19 : decode cX12_fewest 19 = .ok (.lconst 0, 1) := by decide +kernel
theorem dX12_fewest_20 : decode cX12_fewest 20 = .ok (.ldc2_w 342, 3) := by decide +kernel
theorem dX12_fewest_23 : decode cX12_fewest 23 = .ok (.invokestatic 161, 3) := by decide +kernel
theorem dX12_fewest_26 : decode cX12_fewest 26 = .ok (.ifCond .ne 6, 3) := by decide +kernel
theorem dX12_fewest_29 : decode cX12_fewest 29 = .ok (.bipush (-3), 2) := by decide +kernel
theorem dX12_fewest_31 : decode cX12_fewest 31 = .ok (.ireturn, 1) := by decide +kernel
theorem dX12_fewest_32 : decode cX12_fewest 32 = .ok (.aload_n 0, 1) := by decide +kernel
theorem dX12_fewest_33 : decode cX12_fewest 33 = .ok (.iload_n 1, 1) := by decide +kernel
theorem dX12_fewest_34 : decode cX12_fewest 34 = .ok (.iload_n 3, 1) := by decide +kernel
theorem dX12_fewest_35 : decode cX12_fewest 35 = .ok (.iconst 0, 1) := by decide +kernel
theorem dX12_fewest_36 : decode cX12_fewest 36 = .ok (.invokevirtual 369, 3) := by decide +kernel
theorem dX12_fewest_39 : decode cX12_fewest 39 = .ok (.aload_n 0, 1) := by decide +kernel
theorem dX12_fewest_40 : decode cX12_fewest 40 = .ok (.iload_n 2, 1) := by decide +kernel
theorem dX12_fewest_41 : decode cX12_fewest 41 = .ok (.iload_n 3, 1) := by decide +kernel
theorem dX12_fewest_42 : decode cX12_fewest 42 = .ok (.invokevirtual 398, 3) := by decide +kernel
theorem dX12_fewest_45 : decode cX12_fewest 45 = .ok (.invokestatic 401, 3) := by decide +kernel
theorem dX12_fewest_48 : decode cX12_fewest 48 = .ok (.ireturn, 1) := by decide +kernel
theorem dX12_laysFor_0 : decode cX12_laysFor 0 = .ok (.aload_n 0, 1) := by decide +kernel
theorem dX12_laysFor_1 : decode cX12_laysFor 1 = .ok (.iconst 0, 1) := by decide +kernel
theorem dX12_laysFor_2 : decode cX12_laysFor 2 = .ok (.putfield 348, 3) := by decide +kernel
theorem dX12_laysFor_5 : decode cX12_laysFor 5 = .ok (.aload_n 0, 1) := by decide +kernel
theorem dX12_laysFor_6 : decode cX12_laysFor 6 = .ok (.iload_n 2, 1) := by decide +kernel
theorem dX12_laysFor_7 : decode cX12_laysFor 7 = .ok (.invokevirtual 362, 3) := by decide +kernel
theorem dX12_laysFor_10 : decode cX12_laysFor 10 = .ok (.aload_n 0, 1) := by decide +kernel
theorem dX12_laysFor_11 : decode cX12_laysFor 11 = .ok (.aload_n 0, 1) := by decide +kernel
theorem dX12_laysFor_12 : decode cX12_laysFor 12 = .ok (.getfield 13, 3) := by decide +kernel
theorem dX12_laysFor_15 : decode cX12_laysFor 15 = .ok (.bipush 36, 2) := by decide +kernel
theorem dX12_laysFor_17 : decode cX12_laysFor 17 = .ok (.iload_n 1, 1) := by decide +kernel
theorem dX12_laysFor_18 : decode cX12_laysFor 18 = .ok (.iadd, 1) := by decide +kernel
theorem dX12_laysFor_19 : decode cX12_laysFor 19 = .ok (.iaload, 1) := by decide +kernel
theorem dX12_laysFor_20 : decode cX12_laysFor 20 = .ok (.aload_n 0, 1) := by decide +kernel
theorem dX12_laysFor_21 : decode cX12_laysFor 21 = .ok (.getfield 13, 3) := by decide +kernel
theorem dX12_laysFor_24 : decode cX12_laysFor 24 = .ok (.bipush 41, 2) := by decide +kernel
theorem dX12_laysFor_26 : decode cX12_laysFor 26 = .ok (.iload_n 1, 1) := by decide +kernel
theorem dX12_laysFor_27 : decode cX12_laysFor 27 = .ok (.iadd, 1) := by decide +kernel
theorem dX12_laysFor_28 : decode cX12_laysFor 28 = .ok (.iaload, 1) := by decide +kernel
theorem dX12_laysFor_29 : decode cX12_laysFor 29 = .ok (.iload_n 2, 1) := by decide +kernel
theorem dX12_laysFor_30 : decode cX12_laysFor 30 = .ok (.iload_n 3, 1) := by decide +kernel
theorem dX12_laysFor_31 : decode cX12_laysFor 31 = .ok (.invokevirtual 365, 3) := by decide +kernel
theorem dX12_laysFor_34 : decode cX12_laysFor 34 = .ok (.return_, 1) := by decide +kernel
theorem dX12_laysLaws_0 : decode cX12_laysLaws 0 = .ok (.iconst 0, 1) := by decide +kernel
theorem dX12_laysLaws_1 : decode cX12_laysLaws 1 = .ok (.istore_n 2, 1) := by decide +kernel
theorem dX12_laysLaws_2 : decode cX12_laysLaws 2 = .ok (.iload_n 2, 1) := by decide +kernel
theorem dX12_laysLaws_3 : decode cX12_laysLaws 3 = .ok (.iload_n 1, 1) := by decide +kernel
theorem dX12_laysLaws_4 : decode cX12_laysLaws 4 = .ok (.if_icmp .gt 120, 3) := by decide +kernel
theorem dX12_laysLaws_7 : decode cX12_laysLaws 7 = .ok (.iconst 0, 1) := by decide +kernel
theorem dX12_laysLaws_8 : decode cX12_laysLaws 8 = .ok (.istore_n 3, 1) := by decide +kernel
theorem dX12_laysLaws_9 : decode cX12_laysLaws 9 = .ok (.iload_n 3, 1) := by decide +kernel
theorem dX12_laysLaws_10 : decode cX12_laysLaws 10 = .ok (.aload_n 0, 1) := by decide +kernel
theorem dX12_laysLaws_11 : decode cX12_laysLaws 11 = .ok (.invokevirtual 233, 3) := by decide +kernel
theorem dX12_laysLaws_14 : decode cX12_laysLaws 14 = .ok (.if_icmp .ge 104, 3) := by decide +kernel
theorem dX12_laysLaws_17 : decode cX12_laysLaws 17 = .ok (.aload_n 0, 1) := by decide +kernel
theorem dX12_laysLaws_18 : decode cX12_laysLaws 18 = .ok (.getfield 51, 3) := by decide +kernel
theorem dX12_laysLaws_21 : decode cX12_laysLaws 21 = .ok (.bipush 25, 2) := by decide +kernel
theorem dX12_laysLaws_23 : decode cX12_laysLaws 23 = .ok (.iload_n 2, 1) := by decide +kernel
theorem dX12_laysLaws_24 : decode cX12_laysLaws 24 = .ok (.imul, 1) := by decide +kernel
theorem dX12_laysLaws_25 : decode cX12_laysLaws 25 = .ok (.iload_n 3, 1) := by decide +kernel
theorem dX12_laysLaws_26 : decode cX12_laysLaws 26 = .ok (.iadd, 1) := by decide +kernel
theorem dX12_laysLaws_27 : decode cX12_laysLaws 27 = .ok (.aload_n 0, 1) := by decide +kernel
theorem dX12_laysLaws_28 : decode cX12_laysLaws 28 = .ok (.iload_n 3, 1) := by decide +kernel
theorem dX12_laysLaws_29 : decode cX12_laysLaws 29 = .ok (.aload_n 0, 1) := by decide +kernel
theorem dX12_laysLaws_30 : decode cX12_laysLaws 30 = .ok (.getfield 348, 3) := by decide +kernel
theorem dX12_laysLaws_33 : decode cX12_laysLaws 33 = .ok (.iload_n 2, 1) := by decide +kernel
theorem dX12_laysLaws_34 : decode cX12_laysLaws 34 = .ok (.iadd, 1) := by decide +kernel
theorem dX12_laysLaws_35 : decode cX12_laysLaws 35 = .ok (.invokevirtual 269, 3) := by decide +kernel
theorem dX12_laysLaws_38 : decode cX12_laysLaws 38 = .ok (.bastore, 1) := by decide +kernel
theorem dX12_laysLaws_39 : decode cX12_laysLaws 39 = .ok (.iconst 0, 1) := by decide +kernel
theorem dX12_laysLaws_40 : decode cX12_laysLaws 40 = .ok (.istore 4, 2) := by decide +kernel
theorem dX12_laysLaws_42 : decode cX12_laysLaws 42 = .ok (.iload 4, 2) := by decide +kernel
theorem dX12_laysLaws_44 : decode cX12_laysLaws 44 = .ok (.iconst 4, 1) := by decide +kernel
theorem dX12_laysLaws_45 : decode cX12_laysLaws 45 = .ok (.if_icmp .ge 67, 3) := by decide +kernel
theorem dX12_laysLaws_48 : decode cX12_laysLaws 48 = .ok (.aload_n 0, 1) := by decide +kernel
theorem dX12_laysLaws_49 : decode cX12_laysLaws 49 = .ok (.getfield 48, 3) := by decide +kernel
theorem dX12_laysLaws_52 : decode cX12_laysLaws 52 = .ok (.bipush 100, 2) := by decide +kernel
theorem dX12_laysLaws_54 : decode cX12_laysLaws 54 = .ok (.iload_n 2, 1) := by decide +kernel
theorem dX12_laysLaws_55 : decode cX12_laysLaws 55 = .ok (.imul, 1) := by decide +kernel
theorem dX12_laysLaws_56 : decode cX12_laysLaws 56 = .ok (.iconst 4, 1) := by decide +kernel
theorem dX12_laysLaws_57 : decode cX12_laysLaws 57 = .ok (.iload_n 3, 1) := by decide +kernel
theorem dX12_laysLaws_58 : decode cX12_laysLaws 58 = .ok (.imul, 1) := by decide +kernel
theorem dX12_laysLaws_59 : decode cX12_laysLaws 59 = .ok (.iadd, 1) := by decide +kernel
theorem dX12_laysLaws_60 : decode cX12_laysLaws 60 = .ok (.iload 4, 2) := by decide +kernel
theorem dX12_laysLaws_62 : decode cX12_laysLaws 62 = .ok (.iadd, 1) := by decide +kernel
theorem dX12_laysLaws_63 : decode cX12_laysLaws 63 = .ok (.aload_n 0, 1) := by decide +kernel
theorem dX12_laysLaws_64 : decode cX12_laysLaws 64 = .ok (.iload_n 3, 1) := by decide +kernel
theorem dX12_laysLaws_65 : decode cX12_laysLaws 65 = .ok (.aload_n 0, 1) := by decide +kernel
theorem dX12_laysLaws_66 : decode cX12_laysLaws 66 = .ok (.getfield 348, 3) := by decide +kernel
theorem dX12_laysLaws_69 : decode cX12_laysLaws 69 = .ok (.iload_n 2, 1) := by decide +kernel
theorem dX12_laysLaws_70 : decode cX12_laysLaws 70 = .ok (.iadd, 1) := by decide +kernel
theorem dX12_laysLaws_71 : decode cX12_laysLaws 71 = .ok (.iload 4, 2) := by decide +kernel
theorem dX12_laysLaws_73 : decode cX12_laysLaws 73 = .ok (.invokevirtual 283, 3) := by decide +kernel
theorem dX12_laysLaws_76 : decode cX12_laysLaws 76 = .ok (.bastore, 1) := by decide +kernel
theorem dX12_laysLaws_77 : decode cX12_laysLaws 77 = .ok (.aload_n 0, 1) := by decide +kernel
theorem dX12_laysLaws_78 : decode cX12_laysLaws 78 = .ok (.getfield 45, 3) := by decide +kernel
theorem dX12_laysLaws_81 : decode cX12_laysLaws 81 = .ok (.bipush 100, 2) := by decide +kernel
theorem dX12_laysLaws_83 : decode cX12_laysLaws 83 = .ok (.iload_n 2, 1) := by decide +kernel
theorem dX12_laysLaws_84 : decode cX12_laysLaws 84 = .ok (.imul, 1) := by decide +kernel
theorem dX12_laysLaws_85 : decode cX12_laysLaws 85 = .ok (.iconst 4, 1) := by decide +kernel
theorem dX12_laysLaws_86 : decode cX12_laysLaws 86 = .ok (.iload_n 3, 1) := by decide +kernel
theorem dX12_laysLaws_87 : decode cX12_laysLaws 87 = .ok (.imul, 1) := by decide +kernel
theorem dX12_laysLaws_88 : decode cX12_laysLaws 88 = .ok (.iadd, 1) := by decide +kernel
theorem dX12_laysLaws_89 : decode cX12_laysLaws 89 = .ok (.iload 4, 2) := by decide +kernel
theorem dX12_laysLaws_91 : decode cX12_laysLaws 91 = .ok (.iadd, 1) := by decide +kernel
theorem dX12_laysLaws_92 : decode cX12_laysLaws 92 = .ok (.aload_n 0, 1) := by decide +kernel
theorem dX12_laysLaws_93 : decode cX12_laysLaws 93 = .ok (.iload_n 3, 1) := by decide +kernel
theorem dX12_laysLaws_94 : decode cX12_laysLaws 94 = .ok (.aload_n 0, 1) := by decide +kernel
theorem dX12_laysLaws_95 : decode cX12_laysLaws 95 = .ok (.getfield 348, 3) := by decide +kernel
theorem dX12_laysLaws_98 : decode cX12_laysLaws 98 = .ok (.iload_n 2, 1) := by decide +kernel
theorem dX12_laysLaws_99 : decode cX12_laysLaws 99 = .ok (.iadd, 1) := by decide +kernel
theorem dX12_laysLaws_100 : decode cX12_laysLaws 100 = .ok (.iload 4, 2) := by decide +kernel
theorem dX12_laysLaws_102 : decode cX12_laysLaws 102 = .ok (.invokevirtual 266, 3) := by decide +kernel
theorem dX12_laysLaws_105 : decode cX12_laysLaws 105 = .ok (.iastore, 1) := by decide +kernel
theorem dX12_laysLaws_106 : decode cX12_laysLaws 106 = .ok (.iinc 4 1, 3) := by decide +kernel
theorem dX12_laysLaws_109 : decode cX12_laysLaws 109 = .ok (.goto (-67), 3) := by decide +kernel
theorem dX12_laysLaws_112 : decode cX12_laysLaws 112 = .ok (.iinc 3 1, 3) := by decide +kernel
theorem dX12_laysLaws_115 : decode cX12_laysLaws 115 = .ok (.goto (-106), 3) := by decide +kernel
theorem dX12_laysLaws_118 : decode cX12_laysLaws 118 = .ok (.iinc 2 1, 3) := by decide +kernel
theorem dX12_laysLaws_121 : decode cX12_laysLaws 121 = .ok (.goto (-119), 3) := by decide +kernel
theorem dX12_laysLaws_124 : decode cX12_laysLaws 124 = .ok (.return_, 1) := by decide +kernel
theorem dX12_laysSofar_0 : decode cX12_laysSofar 0 = .ok (.iconst 0, 1) := by decide +kernel
theorem dX12_laysSofar_1 : decode cX12_laysSofar 1 = .ok (.istore 5, 2) := by decide +kernel
theorem dX12_laysSofar_3 : decode cX12_laysSofar 3 = .ok (.iload 5, 2) := by decide +kernel
theorem dX12_laysSofar_5 : decode cX12_laysSofar 5 = .ok (.bipush 100, 2) := by decide +kernel
theorem dX12_laysSofar_7 : decode cX12_laysSofar 7 = .ok (.iload_n 3, 1) := by decide +kernel
theorem dX12_laysSofar_8 : decode cX12_laysSofar 8 = .ok (.iconst 1, 1) := by decide +kernel
theorem dX12_laysSofar_9 : decode cX12_laysSofar 9 = .ok (.iadd, 1) := by decide +kernel
theorem dX12_laysSofar_10 : decode cX12_laysSofar 10 = .ok (.imul, 1) := by decide +kernel
theorem dX12_laysSofar_11 : decode cX12_laysSofar 11 = .ok (.if_icmp .ge 19, 3) := by decide +kernel
theorem dX12_laysSofar_14 : decode cX12_laysSofar 14 = .ok (.aload_n 0, 1) := by decide +kernel
theorem dX12_laysSofar_15 : decode cX12_laysSofar 15 = .ok (.getfield 39, 3) := by decide +kernel
theorem dX12_laysSofar_18 : decode cX12_laysSofar 18 = .ok (.iload 5, 2) := by decide +kernel
theorem dX12_laysSofar_20 : decode cX12_laysSofar 20 = .ok (.ldc_w 351, 3) := by decide +kernel
theorem dX12_laysSofar_23 : decode cX12_laysSofar 23 = .ok (.iastore, 1) := by decide +kernel
theorem dX12_laysSofar_24 : decode cX12_laysSofar 24 = .ok (.iinc 5 1, 3) := by decide +kernel
theorem dX12_laysSofar_27 : decode cX12_laysSofar 27 = .ok (.goto (-24), 3) := by decide +kernel
theorem dX12_laysSofar_30 : decode cX12_laysSofar 30 = .ok (.aload_n 0, 1) := by decide +kernel
theorem dX12_laysSofar_31 : decode cX12_laysSofar 31 = .ok (.getfield 39, 3) := by decide +kernel
theorem dX12_laysSofar_34 : decode cX12_laysSofar 34 = .ok (.iconst 4, 1) := by decide +kernel
theorem dX12_laysSofar_35 : decode cX12_laysSofar 35 = .ok (.iload_n 1, 1) := by decide +kernel
theorem dX12_laysSofar_36 : decode cX12_laysSofar 36 = .ok (.imul, 1) := by decide +kernel
theorem dX12_laysSofar_37 : decode cX12_laysSofar 37 = .ok (.iload_n 2, 1) := by decide +kernel
theorem dX12_laysSofar_38 : decode cX12_laysSofar 38 = .ok (.iadd, 1) := by decide +kernel
theorem dX12_laysSofar_39 : decode cX12_laysSofar 39 = .ok (.iconst 0, 1) := by decide +kernel
theorem dX12_laysSofar_40 : decode cX12_laysSofar 40 = .ok (.iastore, 1) := by decide +kernel
theorem dX12_laysSofar_41 : decode cX12_laysSofar 41 = .ok (.iconst 0, 1) := by decide +kernel
theorem dX12_laysSofar_42 : decode cX12_laysSofar 42 = .ok (.istore 5, 2) := by decide +kernel
theorem dX12_laysSofar_44 : decode cX12_laysSofar 44 = .ok (.iload 5, 2) := by decide +kernel
theorem dX12_laysSofar_46 : decode cX12_laysSofar 46 = .ok (.iload_n 3, 1) := by decide +kernel
theorem dX12_laysSofar_47 : decode cX12_laysSofar 47 = .ok (.if_icmp .ge 166, 3) := by decide +kernel
theorem dX12_laysSofar_50 : decode cX12_laysSofar 50 = .ok (.iconst 0, 1) := by decide +kernel
theorem dX12_laysSofar_51 : decode cX12_laysSofar 51 = .ok (.istore 6, 2) := by decide +kernel
theorem dX12_laysSofar_53 : decode cX12_laysSofar 53 = .ok (.iload 6, 2) := by decide +kernel
theorem dX12_laysSofar_55 : decode cX12_laysSofar 55 = .ok (.iconst 4, 1) := by decide +kernel
theorem dX12_laysSofar_56 : decode cX12_laysSofar 56 = .ok (.aload_n 0, 1) := by decide +kernel
theorem dX12_laysSofar_57 : decode cX12_laysSofar 57 = .ok (.invokevirtual 233, 3) := by decide +kernel
theorem dX12_laysSofar_60 : decode cX12_laysSofar 60 = .ok (.imul, 1) := by decide +kernel
theorem dX12_laysSofar_61 : decode cX12_laysSofar 61 = .ok (.if_icmp .ge 146, 3) := by decide +kernel
theorem dX12_laysSofar_64 : decode cX12_laysSofar 64 = .ok (.aload_n 0, 1) := by decide +kernel
theorem dX12_laysSofar_65 : decode cX12_laysSofar 65 = .ok (.getfield 39, 3) := by decide +kernel
theorem dX12_laysSofar_68 : decode cX12_laysSofar 68 = .ok (.bipush 100, 2) := by decide +kernel
theorem dX12_laysSofar_70 : decode cX12_laysSofar 70 = .ok (.iload 5, 2) := by decide +kernel
theorem dX12_laysSofar_72 : decode cX12_laysSofar 72 = .ok (.imul, 1) := by decide +kernel
theorem dX12_laysSofar_73 : decode cX12_laysSofar 73 = .ok (.iload 6, 2) := by decide +kernel
theorem dX12_laysSofar_75 : decode cX12_laysSofar 75 = .ok (.iadd, 1) := by decide +kernel
theorem dX12_laysSofar_76 : decode cX12_laysSofar 76 = .ok (.iaload, 1) := by decide +kernel
theorem dX12_laysSofar_77 : decode cX12_laysSofar 77 = .ok (.ldc_w 351, 3) := by decide +kernel
theorem dX12_laysSofar_80 : decode cX12_laysSofar 80 = .ok (.if_icmp .ne 6, 3) := by decide +kernel
theorem dX12_laysSofar_83 : decode cX12_laysSofar 83 = .ok (.goto 118, 3) := by decide +kernel
theorem dX12_laysSofar_86 : decode cX12_laysSofar 86 = .ok (.iconst 0, 1) := by decide +kernel
theorem dX12_laysSofar_87 : decode cX12_laysSofar 87 = .ok (.istore 7, 2) := by decide +kernel
theorem dX12_laysSofar_89 : decode cX12_laysSofar 89 = .ok (.iload 7, 2) := by decide +kernel
theorem dX12_laysSofar_91 : decode cX12_laysSofar 91 = .ok (.iconst 4, 1) := by decide +kernel
theorem dX12_laysSofar_92 : decode cX12_laysSofar 92 = .ok (.if_icmp .ge 109, 3) := by decide +kernel
theorem dX12_laysSofar_95 : decode cX12_laysSofar 95 = .ok (.aload_n 0, 1) := by decide +kernel
theorem dX12_laysSofar_96 : decode cX12_laysSofar 96 = .ok (.iload 5, 2) := by decide +kernel
theorem dX12_laysSofar_98 : decode cX12_laysSofar 98 = .ok (.iload 6, 2) := by decide +kernel
theorem dX12_laysSofar_100 : decode cX12_laysSofar 100 = .ok (.iconst 4, 1) := by decide +kernel
theorem dX12_laysSofar_101 : decode cX12_laysSofar 101 = .ok (.idiv, 1) := by decide +kernel
theorem dX12_laysSofar_102 : decode cX12_laysSofar 102 = .ok (.iload 6, 2) := by decide +kernel
theorem dX12_laysSofar_104 : decode cX12_laysSofar 104 = .ok (.iconst 4, 1) := by decide +kernel
theorem dX12_laysSofar_105 : decode cX12_laysSofar 105 = .ok (.irem, 1) := by decide +kernel
theorem dX12_laysSofar_106 : decode cX12_laysSofar 106 = .ok (.iload 7, 2) := by decide +kernel
theorem dX12_laysSofar_108 : decode cX12_laysSofar 108 = .ok (.iload 4, 2) := by decide +kernel
theorem dX12_laysSofar_110 : decode cX12_laysSofar 110 = .ok (.invokevirtual 352, 3) := by decide +kernel
theorem dX12_laysSofar_113 : decode cX12_laysSofar 113 = .ok (.istore 8, 2) := by decide +kernel
theorem dX12_laysSofar_115 : decode cX12_laysSofar 115 = .ok (.iload 8, 2) := by decide +kernel
theorem dX12_laysSofar_117 : decode cX12_laysSofar 117 = .ok (.ldc_w 351, 3) := by decide +kernel
theorem dX12_laysSofar_120 : decode cX12_laysSofar 120 = .ok (.if_icmp .ne 6, 3) := by decide +kernel
theorem dX12_laysSofar_123 : decode cX12_laysSofar 123 = .ok (.goto 72, 3) := by decide +kernel
theorem dX12_laysSofar_126 : decode cX12_laysSofar 126 = .ok (.iload 6, 2) := by decide +kernel
theorem dX12_laysSofar_128 : decode cX12_laysSofar 128 = .ok (.iconst 4, 1) := by decide +kernel
theorem dX12_laysSofar_129 : decode cX12_laysSofar 129 = .ok (.irem, 1) := by decide +kernel
theorem dX12_laysSofar_130 : decode cX12_laysSofar 130 = .ok (.iload 7, 2) := by decide +kernel
theorem dX12_laysSofar_132 : decode cX12_laysSofar 132 = .ok (.invokestatic 278, 3) := by decide +kernel
theorem dX12_laysSofar_135 : decode cX12_laysSofar 135 = .ok (.istore 9, 2) := by decide +kernel
theorem dX12_laysSofar_137 : decode cX12_laysSofar 137 = .ok (.bipush 100, 2) := by decide +kernel
theorem dX12_laysSofar_139 : decode cX12_laysSofar 139 = .ok (.iload 5, 2) := by decide +kernel
theorem dX12_laysSofar_141 : decode cX12_laysSofar 141 = .ok (.iconst 1, 1) := by decide +kernel
theorem dX12_laysSofar_142 : decode cX12_laysSofar 142 = .ok (.iadd, 1) := by decide +kernel
theorem dX12_laysSofar_143 : decode cX12_laysSofar 143 = .ok (.imul, 1) := by decide +kernel
theorem dX12_laysSofar_144 : decode cX12_laysSofar 144 = .ok (.iconst 4, 1) := by decide +kernel
theorem dX12_laysSofar_145 : decode cX12_laysSofar 145 = .ok (.aload_n 0, 1) := by decide +kernel
theorem dX12_laysSofar_146 : decode cX12_laysSofar 146 = .ok (.iload 6, 2) := by decide +kernel
theorem dX12_laysSofar_148 : decode cX12_laysSofar 148 = .ok (.iconst 4, 1) := by decide +kernel
theorem dX12_laysSofar_149 : decode cX12_laysSofar 149 = .ok (.idiv, 1) := by decide +kernel
theorem dX12_laysSofar_150 : decode cX12_laysSofar 150 = .ok (.iload 9, 2) := by decide +kernel
theorem dX12_laysSofar_152 : decode cX12_laysSofar 152 = .ok (.invokevirtual 263, 3) := by decide +kernel
theorem dX12_laysSofar_155 : decode cX12_laysSofar 155 = .ok (.imul, 1) := by decide +kernel
theorem dX12_laysSofar_156 : decode cX12_laysSofar 156 = .ok (.iadd, 1) := by decide +kernel
theorem dX12_laysSofar_157 : decode cX12_laysSofar 157 = .ok (.iload 9, 2) := by decide +kernel
theorem dX12_laysSofar_159 : decode cX12_laysSofar 159 = .ok (.iadd, 1) := by decide +kernel
theorem dX12_laysSofar_160 : decode cX12_laysSofar 160 = .ok (.istore 10, 2) := by decide +kernel
theorem dX12_laysSofar_162 : decode cX12_laysSofar 162 = .ok (.aload_n 0, 1) := by decide +kernel
theorem dX12_laysSofar_163 : decode cX12_laysSofar 163 = .ok (.getfield 39, 3) := by decide +kernel
theorem dX12_laysSofar_166 : decode cX12_laysSofar 166 = .ok (.iload 10, 2) := by decide +kernel
theorem dX12_laysSofar_168 : decode cX12_laysSofar 168 = .ok (.aload_n 0, 1) := by decide +kernel
theorem dX12_laysSofar_169 : decode cX12_laysSofar 169 = .ok (.getfield 39, 3) := by decide +kernel
theorem dX12_laysSofar_172 : decode cX12_laysSofar 172 = .ok (.iload 10, 2) := by decide +kernel
theorem dX12_laysSofar_174 : decode cX12_laysSofar 174 = .ok (.iaload, 1) := by decide +kernel
theorem dX12_laysSofar_175 : decode cX12_laysSofar 175 = .ok (.aload_n 0, 1) := by decide +kernel
theorem dX12_laysSofar_176 : decode cX12_laysSofar 176 = .ok (.getfield 39, 3) := by decide +kernel
theorem dX12_laysSofar_179 : decode cX12_laysSofar 179 = .ok (.bipush 100, 2) := by decide +kernel
theorem dX12_laysSofar_181 : decode cX12_laysSofar 181 = .ok (.iload 5, 2) := by decide +kernel
theorem dX12_laysSofar_183 : decode cX12_laysSofar 183 = .ok (.imul, 1) := by decide +kernel
theorem dX12_laysSofar_184 : decode cX12_laysSofar 184 = .ok (.iload 6, 2) := by decide +kernel
theorem dX12_laysSofar_186 : decode cX12_laysSofar 186 = .ok (.iadd, 1) := by decide +kernel
theorem dX12_laysSofar_187 : decode cX12_laysSofar 187 = .ok (.iaload, 1) := by decide +kernel
theorem dX12_laysSofar_188 : decode cX12_laysSofar 188 = .ok (.iload 8, 2) := by decide +kernel
theorem dX12_laysSofar_190 : decode cX12_laysSofar 190 = .ok (.iadd, 1) := by decide +kernel
theorem dX12_laysSofar_191 : decode cX12_laysSofar 191 = .ok (.invokestatic 294, 3) := by decide +kernel
theorem dX12_laysSofar_194 : decode cX12_laysSofar 194 = .ok (.iastore, 1) := by decide +kernel
theorem dX12_laysSofar_195 : decode cX12_laysSofar 195 = .ok (.iinc 7 1, 3) := by decide +kernel
theorem dX12_laysSofar_198 : decode cX12_laysSofar 198 = .ok (.goto (-109), 3) := by decide +kernel
theorem dX12_laysSofar_201 : decode cX12_laysSofar 201 = .ok (.iinc 6 1, 3) := by decide +kernel
theorem dX12_laysSofar_204 : decode cX12_laysSofar 204 = .ok (.goto (-151), 3) := by decide +kernel
theorem dX12_laysSofar_207 : decode cX12_laysSofar 207 = .ok (.iinc 5 1, 3) := by decide +kernel
theorem dX12_laysSofar_210 : decode cX12_laysSofar 210 = .ok (.goto (-166), 3) := by decide +kernel
theorem dX12_laysSofar_213 : decode cX12_laysSofar 213 = .ok (.return_, 1) := by decide +kernel
theorem dX12_laysStill_0 : decode cX12_laysStill 0 = .ok (.iconst 0, 1) := by decide +kernel
theorem dX12_laysStill_1 : decode cX12_laysStill 1 = .ok (.istore_n 3, 1) := by decide +kernel
theorem dX12_laysStill_2 : decode cX12_laysStill 2 = .ok (.iload_n 3, 1) := by decide +kernel
theorem dX12_laysStill_3 : decode cX12_laysStill 3 = .ok (.iconst 4, 1) := by decide +kernel
theorem dX12_laysStill_4 : decode cX12_laysStill 4 = .ok (.aload_n 0, 1) := by decide +kernel
theorem dX12_laysStill_5 : decode cX12_laysStill 5 = .ok (.invokevirtual 233, 3) := by decide +kernel
theorem dX12_laysStill_8 : decode cX12_laysStill 8 = .ok (.imul, 1) := by decide +kernel
theorem dX12_laysStill_9 : decode cX12_laysStill 9 = .ok (.if_icmp .ge 34, 3) := by decide +kernel
theorem dX12_laysStill_12 : decode cX12_laysStill 12 = .ok (.aload_n 0, 1) := by decide +kernel
theorem dX12_laysStill_13 : decode cX12_laysStill 13 = .ok (.getfield 42, 3) := by decide +kernel
theorem dX12_laysStill_16 : decode cX12_laysStill 16 = .ok (.bipush 100, 2) := by decide +kernel
theorem dX12_laysStill_18 : decode cX12_laysStill 18 = .ok (.iload_n 2, 1) := by decide +kernel
theorem dX12_laysStill_19 : decode cX12_laysStill 19 = .ok (.imul, 1) := by decide +kernel
theorem dX12_laysStill_20 : decode cX12_laysStill 20 = .ok (.iload_n 3, 1) := by decide +kernel
theorem dX12_laysStill_21 : decode cX12_laysStill 21 = .ok (.iadd, 1) := by decide +kernel
theorem dX12_laysStill_22 : decode cX12_laysStill 22 = .ok (.iload_n 3, 1) := by decide +kernel
theorem dX12_laysStill_23 : decode cX12_laysStill 23 = .ok (.iconst 4, 1) := by decide +kernel
theorem dX12_laysStill_24 : decode cX12_laysStill 24 = .ok (.idiv, 1) := by decide +kernel
theorem dX12_laysStill_25 : decode cX12_laysStill 25 = .ok (.iload_n 1, 1) := by decide +kernel
theorem dX12_laysStill_26 : decode cX12_laysStill 26 = .ok (.if_icmp .ne 7, 3) := by decide +kernel
theorem dX12_laysStill_29 : decode cX12_laysStill 29 = .ok (.iconst 0, 1) := by decide +kernel
theorem dX12_laysStill_30 : decode cX12_laysStill 30 = .ok (.goto 6, 3) := by decide +kernel
theorem dX12_laysStill_33 : decode cX12_laysStill 33 = .ok (.ldc_w 351, 3) := by decide +kernel
theorem dX12_laysStill_36 : decode cX12_laysStill 36 = .ok (.iastore, 1) := by decide +kernel
theorem dX12_laysStill_37 : decode cX12_laysStill 37 = .ok (.iinc 3 1, 3) := by decide +kernel
theorem dX12_laysStill_40 : decode cX12_laysStill 40 = .ok (.goto (-38), 3) := by decide +kernel
theorem dX12_laysStill_43 : decode cX12_laysStill 43 = .ok (.iload_n 2, 1) := by decide +kernel
theorem dX12_laysStill_44 : decode cX12_laysStill 44 = .ok (.iconst 1, 1) := by decide +kernel
theorem dX12_laysStill_45 : decode cX12_laysStill 45 = .ok (.isub, 1) := by decide +kernel
theorem dX12_laysStill_46 : decode cX12_laysStill 46 = .ok (.istore_n 3, 1) := by decide +kernel
theorem dX12_laysStill_47 : decode cX12_laysStill 47 = .ok (.iload_n 3, 1) := by decide +kernel
theorem dX12_laysStill_48 : decode cX12_laysStill 48 = .ok (.ifCond .lt 48, 3) := by decide +kernel
theorem dX12_laysStill_51 : decode cX12_laysStill 51 = .ok (.iconst 0, 1) := by decide +kernel
theorem dX12_laysStill_52 : decode cX12_laysStill 52 = .ok (.istore 4, 2) := by decide +kernel
theorem dX12_laysStill_54 : decode cX12_laysStill 54 = .ok (.iload 4, 2) := by decide +kernel
theorem dX12_laysStill_56 : decode cX12_laysStill 56 = .ok (.iconst 4, 1) := by decide +kernel
theorem dX12_laysStill_57 : decode cX12_laysStill 57 = .ok (.aload_n 0, 1) := by decide +kernel
theorem dX12_laysStill_58 : decode cX12_laysStill 58 = .ok (.invokevirtual 233, 3) := by decide +kernel
theorem dX12_laysStill_61 : decode cX12_laysStill 61 = .ok (.imul, 1) := by decide +kernel
theorem dX12_laysStill_62 : decode cX12_laysStill 62 = .ok (.if_icmp .ge 28, 3) := by decide +kernel
theorem dX12_laysStill_65 : decode cX12_laysStill 65 = .ok (.aload_n 0, 1) := by decide +kernel
theorem dX12_laysStill_66 : decode cX12_laysStill 66 = .ok (.getfield 42, 3) := by decide +kernel
theorem dX12_laysStill_69 : decode cX12_laysStill 69 = .ok (.bipush 100, 2) := by decide +kernel
theorem dX12_laysStill_71 : decode cX12_laysStill 71 = .ok (.iload_n 3, 1) := by decide +kernel
theorem dX12_laysStill_72 : decode cX12_laysStill 72 = .ok (.imul, 1) := by decide +kernel
theorem dX12_laysStill_73 : decode cX12_laysStill 73 = .ok (.iload 4, 2) := by decide +kernel
theorem dX12_laysStill_75 : decode cX12_laysStill 75 = .ok (.iadd, 1) := by decide +kernel
theorem dX12_laysStill_76 : decode cX12_laysStill 76 = .ok (.aload_n 0, 1) := by decide +kernel
theorem dX12_laysStill_77 : decode cX12_laysStill 77 = .ok (.iload_n 3, 1) := by decide +kernel
theorem dX12_laysStill_78 : decode cX12_laysStill 78 = .ok (.iload 4, 2) := by decide +kernel
theorem dX12_laysStill_80 : decode cX12_laysStill 80 = .ok (.invokevirtual 356, 3) := by decide +kernel
theorem dX12_laysStill_83 : decode cX12_laysStill 83 = .ok (.iastore, 1) := by decide +kernel
theorem dX12_laysStill_84 : decode cX12_laysStill 84 = .ok (.iinc 4 1, 3) := by decide +kernel
theorem dX12_laysStill_87 : decode cX12_laysStill 87 = .ok (.goto (-33), 3) := by decide +kernel
theorem dX12_laysStill_90 : decode cX12_laysStill 90 = .ok (.iinc 3 (-1), 3) := by decide +kernel
theorem dX12_laysStill_93 : decode cX12_laysStill 93 = .ok (.goto (-46), 3) := by decide +kernel
theorem dX12_laysStill_96 : decode cX12_laysStill 96 = .ok (.return_, 1) := by decide +kernel
theorem dX12_laysTurns_0 : decode cX12_laysTurns 0 = .ok (.aload_n 0, 1) := by decide +kernel
theorem dX12_laysTurns_1 : decode cX12_laysTurns 1 = .ok (.iload_n 3, 1) := by decide +kernel
theorem dX12_laysTurns_2 : decode cX12_laysTurns 2 = .ok (.iload 4, 2) := by decide +kernel
theorem dX12_laysTurns_4 : decode cX12_laysTurns 4 = .ok (.invokevirtual 384, 3) := by decide +kernel
theorem dX12_laysTurns_7 : decode cX12_laysTurns 7 = .ok (.iconst 4, 1) := by decide +kernel
theorem dX12_laysTurns_8 : decode cX12_laysTurns 8 = .ok (.iload_n 1, 1) := by decide +kernel
theorem dX12_laysTurns_9 : decode cX12_laysTurns 9 = .ok (.imul, 1) := by decide +kernel
theorem dX12_laysTurns_10 : decode cX12_laysTurns 10 = .ok (.iload_n 2, 1) := by decide +kernel
theorem dX12_laysTurns_11 : decode cX12_laysTurns 11 = .ok (.iadd, 1) := by decide +kernel
theorem dX12_laysTurns_12 : decode cX12_laysTurns 12 = .ok (.istore 6, 2) := by decide +kernel
theorem dX12_laysTurns_14 : decode cX12_laysTurns 14 = .ok (.iload 5, 2) := by decide +kernel
theorem dX12_laysTurns_16 : decode cX12_laysTurns 16 = .ok (.istore 7, 2) := by decide +kernel
theorem dX12_laysTurns_18 : decode cX12_laysTurns 18 = .ok (.iconst 0, 1) := by decide +kernel
theorem dX12_laysTurns_19 : decode cX12_laysTurns 19 = .ok (.istore 8, 2) := by decide +kernel
theorem dX12_laysTurns_21 : decode cX12_laysTurns 21 = .ok (.iload 8, 2) := by decide +kernel
theorem dX12_laysTurns_23 : decode cX12_laysTurns 23 = .ok (.iload 4, 2) := by decide +kernel
theorem dX12_laysTurns_25 : decode cX12_laysTurns 25 = .ok (.if_icmp .ge 131, 3) := by decide +kernel
theorem dX12_laysTurns_28 : decode cX12_laysTurns 28 = .ok (.iconst 0, 1) := by decide +kernel
theorem dX12_laysTurns_29 : decode cX12_laysTurns 29 = .ok (.istore 9, 2) := by decide +kernel
theorem dX12_laysTurns_31 : decode cX12_laysTurns 31 = .ok (.iload 9, 2) := by decide +kernel
theorem dX12_laysTurns_33 : decode cX12_laysTurns 33 = .ok (.iconst 4, 1) := by decide +kernel
theorem dX12_laysTurns_34 : decode cX12_laysTurns 34 = .ok (.if_icmp .ge 116, 3) := by decide +kernel
theorem dX12_laysTurns_37 : decode cX12_laysTurns 37 = .ok (.aload_n 0, 1) := by decide +kernel
theorem dX12_laysTurns_38 : decode cX12_laysTurns 38 = .ok (.iload 8, 2) := by decide +kernel
theorem dX12_laysTurns_40 : decode cX12_laysTurns 40 = .ok (.iload 6, 2) := by decide +kernel
theorem dX12_laysTurns_42 : decode cX12_laysTurns 42 = .ok (.iconst 4, 1) := by decide +kernel
theorem dX12_laysTurns_43 : decode cX12_laysTurns 43 = .ok (.idiv, 1) := by decide +kernel
theorem dX12_laysTurns_44 : decode cX12_laysTurns 44 = .ok (.iload 6, 2) := by decide +kernel
theorem dX12_laysTurns_46 : decode cX12_laysTurns 46 = .ok (.iconst 4, 1) := by decide +kernel
theorem dX12_laysTurns_47 : decode cX12_laysTurns 47 = .ok (.irem, 1) := by decide +kernel
theorem dX12_laysTurns_48 : decode cX12_laysTurns 48 = .ok (.iload 9, 2) := by decide +kernel
theorem dX12_laysTurns_50 : decode cX12_laysTurns 50 = .ok (.iconst 0, 1) := by decide +kernel
theorem dX12_laysTurns_51 : decode cX12_laysTurns 51 = .ok (.invokevirtual 352, 3) := by decide +kernel
theorem dX12_laysTurns_54 : decode cX12_laysTurns 54 = .ok (.istore 10, 2) := by decide +kernel
theorem dX12_laysTurns_56 : decode cX12_laysTurns 56 = .ok (.iload 10, 2) := by decide +kernel
theorem dX12_laysTurns_58 : decode cX12_laysTurns 58 = .ok (.ldc_w 351, 3) := by decide +kernel
theorem dX12_laysTurns_61 : decode cX12_laysTurns 61 = .ok (.if_icmp .ne 6, 3) := by decide +kernel
theorem dX12_laysTurns_64 : decode cX12_laysTurns 64 = .ok (.goto 80, 3) := by decide +kernel
theorem dX12_laysTurns_67 : decode cX12_laysTurns 67 = .ok (.iload 6, 2) := by decide +kernel
theorem dX12_laysTurns_69 : decode cX12_laysTurns 69 = .ok (.iconst 4, 1) := by decide +kernel
theorem dX12_laysTurns_70 : decode cX12_laysTurns 70 = .ok (.irem, 1) := by decide +kernel
theorem dX12_laysTurns_71 : decode cX12_laysTurns 71 = .ok (.iload 9, 2) := by decide +kernel
theorem dX12_laysTurns_73 : decode cX12_laysTurns 73 = .ok (.invokestatic 278, 3) := by decide +kernel
theorem dX12_laysTurns_76 : decode cX12_laysTurns 76 = .ok (.istore 11, 2) := by decide +kernel
theorem dX12_laysTurns_78 : decode cX12_laysTurns 78 = .ok (.iconst 4, 1) := by decide +kernel
theorem dX12_laysTurns_79 : decode cX12_laysTurns 79 = .ok (.aload_n 0, 1) := by decide +kernel
theorem dX12_laysTurns_80 : decode cX12_laysTurns 80 = .ok (.iload 6, 2) := by decide +kernel
theorem dX12_laysTurns_82 : decode cX12_laysTurns 82 = .ok (.iconst 4, 1) := by decide +kernel
theorem dX12_laysTurns_83 : decode cX12_laysTurns 83 = .ok (.idiv, 1) := by decide +kernel
theorem dX12_laysTurns_84 : decode cX12_laysTurns 84 = .ok (.iload 11, 2) := by decide +kernel
theorem dX12_laysTurns_86 : decode cX12_laysTurns 86 = .ok (.invokevirtual 263, 3) := by decide +kernel
theorem dX12_laysTurns_89 : decode cX12_laysTurns 89 = .ok (.imul, 1) := by decide +kernel
theorem dX12_laysTurns_90 : decode cX12_laysTurns 90 = .ok (.iload 11, 2) := by decide +kernel
theorem dX12_laysTurns_92 : decode cX12_laysTurns 92 = .ok (.iadd, 1) := by decide +kernel
theorem dX12_laysTurns_93 : decode cX12_laysTurns 93 = .ok (.istore 12, 2) := by decide +kernel
theorem dX12_laysTurns_95 : decode cX12_laysTurns 95 = .ok (.iload 10, 2) := by decide +kernel
theorem dX12_laysTurns_97 : decode cX12_laysTurns 97 = .ok (.aload_n 0, 1) := by decide +kernel
theorem dX12_laysTurns_98 : decode cX12_laysTurns 98 = .ok (.getfield 42, 3) := by decide +kernel
theorem dX12_laysTurns_101 : decode cX12_laysTurns 101 = .ok (.bipush 100, 2) := by decide +kernel
theorem dX12_laysTurns_103 : decode cX12_laysTurns 103 = .ok (.iload 8, 2) := by decide +kernel
theorem dX12_laysTurns_105 : decode cX12_laysTurns 105 = .ok (.iconst 1, 1) := by decide +kernel
theorem dX12_laysTurns_106 : decode cX12_laysTurns 106 = .ok (.iadd, 1) := by decide +kernel
theorem dX12_laysTurns_107 : decode cX12_laysTurns 107 = .ok (.imul, 1) := by decide +kernel
theorem dX12_laysTurns_108 : decode cX12_laysTurns 108 = .ok (.iload 12, 2) := by decide +kernel
theorem dX12_laysTurns_110 : decode cX12_laysTurns 110 = .ok (.iadd, 1) := by decide +kernel
theorem dX12_laysTurns_111 : decode cX12_laysTurns 111 = .ok (.iaload, 1) := by decide +kernel
theorem dX12_laysTurns_112 : decode cX12_laysTurns 112 = .ok (.iadd, 1) := by decide +kernel
theorem dX12_laysTurns_113 : decode cX12_laysTurns 113 = .ok (.iload 7, 2) := by decide +kernel
theorem dX12_laysTurns_115 : decode cX12_laysTurns 115 = .ok (.if_icmp .le 6, 3) := by decide +kernel
theorem dX12_laysTurns_118 : decode cX12_laysTurns 118 = .ok (.goto 26, 3) := by decide +kernel
theorem dX12_laysTurns_121 : decode cX12_laysTurns 121 = .ok (.aload_n 0, 1) := by decide +kernel
theorem dX12_laysTurns_122 : decode cX12_laysTurns 122 = .ok (.getfield 54, 3) := by decide +kernel
theorem dX12_laysTurns_125 : decode cX12_laysTurns 125 = .ok (.iload 8, 2) := by decide +kernel
theorem dX12_laysTurns_127 : decode cX12_laysTurns 127 = .ok (.iload 9, 2) := by decide +kernel
theorem dX12_laysTurns_129 : decode cX12_laysTurns 129 = .ok (.iastore, 1) := by decide +kernel
theorem dX12_laysTurns_130 : decode cX12_laysTurns 130 = .ok (.iload 7, 2) := by decide +kernel
theorem dX12_laysTurns_132 : decode cX12_laysTurns 132 = .ok (.iload 10, 2) := by decide +kernel
theorem dX12_laysTurns_134 : decode cX12_laysTurns 134 = .ok (.isub, 1) := by decide +kernel
theorem dX12_laysTurns_135 : decode cX12_laysTurns 135 = .ok (.istore 7, 2) := by decide +kernel
theorem dX12_laysTurns_137 : decode cX12_laysTurns 137 = .ok (.iload 12, 2) := by decide +kernel
theorem dX12_laysTurns_139 : decode cX12_laysTurns 139 = .ok (.istore 6, 2) := by decide +kernel
theorem dX12_laysTurns_141 : decode cX12_laysTurns 141 = .ok (.goto 9, 3) := by decide +kernel
theorem dX12_laysTurns_144 : decode cX12_laysTurns 144 = .ok (.iinc 9 1, 3) := by decide +kernel
theorem dX12_laysTurns_147 : decode cX12_laysTurns 147 = .ok (.goto (-116), 3) := by decide +kernel
theorem dX12_laysTurns_150 : decode cX12_laysTurns 150 = .ok (.iinc 8 1, 3) := by decide +kernel
theorem dX12_laysTurns_153 : decode cX12_laysTurns 153 = .ok (.goto (-132), 3) := by decide +kernel
theorem dX12_laysTurns_156 : decode cX12_laysTurns 156 = .ok (.aload_n 0, 1) := by decide +kernel
theorem dX12_laysTurns_157 : decode cX12_laysTurns 157 = .ok (.iload 6, 2) := by decide +kernel
theorem dX12_laysTurns_159 : decode cX12_laysTurns 159 = .ok (.putfield 388, 3) := by decide +kernel
theorem dX12_laysTurns_162 : decode cX12_laysTurns 162 = .ok (.return_, 1) := by decide +kernel
theorem dX12_laysWay_0 : decode cX12_laysWay 0 = .ok (.aload_n 0, 1) := by decide +kernel
theorem dX12_laysWay_1 : decode cX12_laysWay 1 = .ok (.iload_n 1, 1) := by decide +kernel
theorem dX12_laysWay_2 : decode cX12_laysWay 2 = .ok (.iload_n 2, 1) := by decide +kernel
theorem dX12_laysWay_3 : decode cX12_laysWay 3 = .ok (.iload_n 3, 1) := by decide +kernel
theorem dX12_laysWay_4 : decode cX12_laysWay 4 = .ok (.invokevirtual 381, 3) := by decide +kernel
theorem dX12_laysWay_7 : decode cX12_laysWay 7 = .ok (.istore 4, 2) := by decide +kernel
theorem dX12_laysWay_9 : decode cX12_laysWay 9 = .ok (.iload 4, 2) := by decide +kernel
theorem dX12_laysWay_11 : decode cX12_laysWay 11 = .ok (.iconst (-1), 1) := by decide +kernel
theorem dX12_laysWay_12 : decode cX12_laysWay 12 = .ok (.if_icmp .eq 29, 3) := by decide +kernel
theorem dX12_laysWay_15 : decode cX12_laysWay 15 = .ok (.aload_n 0, 1) := by decide +kernel
theorem dX12_laysWay_16 : decode cX12_laysWay 16 = .ok (.aload_n 0, 1) := by decide +kernel
theorem dX12_laysWay_17 : decode cX12_laysWay 17 = .ok (.getfield 13, 3) := by decide +kernel
theorem dX12_laysWay_20 : decode cX12_laysWay 20 = .ok (.bipush 36, 2) := by decide +kernel
theorem dX12_laysWay_22 : decode cX12_laysWay 22 = .ok (.iload_n 1, 1) := by decide +kernel
theorem dX12_laysWay_23 : decode cX12_laysWay 23 = .ok (.iadd, 1) := by decide +kernel
theorem dX12_laysWay_24 : decode cX12_laysWay 24 = .ok (.iaload, 1) := by decide +kernel
theorem dX12_laysWay_25 : decode cX12_laysWay 25 = .ok (.aload_n 0, 1) := by decide +kernel
theorem dX12_laysWay_26 : decode cX12_laysWay 26 = .ok (.getfield 13, 3) := by decide +kernel
theorem dX12_laysWay_29 : decode cX12_laysWay 29 = .ok (.bipush 41, 2) := by decide +kernel
theorem dX12_laysWay_31 : decode cX12_laysWay 31 = .ok (.iload_n 1, 1) := by decide +kernel
theorem dX12_laysWay_32 : decode cX12_laysWay 32 = .ok (.iadd, 1) := by decide +kernel
theorem dX12_laysWay_33 : decode cX12_laysWay 33 = .ok (.iaload, 1) := by decide +kernel
theorem dX12_laysWay_34 : decode cX12_laysWay 34 = .ok (.iload_n 2, 1) := by decide +kernel
theorem dX12_laysWay_35 : decode cX12_laysWay 35 = .ok (.iload 4, 2) := by decide +kernel
theorem dX12_laysWay_37 : decode cX12_laysWay 37 = .ok (.iload_n 3, 1) := by decide +kernel
theorem dX12_laysWay_38 : decode cX12_laysWay 38 = .ok (.invokevirtual 391, 3) := by decide +kernel
theorem dX12_laysWay_41 : decode cX12_laysWay 41 = .ok (.iload 4, 2) := by decide +kernel
theorem dX12_laysWay_43 : decode cX12_laysWay 43 = .ok (.ireturn, 1) := by decide +kernel
theorem dX12_leastAt_0 : decode cX12_leastAt 0 = .ok (.ldc_w 351, 3) := by decide +kernel
theorem dX12_leastAt_3 : decode cX12_leastAt 3 = .ok (.istore_n 3, 1) := by decide +kernel
theorem dX12_leastAt_4 : decode cX12_leastAt 4 = .ok (.iconst 0, 1) := by decide +kernel
theorem dX12_leastAt_5 : decode cX12_leastAt 5 = .ok (.istore 4, 2) := by decide +kernel
theorem dX12_leastAt_7 : decode cX12_leastAt 7 = .ok (.iload 4, 2) := by decide +kernel
theorem dX12_leastAt_9 : decode cX12_leastAt 9 = .ok (.iconst 4, 1) := by decide +kernel
theorem dX12_leastAt_10 : decode cX12_leastAt 10 = .ok (.if_icmp .ge 30, 3) := by decide +kernel
theorem dX12_leastAt_13 : decode cX12_leastAt 13 = .ok (.iload_n 3, 1) := by decide +kernel
theorem dX12_leastAt_14 : decode cX12_leastAt 14 = .ok (.aload_n 0, 1) := by decide +kernel
theorem dX12_leastAt_15 : decode cX12_leastAt 15 = .ok (.getfield 39, 3) := by decide +kernel
theorem dX12_leastAt_18 : decode cX12_leastAt 18 = .ok (.bipush 100, 2) := by decide +kernel
theorem dX12_leastAt_20 : decode cX12_leastAt 20 = .ok (.iload_n 1, 1) := by decide +kernel
theorem dX12_leastAt_21 : decode cX12_leastAt 21 = .ok (.imul, 1) := by decide +kernel
theorem dX12_leastAt_22 : decode cX12_leastAt 22 = .ok (.iconst 4, 1) := by decide +kernel
theorem dX12_leastAt_23 : decode cX12_leastAt 23 = .ok (.iload_n 2, 1) := by decide +kernel
theorem dX12_leastAt_24 : decode cX12_leastAt 24 = .ok (.imul, 1) := by decide +kernel
theorem dX12_leastAt_25 : decode cX12_leastAt 25 = .ok (.iadd, 1) := by decide +kernel
theorem dX12_leastAt_26 : decode cX12_leastAt 26 = .ok (.iload 4, 2) := by decide +kernel
theorem dX12_leastAt_28 : decode cX12_leastAt 28 = .ok (.iadd, 1) := by decide +kernel
theorem dX12_leastAt_29 : decode cX12_leastAt 29 = .ok (.iaload, 1) := by decide +kernel
theorem dX12_leastAt_30 : decode cX12_leastAt 30 = .ok (.invokestatic 294, 3) := by decide +kernel
theorem dX12_leastAt_33 : decode cX12_leastAt 33 = .ok (.istore_n 3, 1) := by decide +kernel
theorem dX12_leastAt_34 : decode cX12_leastAt 34 = .ok (.iinc 4 1, 3) := by decide +kernel
theorem dX12_leastAt_37 : decode cX12_leastAt 37 = .ok (.goto (-30), 3) := by decide +kernel
theorem dX12_leastAt_40 : decode cX12_leastAt 40 = .ok (.iload_n 3, 1) := by decide +kernel
theorem dX12_leastAt_41 : decode cX12_leastAt 41 = .ok (.ireturn, 1) := by decide +kernel
theorem dX12_leastWithin_0 : decode cX12_leastWithin 0 = .ok (.ldc_w 351, 3) := by decide +kernel
theorem dX12_leastWithin_3 : decode cX12_leastWithin 3 = .ok (.istore_n 3, 1) := by decide +kernel
theorem dX12_leastWithin_4 : decode cX12_leastWithin 4 = .ok (.iconst 0, 1) := by decide +kernel
theorem dX12_leastWithin_5 : decode cX12_leastWithin 5 = .ok (.istore 4, 2) := by decide +kernel
theorem dX12_leastWithin_7 : decode cX12_leastWithin 7 = .ok (.iload 4, 2) := by decide +kernel
theorem dX12_leastWithin_9 : decode cX12_leastWithin 9 = .ok (.iload_n 2, 1) := by decide +kernel
theorem dX12_leastWithin_10 : decode cX12_leastWithin 10 = .ok (.if_icmp .gt 21, 3) := by decide +kernel
theorem dX12_leastWithin_13 : decode cX12_leastWithin 13 = .ok (.iload_n 3, 1) := by decide +kernel
theorem dX12_leastWithin_14 : decode cX12_leastWithin 14 = .ok (.aload_n 0, 1) := by decide +kernel
theorem dX12_leastWithin_15 : decode cX12_leastWithin 15 = .ok (.iload 4, 2) := by decide +kernel
theorem dX12_leastWithin_17 : decode cX12_leastWithin 17 = .ok (.iload_n 1, 1) := by decide +kernel
theorem dX12_leastWithin_18 : decode cX12_leastWithin 18 = .ok (.invokevirtual 359, 3) := by decide +kernel
theorem dX12_leastWithin_21 : decode cX12_leastWithin 21 = .ok (.invokestatic 294, 3) := by decide +kernel
theorem dX12_leastWithin_24 : decode cX12_leastWithin 24 = .ok (.istore_n 3, 1) := by decide +kernel
theorem dX12_leastWithin_25 : decode cX12_leastWithin 25 = .ok (.iinc 4 1, 3) := by decide +kernel
theorem dX12_leastWithin_28 : decode cX12_leastWithin 28 = .ok (.goto (-21), 3) := by decide +kernel
theorem dX12_leastWithin_31 : decode cX12_leastWithin 31 = .ok (.iload_n 3, 1) := by decide +kernel
theorem dX12_leastWithin_32 : decode cX12_leastWithin 32 = .ok (.ireturn, 1) := by decide +kernel
theorem dX12_reach_0 : decode cX12_reach 0 = .ok (.aload_n 0, 1) := by decide +kernel
theorem dX12_reach_1 : decode cX12_reach 1 = .ok (.iconst 0, 1) := by decide +kernel
theorem dX12_reach_2 : decode cX12_reach 2 = .ok (.putfield 1, 3) := by decide +kernel
theorem dX12_reach_5 : decode cX12_reach 5 = .ok (.aload_n 0, 1) := by decide +kernel
theorem dX12_reach_6 : decode cX12_reach 6 = .ok (.iload_n 1, 1) := by decide +kernel
theorem dX12_reach_7 : decode cX12_reach 7 = .ok (.i2l, 1) := by decide +kernel
theorem dX12_reach_8 : decode cX12_reach 8 = .ok (.invokevirtual 253, 3) := by decide +kernel
theorem dX12_reach_11 : decode cX12_reach 11 = .ok (.ifCond .ne 6, 3) := by decide +kernel
theorem dX12_reach_14 : decode cX12_reach 14 = .ok (.bipush (-2), 2) := by decide +kernel
theorem dX12_reach_16 : decode cX12_reach 16 = .ok (.ireturn, 1) := by decide +kernel
theorem dX12_reach_17 : decode cX12_reach 17 = .ok (.iload_n 2, 1) := by decide +kernel
theorem dX12_reach_18 : decode cX12_reach 18 = .ok (.i2l, 1) := by decide +kernel
theorem dX12_reach_19 : decode cX12_reach 19 = .ok (.lconst 0, 1) := by decide +kernel
theorem dX12_reach_20 : decode cX12_reach 20 = .ok (.ldc2_w 379, 3) := by decide +kernel
theorem dX12_reach_23 : decode cX12_reach 23 = .ok (.invokestatic 161, 3) := by decide +kernel
theorem dX12_reach_26 : decode cX12_reach 26 = .ok (.ifCond .ne 6, 3) := by decide +kernel
theorem dX12_reach_29 : decode cX12_reach 29 = .ok (.bipush (-3), 2) := by decide +kernel
theorem dX12_reach_31 : decode cX12_reach 31 = .ok (.ireturn, 1) := by decide +kernel
theorem dX12_reach_32 : decode cX12_reach 32 = .ok (.aload_n 0, 1) := by decide +kernel
theorem dX12_reach_33 : decode cX12_reach 33 = .ok (.iload_n 1, 1) := by decide +kernel
theorem dX12_reach_34 : decode cX12_reach 34 = .ok (.bipush 60, 2) := by decide +kernel
theorem dX12_reach_36 : decode cX12_reach 36 = .ok (.iconst 0, 1) := by decide +kernel
theorem dX12_reach_37 : decode cX12_reach 37 = .ok (.invokevirtual 369, 3) := by decide +kernel
theorem dX12_reach_40 : decode cX12_reach 40 = .ok (.iconst 0, 1) := by decide +kernel
theorem dX12_reach_41 : decode cX12_reach 41 = .ok (.istore_n 3, 1) := by decide +kernel
theorem dX12_reach_42 : decode cX12_reach 42 = .ok (.iconst 0, 1) := by decide +kernel
theorem dX12_reach_43 : decode cX12_reach 43 = .ok (.istore 4, 2) := by decide +kernel
theorem dX12_reach_45 : decode cX12_reach 45 = .ok (.iload 4, 2) := by decide +kernel
theorem dX12_reach_47 : decode cX12_reach 47 = .ok (.aload_n 0, 1) := by decide +kernel
theorem dX12_reach_48 : decode cX12_reach 48 = .ok (.invokevirtual 233, 3) := by decide +kernel
theorem dX12_reach_51 : decode cX12_reach 51 = .ok (.if_icmp .ge 28, 3) := by decide +kernel
theorem dX12_reach_54 : decode cX12_reach 54 = .ok (.aload_n 0, 1) := by decide +kernel
theorem dX12_reach_55 : decode cX12_reach 55 = .ok (.iload 4, 2) := by decide +kernel
theorem dX12_reach_57 : decode cX12_reach 57 = .ok (.bipush 60, 2) := by decide +kernel
theorem dX12_reach_59 : decode cX12_reach 59 = .ok (.invokevirtual 398, 3) := by decide +kernel
theorem dX12_reach_62 : decode cX12_reach 62 = .ok (.iload_n 2, 1) := by decide +kernel
theorem dX12_reach_63 : decode cX12_reach 63 = .ok (.if_icmp .gt 10, 3) := by decide +kernel
theorem dX12_reach_66 : decode cX12_reach 66 = .ok (.iload_n 3, 1) := by decide +kernel
theorem dX12_reach_67 : decode cX12_reach 67 = .ok (.iconst 1, 1) := by decide +kernel
theorem dX12_reach_68 : decode cX12_reach 68 = .ok (.iload 4, 2) := by decide +kernel
theorem dX12_reach_70 : decode cX12_reach 70 = .ok (.ishl, 1) := by decide +kernel
theorem dX12_reach_71 : decode cX12_reach 71 = .ok (.ior, 1) := by decide +kernel
theorem dX12_reach_72 : decode cX12_reach 72 = .ok (.istore_n 3, 1) := by decide +kernel
theorem dX12_reach_73 : decode cX12_reach 73 = .ok (.iinc 4 1, 3) := by decide +kernel
theorem dX12_reach_76 : decode cX12_reach 76 = .ok (.goto (-31), 3) := by decide +kernel
theorem dX12_reach_79 : decode cX12_reach 79 = .ok (.iload_n 3, 1) := by decide +kernel
theorem dX12_reach_80 : decode cX12_reach 80 = .ok (.ireturn, 1) := by decide +kernel
theorem dX12_soonestBy_0 : decode cX12_soonestBy 0 = .ok (.iconst 0, 1) := by decide +kernel
theorem dX12_soonestBy_1 : decode cX12_soonestBy 1 = .ok (.istore_n 3, 1) := by decide +kernel
theorem dX12_soonestBy_2 : decode cX12_soonestBy 2 = .ok (.iload_n 3, 1) := by decide +kernel
theorem dX12_soonestBy_3 : decode cX12_soonestBy 3 = .ok (.bipush 60, 2) := by decide +kernel
theorem dX12_soonestBy_5 : decode cX12_soonestBy 5 = .ok (.if_icmp .gt 21, 3) := by decide +kernel
theorem dX12_soonestBy_8 : decode cX12_soonestBy 8 = .ok (.aload_n 0, 1) := by decide +kernel
theorem dX12_soonestBy_9 : decode cX12_soonestBy 9 = .ok (.iload_n 3, 1) := by decide +kernel
theorem dX12_soonestBy_10 : decode cX12_soonestBy 10 = .ok (.iload_n 1, 1) := by decide +kernel
theorem dX12_soonestBy_11 : decode cX12_soonestBy 11 = .ok (.invokevirtual 359, 3) := by decide +kernel
theorem dX12_soonestBy_14 : decode cX12_soonestBy 14 = .ok (.iload_n 2, 1) := by decide +kernel
theorem dX12_soonestBy_15 : decode cX12_soonestBy 15 = .ok (.if_icmp .gt 5, 3) := by decide +kernel
theorem dX12_soonestBy_18 : decode cX12_soonestBy 18 = .ok (.iload_n 3, 1) := by decide +kernel
theorem dX12_soonestBy_19 : decode cX12_soonestBy 19 = .ok (.ireturn, 1) := by decide +kernel
theorem dX12_soonestBy_20 : decode cX12_soonestBy 20 = .ok (.iinc 3 1, 3) := by decide +kernel
theorem dX12_soonestBy_23 : decode cX12_soonestBy 23 = .ok (.goto (-21), 3) := by decide +kernel
theorem dX12_soonestBy_26 : decode cX12_soonestBy 26 = .ok (.iconst (-1), 1) := by decide +kernel
theorem dX12_soonestBy_27 : decode cX12_soonestBy 27 = .ok (.ireturn, 1) := by decide +kernel
theorem dX12_stillBy_0 : decode cX12_stillBy 0 = .ok (.ldc_w 351, 3) := by decide +kernel
theorem dX12_stillBy_3 : decode cX12_stillBy 3 = .ok (.istore_n 3, 1) := by decide +kernel
theorem dX12_stillBy_4 : decode cX12_stillBy 4 = .ok (.iconst 0, 1) := by decide +kernel
theorem dX12_stillBy_5 : decode cX12_stillBy 5 = .ok (.istore 4, 2) := by decide +kernel
theorem dX12_stillBy_7 : decode cX12_stillBy 7 = .ok (.iload 4, 2) := by decide +kernel
theorem dX12_stillBy_9 : decode cX12_stillBy 9 = .ok (.iconst 4, 1) := by decide +kernel
theorem dX12_stillBy_10 : decode cX12_stillBy 10 = .ok (.if_icmp .ge 79, 3) := by decide +kernel
theorem dX12_stillBy_13 : decode cX12_stillBy 13 = .ok (.aload_n 0, 1) := by decide +kernel
theorem dX12_stillBy_14 : decode cX12_stillBy 14 = .ok (.iload_n 1, 1) := by decide +kernel
theorem dX12_stillBy_15 : decode cX12_stillBy 15 = .ok (.iload_n 2, 1) := by decide +kernel
theorem dX12_stillBy_16 : decode cX12_stillBy 16 = .ok (.iconst 4, 1) := by decide +kernel
theorem dX12_stillBy_17 : decode cX12_stillBy 17 = .ok (.idiv, 1) := by decide +kernel
theorem dX12_stillBy_18 : decode cX12_stillBy 18 = .ok (.iload_n 2, 1) := by decide +kernel
theorem dX12_stillBy_19 : decode cX12_stillBy 19 = .ok (.iconst 4, 1) := by decide +kernel
theorem dX12_stillBy_20 : decode cX12_stillBy 20 = .ok (.irem, 1) := by decide +kernel
theorem dX12_stillBy_21 : decode cX12_stillBy 21 = .ok (.iload 4, 2) := by decide +kernel
theorem dX12_stillBy_23 : decode cX12_stillBy 23 = .ok (.iconst 0, 1) := by decide +kernel
theorem dX12_stillBy_24 : decode cX12_stillBy 24 = .ok (.invokevirtual 352, 3) := by decide +kernel
theorem dX12_stillBy_27 : decode cX12_stillBy 27 = .ok (.istore 5, 2) := by decide +kernel
theorem dX12_stillBy_29 : decode cX12_stillBy 29 = .ok (.iload 5, 2) := by decide +kernel
theorem dX12_stillBy_31 : decode cX12_stillBy 31 = .ok (.ldc_w 351, 3) := by decide +kernel
theorem dX12_stillBy_34 : decode cX12_stillBy 34 = .ok (.if_icmp .eq 49, 3) := by decide +kernel
theorem dX12_stillBy_37 : decode cX12_stillBy 37 = .ok (.iload_n 3, 1) := by decide +kernel
theorem dX12_stillBy_38 : decode cX12_stillBy 38 = .ok (.iload 5, 2) := by decide +kernel
theorem dX12_stillBy_40 : decode cX12_stillBy 40 = .ok (.aload_n 0, 1) := by decide +kernel
theorem dX12_stillBy_41 : decode cX12_stillBy 41 = .ok (.getfield 42, 3) := by decide +kernel
theorem dX12_stillBy_44 : decode cX12_stillBy 44 = .ok (.bipush 100, 2) := by decide +kernel
theorem dX12_stillBy_46 : decode cX12_stillBy 46 = .ok (.iload_n 1, 1) := by decide +kernel
theorem dX12_stillBy_47 : decode cX12_stillBy 47 = .ok (.iconst 1, 1) := by decide +kernel
theorem dX12_stillBy_48 : decode cX12_stillBy 48 = .ok (.iadd, 1) := by decide +kernel
theorem dX12_stillBy_49 : decode cX12_stillBy 49 = .ok (.imul, 1) := by decide +kernel
theorem dX12_stillBy_50 : decode cX12_stillBy 50 = .ok (.iconst 4, 1) := by decide +kernel
theorem dX12_stillBy_51 : decode cX12_stillBy 51 = .ok (.aload_n 0, 1) := by decide +kernel
theorem dX12_stillBy_52 : decode cX12_stillBy 52 = .ok (.iload_n 2, 1) := by decide +kernel
theorem dX12_stillBy_53 : decode cX12_stillBy 53 = .ok (.iconst 4, 1) := by decide +kernel
theorem dX12_stillBy_54 : decode cX12_stillBy 54 = .ok (.idiv, 1) := by decide +kernel
theorem dX12_stillBy_55 : decode cX12_stillBy 55 = .ok (.iload_n 2, 1) := by decide +kernel
theorem dX12_stillBy_56 : decode cX12_stillBy 56 = .ok (.iconst 4, 1) := by decide +kernel
theorem dX12_stillBy_57 : decode cX12_stillBy 57 = .ok (.irem, 1) := by decide +kernel
theorem dX12_stillBy_58 : decode cX12_stillBy 58 = .ok (.iload 4, 2) := by decide +kernel
theorem dX12_stillBy_60 : decode cX12_stillBy 60 = .ok (.invokestatic 278, 3) := by decide +kernel
theorem dX12_stillBy_63 : decode cX12_stillBy 63 = .ok (.invokevirtual 263, 3) := by decide +kernel
theorem dX12_stillBy_66 : decode cX12_stillBy 66 = .ok (.imul, 1) := by decide +kernel
theorem dX12_stillBy_67 : decode cX12_stillBy 67 = .ok (.iadd, 1) := by decide +kernel
theorem dX12_stillBy_68 : decode cX12_stillBy 68 = .ok (.iload_n 2, 1) := by decide +kernel
theorem dX12_stillBy_69 : decode cX12_stillBy 69 = .ok (.iconst 4, 1) := by decide +kernel
theorem dX12_stillBy_70 : decode cX12_stillBy 70 = .ok (.irem, 1) := by decide +kernel
theorem dX12_stillBy_71 : decode cX12_stillBy 71 = .ok (.iload 4, 2) := by decide +kernel
theorem dX12_stillBy_73 : decode cX12_stillBy 73 = .ok (.invokestatic 278, 3) := by decide +kernel
theorem dX12_stillBy_76 : decode cX12_stillBy 76 = .ok (.iadd, 1) := by decide +kernel
theorem dX12_stillBy_77 : decode cX12_stillBy 77 = .ok (.iaload, 1) := by decide +kernel
theorem dX12_stillBy_78 : decode cX12_stillBy 78 = .ok (.iadd, 1) := by decide +kernel
theorem dX12_stillBy_79 : decode cX12_stillBy 79 = .ok (.invokestatic 294, 3) := by decide +kernel
theorem dX12_stillBy_82 : decode cX12_stillBy 82 = .ok (.istore_n 3, 1) := by decide +kernel
theorem dX12_stillBy_83 : decode cX12_stillBy 83 = .ok (.iinc 4 1, 3) := by decide +kernel
theorem dX12_stillBy_86 : decode cX12_stillBy 86 = .ok (.goto (-79), 3) := by decide +kernel
theorem dX12_stillBy_89 : decode cX12_stillBy 89 = .ok (.iload_n 3, 1) := by decide +kernel
theorem dX12_stillBy_90 : decode cX12_stillBy 90 = .ok (.ireturn, 1) := by decide +kernel
theorem dX12_turn_0 : decode cX12_turn 0 = .ok (.aload_n 0, 1) := by decide +kernel
theorem dX12_turn_1 : decode cX12_turn 1 = .ok (.iconst 0, 1) := by decide +kernel
theorem dX12_turn_2 : decode cX12_turn 2 = .ok (.putfield 1, 3) := by decide +kernel
theorem dX12_turn_5 : decode cX12_turn 5 = .ok (.aload_n 0, 1) := by decide +kernel
theorem dX12_turn_6 : decode cX12_turn 6 = .ok (.iload_n 1, 1) := by decide +kernel
theorem dX12_turn_7 : decode cX12_turn 7 = .ok (.iload_n 2, 1) := by decide +kernel
theorem dX12_turn_8 : decode cX12_turn 8 = .ok (.invokevirtual 376, 3) := by decide +kernel
theorem dX12_turn_11 : decode cX12_turn 11 = .ok (.ifCond .ne 6, 3) := by decide +kernel
theorem dX12_turn_14 : decode cX12_turn 14 = .ok (.bipush (-2), 2) := by decide +kernel
theorem dX12_turn_16 : decode cX12_turn 16 = .ok (.ireturn, 1) := by decide +kernel
theorem dX12_turn_17 : decode cX12_turn 17 = .ok (.iload_n 3, 1) := by decide +kernel
theorem dX12_turn_18 : decode cX12_turn 18 = .ok (.i2l, 1) := by decide +kernel
theorem dX12_turn_19 : decode cX12_turn 19 = .ok (.lconst 0, 1) := by decide +kernel
theorem dX12_turn_20 : decode cX12_turn 20 = .ok (.ldc2_w 379, 3) := by decide +kernel
theorem dX12_turn_23 : decode cX12_turn 23 = .ok (.invokestatic 161, 3) := by decide +kernel
theorem dX12_turn_26 : decode cX12_turn 26 = .ok (.ifCond .eq 8, 3) := by decide +kernel
theorem dX12_turn_29 : decode cX12_turn 29 = .ok (.iload 4, 2) := by decide +kernel
theorem dX12_turn_31 : decode cX12_turn 31 = .ok (.ifCond .ge 6, 3) := by decide +kernel
theorem dX12_turn_34 : decode cX12_turn 34 = .ok (.bipush (-3), 2) := by decide +kernel
theorem dX12_turn_36 : decode cX12_turn 36 = .ok (.ireturn, 1) := by decide +kernel
theorem dX12_turn_37 : decode cX12_turn 37 = .ok (.aload_n 0, 1) := by decide +kernel
theorem dX12_turn_38 : decode cX12_turn 38 = .ok (.iload_n 1, 1) := by decide +kernel
theorem dX12_turn_39 : decode cX12_turn 39 = .ok (.iload_n 2, 1) := by decide +kernel
theorem dX12_turn_40 : decode cX12_turn 40 = .ok (.iload_n 3, 1) := by decide +kernel
theorem dX12_turn_41 : decode cX12_turn 41 = .ok (.invokevirtual 395, 3) := by decide +kernel
theorem dX12_turn_44 : decode cX12_turn 44 = .ok (.istore 5, 2) := by decide +kernel
theorem dX12_turn_46 : decode cX12_turn 46 = .ok (.iload 4, 2) := by decide +kernel
theorem dX12_turn_48 : decode cX12_turn 48 = .ok (.iload 5, 2) := by decide +kernel
theorem dX12_turn_50 : decode cX12_turn 50 = .ok (.if_icmp .ge 13, 3) := by decide +kernel
theorem dX12_turn_53 : decode cX12_turn 53 = .ok (.aload_n 0, 1) := by decide +kernel
theorem dX12_turn_54 : decode cX12_turn 54 = .ok (.getfield 54, 3) := by decide +kernel
theorem dX12_turn_57 : decode cX12_turn 57 = .ok (.iload 4, 2) := by decide +kernel
theorem dX12_turn_59 : decode cX12_turn 59 = .ok (.iaload, 1) := by decide +kernel
theorem dX12_turn_60 : decode cX12_turn 60 = .ok (.goto 4, 3) := by decide +kernel
theorem dX12_turn_63 : decode cX12_turn 63 = .ok (.iconst (-1), 1) := by decide +kernel
theorem dX12_turn_64 : decode cX12_turn 64 = .ok (.ireturn, 1) := by decide +kernel
theorem dX12_way_0 : decode cX12_way 0 = .ok (.aload_n 0, 1) := by decide +kernel
theorem dX12_way_1 : decode cX12_way 1 = .ok (.iconst 0, 1) := by decide +kernel
theorem dX12_way_2 : decode cX12_way 2 = .ok (.putfield 1, 3) := by decide +kernel
theorem dX12_way_5 : decode cX12_way 5 = .ok (.aload_n 0, 1) := by decide +kernel
theorem dX12_way_6 : decode cX12_way 6 = .ok (.iload_n 1, 1) := by decide +kernel
theorem dX12_way_7 : decode cX12_way 7 = .ok (.iload_n 2, 1) := by decide +kernel
theorem dX12_way_8 : decode cX12_way 8 = .ok (.invokevirtual 376, 3) := by decide +kernel
theorem dX12_way_11 : decode cX12_way 11 = .ok (.ifCond .ne 6, 3) := by decide +kernel
theorem dX12_way_14 : decode cX12_way 14 = .ok (.bipush (-2), 2) := by decide +kernel
theorem dX12_way_16 : decode cX12_way 16 = .ok (.ireturn, 1) := by decide +kernel
theorem dX12_way_17 : decode cX12_way 17 = .ok (.iload_n 3, 1) := by decide +kernel
theorem dX12_way_18 : decode cX12_way 18 = .ok (.i2l, 1) := by decide +kernel
theorem dX12_way_19 : decode cX12_way 19 = .ok (.lconst 0, 1) := by decide +kernel
theorem dX12_way_20 : decode cX12_way 20 = .ok (.ldc2_w 379, 3) := by decide +kernel
theorem dX12_way_23 : decode cX12_way 23 = .ok (.invokestatic 161, 3) := by decide +kernel
theorem dX12_way_26 : decode cX12_way 26 = .ok (.ifCond .eq 13, 3) := by decide +kernel
theorem dX12_way_29 : decode cX12_way 29 = .ok (.aload_n 0, 1) := by decide +kernel
theorem dX12_way_30 : decode cX12_way 30 = .ok (.iload_n 1, 1) := by decide +kernel
theorem dX12_way_31 : decode cX12_way 31 = .ok (.iload_n 2, 1) := by decide +kernel
theorem dX12_way_32 : decode cX12_way 32 = .ok (.iload_n 3, 1) := by decide +kernel
theorem dX12_way_33 : decode cX12_way 33 = .ok (.invokevirtual 381, 3) := by decide +kernel
theorem dX12_way_36 : decode cX12_way 36 = .ok (.goto 5, 3) := by decide +kernel
theorem dX12_way_39 : decode cX12_way 39 = .ok (.bipush (-3), 2) := by decide +kernel
theorem dX12_way_41 : decode cX12_way 41 = .ok (.ireturn, 1) := by decide +kernel
theorem dX12_wayOf_0 : decode cX12_wayOf 0 = .ok (.aload_n 0, 1) := by decide +kernel
theorem dX12_wayOf_1 : decode cX12_wayOf 1 = .ok (.iload_n 1, 1) := by decide +kernel
theorem dX12_wayOf_2 : decode cX12_wayOf 2 = .ok (.bipush 60, 2) := by decide +kernel
theorem dX12_wayOf_4 : decode cX12_wayOf 4 = .ok (.iconst 0, 1) := by decide +kernel
theorem dX12_wayOf_5 : decode cX12_wayOf 5 = .ok (.invokevirtual 369, 3) := by decide +kernel
theorem dX12_wayOf_8 : decode cX12_wayOf 8 = .ok (.aload_n 0, 1) := by decide +kernel
theorem dX12_wayOf_9 : decode cX12_wayOf 9 = .ok (.iload_n 2, 1) := by decide +kernel
theorem dX12_wayOf_10 : decode cX12_wayOf 10 = .ok (.iload_n 3, 1) := by decide +kernel
theorem dX12_wayOf_11 : decode cX12_wayOf 11 = .ok (.invokevirtual 373, 3) := by decide +kernel
theorem dX12_wayOf_14 : decode cX12_wayOf 14 = .ok (.ireturn, 1) := by decide +kernel
theorem dX12_ways_0 : decode cX12_ways 0 = .ok (.aload_n 0, 1) := by decide +kernel
theorem dX12_ways_1 : decode cX12_ways 1 = .ok (.iconst 0, 1) := by decide +kernel
theorem dX12_ways_2 : decode cX12_ways 2 = .ok (.putfield 1, 3) := by decide +kernel
theorem dX12_ways_5 : decode cX12_ways 5 = .ok (.aload_n 0, 1) := by decide +kernel
theorem dX12_ways_6 : decode cX12_ways 6 = .ok (.iload_n 1, 1) := by decide +kernel
theorem dX12_ways_7 : decode cX12_ways 7 = .ok (.iload_n 2, 1) := by decide +kernel
theorem dX12_ways_8 : decode cX12_ways 8 = .ok (.invokevirtual 376, 3) := by decide +kernel
theorem dX12_ways_11 : decode cX12_ways 11 = .ok (.ifCond .ne 7, 3) := by decide +kernel
theorem dX12_ways_14 : decode cX12_ways 14 = .ok (.ldc2_w 404, 3) := by decide +kernel
theorem dX12_ways_17 : decode cX12_ways 17 = .ok (.lreturn, 1) := by decide +kernel
theorem dX12_ways_18 : decode cX12_ways 18 = .ok (.iload_n 3, 1) := by decide +kernel
theorem dX12_ways_19 : decode cX12_ways 19 = .ok (.i2l, 1) := by decide +kernel
theorem dX12_ways_20 : decode cX12_ways 20 = .ok (.lconst 0, 1) := by decide +kernel
theorem dX12_ways_21 : decode cX12_ways 21 = .ok (.ldc2_w 170, 3) := by decide +kernel
theorem dX12_ways_24 : decode cX12_ways 24 = .ok (.invokestatic 161, 3) := by decide +kernel
theorem dX12_ways_27 : decode cX12_ways 27 = .ok (.ifCond .eq 16, 3) := by decide +kernel
theorem dX12_ways_30 : decode cX12_ways 30 = .ok (.iload 4, 2) := by decide +kernel
theorem dX12_ways_32 : decode cX12_ways 32 = .ok (.i2l, 1) := by decide +kernel
theorem dX12_ways_33 : decode cX12_ways 33 = .ok (.lconst 0, 1) := by decide +kernel
theorem dX12_ways_34 : decode cX12_ways 34 = .ok (.ldc2_w 406, 3) := by decide +kernel
theorem dX12_ways_37 : decode cX12_ways 37 = .ok (.invokestatic 161, 3) := by decide +kernel
theorem dX12_ways_40 : decode cX12_ways 40 = .ok (.ifCond .ne 7, 3) := by decide +kernel
theorem dX12_ways_43 : decode cX12_ways 43 = .ok (.ldc2_w 408, 3) := by decide +kernel
theorem dX12_ways_46 : decode cX12_ways 46 = .ok (.lreturn, 1) := by decide +kernel
theorem dX12_ways_47 : decode cX12_ways 47 = .ok (.aload_n 0, 1) := by decide +kernel
theorem dX12_ways_48 : decode cX12_ways 48 = .ok (.iconst 0, 1) := by decide +kernel
theorem dX12_ways_49 : decode cX12_ways 49 = .ok (.putfield 348, 3) := by decide +kernel
theorem dX12_ways_52 : decode cX12_ways 52 = .ok (.aload_n 0, 1) := by decide +kernel
theorem dX12_ways_53 : decode cX12_ways 53 = .ok (.iload_n 3, 1) := by decide +kernel
theorem dX12_ways_54 : decode cX12_ways 54 = .ok (.invokevirtual 362, 3) := by decide +kernel
theorem dX12_ways_57 : decode cX12_ways 57 = .ok (.iconst 0, 1) := by decide +kernel
theorem dX12_ways_58 : decode cX12_ways 58 = .ok (.istore 5, 2) := by decide +kernel
theorem dX12_ways_60 : decode cX12_ways 60 = .ok (.iload 5, 2) := by decide +kernel
theorem dX12_ways_62 : decode cX12_ways 62 = .ok (.sipush 4100, 3) := by decide +kernel
theorem dX12_ways_65 : decode cX12_ways 65 = .ok (.if_icmp .ge 17, 3) := by decide +kernel
theorem dX12_ways_68 : decode cX12_ways 68 = .ok (.aload_n 0, 1) := by decide +kernel
theorem dX12_ways_69 : decode cX12_ways 69 = .ok (.getfield 57, 3) := by decide +kernel
theorem dX12_ways_72 : decode cX12_ways 72 = .ok (.iload 5, 2) := by decide +kernel
theorem dX12_ways_74 : decode cX12_ways 74 = .ok (.lconst 0, 1) := by decide +kernel
theorem dX12_ways_75 : decode cX12_ways 75 = .ok (.lastore, 1) := by decide +kernel
theorem dX12_ways_76 : decode cX12_ways 76 = .ok (.iinc 5 1, 3) := by decide +kernel
theorem dX12_ways_79 : decode cX12_ways 79 = .ok (.goto (-19), 3) := by decide +kernel
theorem dX12_ways_82 : decode cX12_ways 82 = .ok (.aload_n 0, 1) := by decide +kernel
theorem dX12_ways_83 : decode cX12_ways 83 = .ok (.getfield 57, 3) := by decide +kernel
theorem dX12_ways_86 : decode cX12_ways 86 = .ok (.bipush 41, 2) := by decide +kernel
theorem dX12_ways_88 : decode cX12_ways 88 = .ok (.iconst 4, 1) := by decide +kernel
theorem dX12_ways_89 : decode cX12_ways 89 = .ok (.aload_n 0, 1) := by decide +kernel
theorem dX12_ways_90 : decode cX12_ways 90 = .ok (.getfield 13, 3) := by decide +kernel
theorem dX12_ways_93 : decode cX12_ways 93 = .ok (.bipush 36, 2) := by decide +kernel
theorem dX12_ways_95 : decode cX12_ways 95 = .ok (.iload_n 1, 1) := by decide +kernel
theorem dX12_ways_96 : decode cX12_ways 96 = .ok (.iadd, 1) := by decide +kernel
theorem dX12_ways_97 : decode cX12_ways 97 = .ok (.iaload, 1) := by decide +kernel
theorem dX12_ways_98 : decode cX12_ways 98 = .ok (.imul, 1) := by decide +kernel
theorem dX12_ways_99 : decode cX12_ways 99 = .ok (.aload_n 0, 1) := by decide +kernel
theorem dX12_ways_100 : decode cX12_ways 100 = .ok (.getfield 13, 3) := by decide +kernel
theorem dX12_ways_103 : decode cX12_ways 103 = .ok (.bipush 41, 2) := by decide +kernel
theorem dX12_ways_105 : decode cX12_ways 105 = .ok (.iload_n 1, 1) := by decide +kernel
theorem dX12_ways_106 : decode cX12_ways 106 = .ok (.iadd, 1) := by decide +kernel
theorem dX12_ways_107 : decode cX12_ways 107 = .ok (.iaload, 1) := by decide +kernel
theorem dX12_ways_108 : decode cX12_ways 108 = .ok (.iadd, 1) := by decide +kernel
theorem dX12_ways_109 : decode cX12_ways 109 = .ok (.imul, 1) := by decide +kernel
theorem dX12_ways_110 : decode cX12_ways 110 = .ok (.lconst 1, 1) := by decide +kernel
theorem dX12_ways_111 : decode cX12_ways 111 = .ok (.lastore, 1) := by decide +kernel
theorem dX12_ways_112 : decode cX12_ways 112 = .ok (.iconst 0, 1) := by decide +kernel
theorem dX12_ways_113 : decode cX12_ways 113 = .ok (.istore 5, 2) := by decide +kernel
theorem dX12_ways_115 : decode cX12_ways 115 = .ok (.iload 5, 2) := by decide +kernel
theorem dX12_ways_117 : decode cX12_ways 117 = .ok (.iload_n 3, 1) := by decide +kernel
theorem dX12_ways_118 : decode cX12_ways 118 = .ok (.if_icmp .ge 95, 3) := by decide +kernel
theorem dX12_ways_121 : decode cX12_ways 121 = .ok (.iconst 0, 1) := by decide +kernel
theorem dX12_ways_122 : decode cX12_ways 122 = .ok (.istore 6, 2) := by decide +kernel
theorem dX12_ways_124 : decode cX12_ways 124 = .ok (.iload 6, 2) := by decide +kernel
theorem dX12_ways_126 : decode cX12_ways 126 = .ok (.sipush 4100, 3) := by decide +kernel
theorem dX12_ways_129 : decode cX12_ways 129 = .ok (.if_icmp .ge 17, 3) := by decide +kernel
theorem dX12_ways_132 : decode cX12_ways 132 = .ok (.aload_n 0, 1) := by decide +kernel
theorem dX12_ways_133 : decode cX12_ways 133 = .ok (.getfield 61, 3) := by decide +kernel
theorem dX12_ways_136 : decode cX12_ways 136 = .ok (.iload 6, 2) := by decide +kernel
theorem dX12_ways_138 : decode cX12_ways 138 = .ok (.lconst 0, 1) := by decide +kernel
theorem dX12_ways_139 : decode cX12_ways 139 = .ok (.lastore, 1) := by decide +kernel
theorem dX12_ways_140 : decode cX12_ways 140 = .ok (.iinc 6 1, 3) := by decide +kernel
theorem dX12_ways_143 : decode cX12_ways 143 = .ok (.goto (-19), 3) := by decide +kernel
theorem dX12_ways_146 : decode cX12_ways 146 = .ok (.iconst 0, 1) := by decide +kernel
theorem dX12_ways_147 : decode cX12_ways 147 = .ok (.istore 6, 2) := by decide +kernel
theorem dX12_ways_149 : decode cX12_ways 149 = .ok (.iload 6, 2) := by decide +kernel
theorem dX12_ways_151 : decode cX12_ways 151 = .ok (.iconst 4, 1) := by decide +kernel
theorem dX12_ways_152 : decode cX12_ways 152 = .ok (.aload_n 0, 1) := by decide +kernel
theorem dX12_ways_153 : decode cX12_ways 153 = .ok (.invokevirtual 233, 3) := by decide +kernel
theorem dX12_ways_156 : decode cX12_ways 156 = .ok (.imul, 1) := by decide +kernel
theorem dX12_ways_157 : decode cX12_ways 157 = .ok (.if_icmp .ge 19, 3) := by decide +kernel
theorem dX12_ways_160 : decode cX12_ways 160 = .ok (.aload_n 0, 1) := by decide +kernel
theorem dX12_ways_161 : decode cX12_ways 161 = .ok (.iload 5, 2) := by decide +kernel
theorem dX12_ways_163 : decode cX12_ways 163 = .ok (.iload 6, 2) := by decide +kernel
theorem dX12_ways_165 : decode cX12_ways 165 = .ok (.iload 4, 2) := by decide +kernel
theorem dX12_ways_167 : decode cX12_ways 167 = .ok (.invokevirtual 410, 3) := by decide +kernel
theorem dX12_ways_170 : decode cX12_ways 170 = .ok (.iinc 6 1, 3) := by decide +kernel
theorem dX12_ways_173 : decode cX12_ways 173 = .ok (.goto (-24), 3) := by decide +kernel
theorem dX12_ways_176 : decode cX12_ways 176 = .ok (.iconst 0, 1) := by decide +kernel
theorem dX12_ways_177 : decode cX12_ways 177 = .ok (.istore 6, 2) := by decide +kernel
theorem dX12_ways_179 : decode cX12_ways 179 = .ok (.iload 6, 2) := by decide +kernel
theorem dX12_ways_181 : decode cX12_ways 181 = .ok (.sipush 4100, 3) := by decide +kernel
theorem dX12_ways_184 : decode cX12_ways 184 = .ok (.if_icmp .ge 23, 3) := by decide +kernel
theorem dX12_ways_187 : decode cX12_ways 187 = .ok (.aload_n 0, 1) := by decide +kernel
theorem dX12_ways_188 : decode cX12_ways 188 = .ok (.getfield 57, 3) := by decide +kernel
theorem dX12_ways_191 : decode cX12_ways 191 = .ok (.iload 6, 2) := by decide +kernel
theorem dX12_ways_193 : decode cX12_ways 193 = .ok (.aload_n 0, 1) := by decide +kernel
theorem dX12_ways_194 : decode cX12_ways 194 = .ok (.getfield 61, 3) := by decide +kernel
theorem dX12_ways_197 : decode cX12_ways 197 = .ok (.iload 6, 2) := by decide +kernel
theorem dX12_ways_199 : decode cX12_ways 199 = .ok (.laload, 1) := by decide +kernel
theorem dX12_ways_200 : decode cX12_ways 200 = .ok (.lastore, 1) := by decide +kernel
theorem dX12_ways_201 : decode cX12_ways 201 = .ok (.iinc 6 1, 3) := by decide +kernel
theorem dX12_ways_204 : decode cX12_ways 204 = .ok (.goto (-25), 3) := by decide +kernel
theorem dX12_ways_207 : decode cX12_ways 207 = .ok (.iinc 5 1, 3) := by decide +kernel
theorem dX12_ways_210 : decode cX12_ways 210 = .ok (.goto (-95), 3) := by decide +kernel
theorem dX12_ways_213 : decode cX12_ways 213 = .ok (.lconst 0, 1) := by decide +kernel
theorem dX12_ways_214 : decode cX12_ways 214 = .ok (.lstore 5, 2) := by decide +kernel
theorem dX12_ways_216 : decode cX12_ways 216 = .ok (.iconst 0, 1) := by decide +kernel
theorem dX12_ways_217 : decode cX12_ways 217 = .ok (.istore 7, 2) := by decide +kernel
theorem dX12_ways_219 : decode cX12_ways 219 = .ok (.iload 7, 2) := by decide +kernel
theorem dX12_ways_221 : decode cX12_ways 221 = .ok (.iconst 4, 1) := by decide +kernel
theorem dX12_ways_222 : decode cX12_ways 222 = .ok (.if_icmp .ge 47, 3) := by decide +kernel
theorem dX12_ways_225 : decode cX12_ways 225 = .ok (.iconst 0, 1) := by decide +kernel
theorem dX12_ways_226 : decode cX12_ways 226 = .ok (.istore 8, 2) := by decide +kernel
theorem dX12_ways_228 : decode cX12_ways 228 = .ok (.iload 8, 2) := by decide +kernel
theorem dX12_ways_230 : decode cX12_ways 230 = .ok (.iload 4, 2) := by decide +kernel
theorem dX12_ways_232 : decode cX12_ways 232 = .ok (.if_icmp .gt 31, 3) := by decide +kernel
theorem dX12_ways_235 : decode cX12_ways 235 = .ok (.lload 5, 2) := by decide +kernel
theorem dX12_ways_237 : decode cX12_ways 237 = .ok (.aload_n 0, 1) := by decide +kernel
theorem dX12_ways_238 : decode cX12_ways 238 = .ok (.getfield 57, 3) := by decide +kernel
theorem dX12_ways_241 : decode cX12_ways 241 = .ok (.bipush 41, 2) := by decide +kernel
theorem dX12_ways_243 : decode cX12_ways 243 = .ok (.iconst 4, 1) := by decide +kernel
theorem dX12_ways_244 : decode cX12_ways 244 = .ok (.iload_n 2, 1) := by decide +kernel
theorem dX12_ways_245 : decode cX12_ways 245 = .ok (.imul, 1) := by decide +kernel
theorem dX12_ways_246 : decode cX12_ways 246 = .ok (.iload 7, 2) := by decide +kernel
theorem dX12_ways_248 : decode cX12_ways 248 = .ok (.iadd, 1) := by decide +kernel
theorem dX12_ways_249 : decode cX12_ways 249 = .ok (.imul, 1) := by decide +kernel
theorem dX12_ways_250 : decode cX12_ways 250 = .ok (.iload 8, 2) := by decide +kernel
theorem dX12_ways_252 : decode cX12_ways 252 = .ok (.iadd, 1) := by decide +kernel
theorem dX12_ways_253 : decode cX12_ways 253 = .ok (.laload, 1) := by decide +kernel
theorem dX12_ways_254 : decode cX12_ways 254 = .ok (.ladd, 1) := by decide +kernel
theorem dX12_ways_255 : decode cX12_ways 255 = .ok (.lstore 5, 2) := by decide +kernel
theorem dX12_ways_257 : decode cX12_ways 257 = .ok (.iinc 8 1, 3) := by decide +kernel
theorem dX12_ways_260 : decode cX12_ways 260 = .ok (.goto (-32), 3) := by decide +kernel
theorem dX12_ways_263 : decode cX12_ways 263 = .ok (.iinc 7 1, 3) := by decide +kernel
theorem dX12_ways_266 : decode cX12_ways 266 = .ok (.goto (-47), 3) := by decide +kernel
theorem dX12_ways_269 : decode cX12_ways 269 = .ok (.lload 5, 2) := by decide +kernel
theorem dX12_ways_271 : decode cX12_ways 271 = .ok (.lreturn, 1) := by decide +kernel
theorem o36_1 {x0 : Int} (h0 : 0 ≤ x0) (h1 : x0 ≤ 61) (h2 : 61 - x0 < 0) : False := by omega
theorem o36_2 {x0 : Int} (h0 : 0 ≤ x0) (h1 : x0 ≤ 25) (h2 : 25 - x0 < 0) : False := by omega
theorem o36_3 {x0 x1 : Int} {x2 : Nat} (h0 : 0 ≤ x1) (h1 : x1 ≤ 60) (h2 : 0 ≤ x0) (h3 : x0 ≤ 61) (h4 : 61 - x0 < ((x2 + 1 : Nat) : Int)) (h5 : x0 ≤ x1) (h6 : -2147483648 ≤ x0) (h7 : x0 ≤ 2147483647) (h8 : -2147483648 ≤ x1) (h9 : x1 ≤ 2147483647) : -2147483648 ≤ x0 + 1 := by omega
theorem o36_4 {x0 x1 : Int} {x2 : Nat} (h0 : 0 ≤ x1) (h1 : x1 ≤ 60) (h2 : 0 ≤ x0) (h3 : x0 ≤ 61) (h4 : 61 - x0 < ((x2 + 1 : Nat) : Int)) (h5 : x0 ≤ x1) (h6 : -2147483648 ≤ x0) (h7 : x0 ≤ 2147483647) (h8 : -2147483648 ≤ x1) (h9 : x1 ≤ 2147483647) : x0 + 1 ≤ 2147483647 := by omega
theorem o36_5 {x0 x2 x3 : Int} {x1 : Nat} (h0 : 0 ≤ x2) (h1 : x2 ≤ 60) (h2 : 0 ≤ x3) (h3 : x3 ≤ 61) (h4 : 61 - x3 < ((x1 + 1 : Nat) : Int)) (h5 : x3 ≤ x2) (h6 : x0 = x3 + 1) : 61 - x0 < (x1 : Int) := by omega
theorem o36_6 {x0 x1 x2 : Int} {x3 : Nat} (h0 : 0 ≤ x1) (h1 : x1 ≤ 60) (h2 : 0 ≤ x2) (h3 : x2 ≤ 61) (h4 : 61 - x2 < ((x3 + 1 : Nat) : Int)) (h5 : x2 ≤ x1) (h6 : x0 = x2 + 1) : 0 ≤ x0 := by omega
theorem o36_7 {x0 x1 x2 : Int} {x3 : Nat} (h0 : 0 ≤ x1) (h1 : x1 ≤ 60) (h2 : 0 ≤ x2) (h3 : x2 ≤ 61) (h4 : 61 - x2 < ((x3 + 1 : Nat) : Int)) (h5 : x2 ≤ x1) (h6 : x0 = x2 + 1) : x0 ≤ 61 := by omega
theorem o36_8 {x0 : Int} (h0 : x0 = 25) : x0 = 25 := by omega
theorem o36_9 {x0 x1 : Int} {x2 : Nat} (h0 : 0 ≤ x1) (h1 : x1 ≤ 60) (h2 : 0 ≤ x0) (h3 : x0 ≤ 61) (h4 : 61 - x0 < ((x2 + 1 : Nat) : Int)) (h5 : x0 ≤ x1) (h6 : -2147483648 ≤ x0) (h7 : x0 ≤ 2147483647) (h8 : -2147483648 ≤ x1) (h9 : x1 ≤ 2147483647) : -2147483648 ≤ 25 * x0 := by omega
theorem o36_10 {x0 x1 : Int} {x2 : Nat} (h0 : 0 ≤ x1) (h1 : x1 ≤ 60) (h2 : 0 ≤ x0) (h3 : x0 ≤ 61) (h4 : 61 - x0 < ((x2 + 1 : Nat) : Int)) (h5 : x0 ≤ x1) (h6 : -2147483648 ≤ x0) (h7 : x0 ≤ 2147483647) (h8 : -2147483648 ≤ x1) (h9 : x1 ≤ 2147483647) : 25 * x0 ≤ 2147483647 := by omega
theorem o36_11 {x0 x1 x2 x3 x6 : Int} {x4 x5 : Nat} (h0 : 0 ≤ x2) (h1 : x2 ≤ 60) (h2 : 0 ≤ x3) (h3 : x3 ≤ 61) (h4 : 61 - x3 < ((x4 + 1 : Nat) : Int)) (h5 : x3 ≤ x2) (h6 : 0 ≤ x1) (h7 : x1 ≤ 25) (h8 : 25 - x1 < ((x5 + 1 : Nat) : Int)) (h9 : 0 ≤ x6) (h10 : x6 ≤ 25) (h11 : x1 < x6) (h12 : x0 = 25 * x3) (h13 : -2147483648 ≤ x0) (h14 : x0 ≤ 2147483647) (h15 : -2147483648 ≤ x1) (h16 : x1 ≤ 2147483647) (h17 : -2147483648 ≤ x2) (h18 : x2 ≤ 2147483647) (h19 : -2147483648 ≤ x3) (h20 : x3 ≤ 2147483647) (h21 : -2147483648 ≤ x6) (h22 : x6 ≤ 2147483647) : -2147483648 ≤ x0 + x1 := by omega
theorem o36_12 {x0 x1 x2 x3 x6 : Int} {x4 x5 : Nat} (h0 : 0 ≤ x2) (h1 : x2 ≤ 60) (h2 : 0 ≤ x3) (h3 : x3 ≤ 61) (h4 : 61 - x3 < ((x4 + 1 : Nat) : Int)) (h5 : x3 ≤ x2) (h6 : 0 ≤ x1) (h7 : x1 ≤ 25) (h8 : 25 - x1 < ((x5 + 1 : Nat) : Int)) (h9 : 0 ≤ x6) (h10 : x6 ≤ 25) (h11 : x1 < x6) (h12 : x0 = 25 * x3) (h13 : -2147483648 ≤ x0) (h14 : x0 ≤ 2147483647) (h15 : -2147483648 ≤ x1) (h16 : x1 ≤ 2147483647) (h17 : -2147483648 ≤ x2) (h18 : x2 ≤ 2147483647) (h19 : -2147483648 ≤ x3) (h20 : x3 ≤ 2147483647) (h21 : -2147483648 ≤ x6) (h22 : x6 ≤ 2147483647) : x0 + x1 ≤ 2147483647 := by omega
theorem o36_13 {x0 x1 x2 x5 x6 x7 : Int} {x3 x4 : Nat} (h0 : 0 ≤ x1) (h1 : x1 ≤ 60) (h2 : 0 ≤ x2) (h3 : x2 ≤ 61) (h4 : 61 - x2 < ((x3 + 1 : Nat) : Int)) (h5 : x2 ≤ x1) (h6 : 0 ≤ x0) (h7 : x0 ≤ 25) (h8 : 25 - x0 < ((x4 + 1 : Nat) : Int)) (h9 : 0 ≤ x5) (h10 : x5 ≤ 25) (h11 : x0 < x5) (h12 : x6 = 25 * x2) (h13 : x7 = x6 + x0) : 0 ≤ x0 := by omega
theorem o36_14 {x0 x1 x2 x5 x6 x7 : Int} {x3 x4 : Nat} (h0 : 0 ≤ x1) (h1 : x1 ≤ 60) (h2 : 0 ≤ x2) (h3 : x2 ≤ 61) (h4 : 61 - x2 < ((x3 + 1 : Nat) : Int)) (h5 : x2 ≤ x1) (h6 : 0 ≤ x0) (h7 : x0 ≤ 25) (h8 : 25 - x0 < ((x4 + 1 : Nat) : Int)) (h9 : 0 ≤ x5) (h10 : x5 ≤ 25) (h11 : x0 < x5) (h12 : x6 = 25 * x2) (h13 : x7 = x6 + x0) : x0 ≤ 24 := by omega
theorem o36_15 {x0 x1 x2 x4 x6 x7 : Int} {x3 x5 : Nat} (h0 : 0 ≤ x1) (h1 : x1 ≤ 60) (h2 : 0 ≤ x2) (h3 : x2 ≤ 61) (h4 : 61 - x2 < ((x3 + 1 : Nat) : Int)) (h5 : x2 ≤ x1) (h6 : 0 ≤ x4) (h7 : x4 ≤ 25) (h8 : 25 - x4 < ((x5 + 1 : Nat) : Int)) (h9 : 0 ≤ x6) (h10 : x6 ≤ 25) (h11 : x4 < x6) (h12 : x7 = 25 * x2) (h13 : x0 = x7 + x4) : 0 ≤ x0 := by omega
theorem o36_16 {x0 x1 x2 x4 x6 x7 : Int} {x3 x5 : Nat} (h0 : 0 ≤ x1) (h1 : x1 ≤ 60) (h2 : 0 ≤ x2) (h3 : x2 ≤ 61) (h4 : 61 - x2 < ((x3 + 1 : Nat) : Int)) (h5 : x2 ≤ x1) (h6 : 0 ≤ x4) (h7 : x4 ≤ 25) (h8 : 25 - x4 < ((x5 + 1 : Nat) : Int)) (h9 : 0 ≤ x6) (h10 : x6 ≤ 25) (h11 : x4 < x6) (h12 : x7 = 25 * x2) (h13 : x0 = x7 + x4) : x0 < (1525 : Nat) := by omega
theorem o36_17 {x0 : Int} (h0 : 0 ≤ x0) (h1 : x0 ≤ 1) : 0 ≤ x0 := by omega
theorem o36_18 {x0 : Int} (h0 : 0 ≤ x0) (h1 : x0 ≤ 1) : x0 ≤ 1 := by omega
theorem o36_19 {x0 : Int} (h0 : 0 ≤ x0) (h1 : x0 ≤ 4) (h2 : 4 - x0 < 0) : False := by omega
theorem o36_20 {x0 : Int} (h0 : x0 = 4) : x0 = 4 := by omega
theorem o36_21 {x0 x2 : Int} {x1 : Nat} (h0 : 0 ≤ x0) (h1 : x0 ≤ 4) (h2 : 4 - x0 < ((x1 + 1 : Nat) : Int)) (h3 : x2 = 4) (h4 : x2 ≤ x0) : ¬ x0 < 4 := by omega
theorem o36_22 {x0 x2 : Int} {x1 : Nat} (h0 : 0 ≤ x0) (h1 : x0 ≤ 4) (h2 : 4 - x0 < ((x1 + 1 : Nat) : Int)) (h3 : x2 = 4) (h4 : x0 < x2) : x0 < 4 := by omega
theorem o36_23 {x0 x1 x2 x5 x6 x7 : Int} {x3 x4 : Nat} (h0 : 0 ≤ x1) (h1 : x1 ≤ 60) (h2 : 0 ≤ x2) (h3 : x2 ≤ 61) (h4 : 61 - x2 < ((x3 + 1 : Nat) : Int)) (h5 : x2 ≤ x1) (h6 : 0 ≤ x0) (h7 : x0 ≤ 25) (h8 : 25 - x0 < ((x4 + 1 : Nat) : Int)) (h9 : 0 ≤ x5) (h10 : x5 ≤ 25) (h11 : x0 < x5) (h12 : x6 = 25 * x2) (h13 : x7 = x6 + x0) (h14 : -2147483648 ≤ x0) (h15 : x0 ≤ 2147483647) (h16 : -2147483648 ≤ x1) (h17 : x1 ≤ 2147483647) (h18 : -2147483648 ≤ x2) (h19 : x2 ≤ 2147483647) (h20 : -2147483648 ≤ x5) (h21 : x5 ≤ 2147483647) (h22 : -2147483648 ≤ x6) (h23 : x6 ≤ 2147483647) (h24 : -2147483648 ≤ x7) (h25 : x7 ≤ 2147483647) : -2147483648 ≤ x0 + 1 := by omega
theorem o36_24 {x0 x1 x2 x5 x6 x7 : Int} {x3 x4 : Nat} (h0 : 0 ≤ x1) (h1 : x1 ≤ 60) (h2 : 0 ≤ x2) (h3 : x2 ≤ 61) (h4 : 61 - x2 < ((x3 + 1 : Nat) : Int)) (h5 : x2 ≤ x1) (h6 : 0 ≤ x0) (h7 : x0 ≤ 25) (h8 : 25 - x0 < ((x4 + 1 : Nat) : Int)) (h9 : 0 ≤ x5) (h10 : x5 ≤ 25) (h11 : x0 < x5) (h12 : x6 = 25 * x2) (h13 : x7 = x6 + x0) (h14 : -2147483648 ≤ x0) (h15 : x0 ≤ 2147483647) (h16 : -2147483648 ≤ x1) (h17 : x1 ≤ 2147483647) (h18 : -2147483648 ≤ x2) (h19 : x2 ≤ 2147483647) (h20 : -2147483648 ≤ x5) (h21 : x5 ≤ 2147483647) (h22 : -2147483648 ≤ x6) (h23 : x6 ≤ 2147483647) (h24 : -2147483648 ≤ x7) (h25 : x7 ≤ 2147483647) : x0 + 1 ≤ 2147483647 := by omega
theorem o36_25 {x0 x2 x3 x5 x6 x7 x8 : Int} {x1 x4 : Nat} (h0 : 0 ≤ x2) (h1 : x2 ≤ 60) (h2 : 0 ≤ x3) (h3 : x3 ≤ 61) (h4 : 61 - x3 < ((x4 + 1 : Nat) : Int)) (h5 : x3 ≤ x2) (h6 : 0 ≤ x5) (h7 : x5 ≤ 25) (h8 : 25 - x5 < ((x1 + 1 : Nat) : Int)) (h9 : 0 ≤ x6) (h10 : x6 ≤ 25) (h11 : x5 < x6) (h12 : x7 = 25 * x3) (h13 : x8 = x7 + x5) (h14 : x0 = x5 + 1) : 25 - x0 < (x1 : Int) := by omega
theorem o36_26 {x0 x1 x2 x4 x6 x7 x8 : Int} {x3 x5 : Nat} (h0 : 0 ≤ x1) (h1 : x1 ≤ 60) (h2 : 0 ≤ x2) (h3 : x2 ≤ 61) (h4 : 61 - x2 < ((x3 + 1 : Nat) : Int)) (h5 : x2 ≤ x1) (h6 : 0 ≤ x4) (h7 : x4 ≤ 25) (h8 : 25 - x4 < ((x5 + 1 : Nat) : Int)) (h9 : 0 ≤ x6) (h10 : x6 ≤ 25) (h11 : x4 < x6) (h12 : x7 = 25 * x2) (h13 : x8 = x7 + x4) (h14 : x0 = x4 + 1) : 0 ≤ x0 := by omega
theorem o36_27 {x0 x1 x2 x4 x6 x7 x8 : Int} {x3 x5 : Nat} (h0 : 0 ≤ x1) (h1 : x1 ≤ 60) (h2 : 0 ≤ x2) (h3 : x2 ≤ 61) (h4 : 61 - x2 < ((x3 + 1 : Nat) : Int)) (h5 : x2 ≤ x1) (h6 : 0 ≤ x4) (h7 : x4 ≤ 25) (h8 : 25 - x4 < ((x5 + 1 : Nat) : Int)) (h9 : 0 ≤ x6) (h10 : x6 ≤ 25) (h11 : x4 < x6) (h12 : x7 = 25 * x2) (h13 : x8 = x7 + x4) (h14 : x0 = x4 + 1) : x0 ≤ 25 := by omega
theorem o36_28 {x0 : Int} (h0 : x0 = 100) : x0 = 100 := by omega
theorem o36_29 {x0 x1 x3 x5 x6 x7 : Int} {x2 x4 : Nat} (h0 : 0 ≤ x1) (h1 : x1 ≤ 60) (h2 : 0 ≤ x0) (h3 : x0 ≤ 61) (h4 : 61 - x0 < ((x2 + 1 : Nat) : Int)) (h5 : x0 ≤ x1) (h6 : 0 ≤ x3) (h7 : x3 ≤ 25) (h8 : 25 - x3 < ((x4 + 1 : Nat) : Int)) (h9 : 0 ≤ x5) (h10 : x5 ≤ 25) (h11 : x3 < x5) (h12 : x6 = 25 * x0) (h13 : x7 = x6 + x3) (h14 : -2147483648 ≤ x0) (h15 : x0 ≤ 2147483647) (h16 : -2147483648 ≤ x1) (h17 : x1 ≤ 2147483647) (h18 : -2147483648 ≤ x3) (h19 : x3 ≤ 2147483647) (h20 : -2147483648 ≤ x5) (h21 : x5 ≤ 2147483647) (h22 : -2147483648 ≤ x6) (h23 : x6 ≤ 2147483647) (h24 : -2147483648 ≤ x7) (h25 : x7 ≤ 2147483647) : -2147483648 ≤ 100 * x0 := by omega
theorem o36_30 {x0 x1 x3 x5 x6 x7 : Int} {x2 x4 : Nat} (h0 : 0 ≤ x1) (h1 : x1 ≤ 60) (h2 : 0 ≤ x0) (h3 : x0 ≤ 61) (h4 : 61 - x0 < ((x2 + 1 : Nat) : Int)) (h5 : x0 ≤ x1) (h6 : 0 ≤ x3) (h7 : x3 ≤ 25) (h8 : 25 - x3 < ((x4 + 1 : Nat) : Int)) (h9 : 0 ≤ x5) (h10 : x5 ≤ 25) (h11 : x3 < x5) (h12 : x6 = 25 * x0) (h13 : x7 = x6 + x3) (h14 : -2147483648 ≤ x0) (h15 : x0 ≤ 2147483647) (h16 : -2147483648 ≤ x1) (h17 : x1 ≤ 2147483647) (h18 : -2147483648 ≤ x3) (h19 : x3 ≤ 2147483647) (h20 : -2147483648 ≤ x5) (h21 : x5 ≤ 2147483647) (h22 : -2147483648 ≤ x6) (h23 : x6 ≤ 2147483647) (h24 : -2147483648 ≤ x7) (h25 : x7 ≤ 2147483647) : 100 * x0 ≤ 2147483647 := by omega
theorem o36_31 {x0 x1 x2 x5 x6 x7 x8 : Int} {x3 x4 : Nat} (h0 : 0 ≤ x1) (h1 : x1 ≤ 60) (h2 : 0 ≤ x2) (h3 : x2 ≤ 61) (h4 : 61 - x2 < ((x3 + 1 : Nat) : Int)) (h5 : x2 ≤ x1) (h6 : 0 ≤ x0) (h7 : x0 ≤ 25) (h8 : 25 - x0 < ((x4 + 1 : Nat) : Int)) (h9 : 0 ≤ x5) (h10 : x5 ≤ 25) (h11 : x0 < x5) (h12 : x6 = 25 * x2) (h13 : x7 = x6 + x0) (h14 : x8 = 100 * x2) (h15 : -2147483648 ≤ x0) (h16 : x0 ≤ 2147483647) (h17 : -2147483648 ≤ x1) (h18 : x1 ≤ 2147483647) (h19 : -2147483648 ≤ x2) (h20 : x2 ≤ 2147483647) (h21 : -2147483648 ≤ x5) (h22 : x5 ≤ 2147483647) (h23 : -2147483648 ≤ x6) (h24 : x6 ≤ 2147483647) (h25 : -2147483648 ≤ x7) (h26 : x7 ≤ 2147483647) (h27 : -2147483648 ≤ x8) (h28 : x8 ≤ 2147483647) : -2147483648 ≤ 4 * x0 := by omega
theorem o36_32 {x0 x1 x2 x5 x6 x7 x8 : Int} {x3 x4 : Nat} (h0 : 0 ≤ x1) (h1 : x1 ≤ 60) (h2 : 0 ≤ x2) (h3 : x2 ≤ 61) (h4 : 61 - x2 < ((x3 + 1 : Nat) : Int)) (h5 : x2 ≤ x1) (h6 : 0 ≤ x0) (h7 : x0 ≤ 25) (h8 : 25 - x0 < ((x4 + 1 : Nat) : Int)) (h9 : 0 ≤ x5) (h10 : x5 ≤ 25) (h11 : x0 < x5) (h12 : x6 = 25 * x2) (h13 : x7 = x6 + x0) (h14 : x8 = 100 * x2) (h15 : -2147483648 ≤ x0) (h16 : x0 ≤ 2147483647) (h17 : -2147483648 ≤ x1) (h18 : x1 ≤ 2147483647) (h19 : -2147483648 ≤ x2) (h20 : x2 ≤ 2147483647) (h21 : -2147483648 ≤ x5) (h22 : x5 ≤ 2147483647) (h23 : -2147483648 ≤ x6) (h24 : x6 ≤ 2147483647) (h25 : -2147483648 ≤ x7) (h26 : x7 ≤ 2147483647) (h27 : -2147483648 ≤ x8) (h28 : x8 ≤ 2147483647) : 4 * x0 ≤ 2147483647 := by omega
theorem o36_33 {x0 x1 x2 x3 x5 x7 x8 x9 : Int} {x4 x6 : Nat} (h0 : 0 ≤ x2) (h1 : x2 ≤ 60) (h2 : 0 ≤ x3) (h3 : x3 ≤ 61) (h4 : 61 - x3 < ((x4 + 1 : Nat) : Int)) (h5 : x3 ≤ x2) (h6 : 0 ≤ x5) (h7 : x5 ≤ 25) (h8 : 25 - x5 < ((x6 + 1 : Nat) : Int)) (h9 : 0 ≤ x7) (h10 : x7 ≤ 25) (h11 : x5 < x7) (h12 : x8 = 25 * x3) (h13 : x9 = x8 + x5) (h14 : x0 = 100 * x3) (h15 : x1 = 4 * x5) (h16 : -2147483648 ≤ x0) (h17 : x0 ≤ 2147483647) (h18 : -2147483648 ≤ x1) (h19 : x1 ≤ 2147483647) (h20 : -2147483648 ≤ x2) (h21 : x2 ≤ 2147483647) (h22 : -2147483648 ≤ x3) (h23 : x3 ≤ 2147483647) (h24 : -2147483648 ≤ x5) (h25 : x5 ≤ 2147483647) (h26 : -2147483648 ≤ x7) (h27 : x7 ≤ 2147483647) (h28 : -2147483648 ≤ x8) (h29 : x8 ≤ 2147483647) (h30 : -2147483648 ≤ x9) (h31 : x9 ≤ 2147483647) : -2147483648 ≤ x0 + x1 := by omega
theorem o36_34 {x0 x1 x2 x3 x5 x7 x8 x9 : Int} {x4 x6 : Nat} (h0 : 0 ≤ x2) (h1 : x2 ≤ 60) (h2 : 0 ≤ x3) (h3 : x3 ≤ 61) (h4 : 61 - x3 < ((x4 + 1 : Nat) : Int)) (h5 : x3 ≤ x2) (h6 : 0 ≤ x5) (h7 : x5 ≤ 25) (h8 : 25 - x5 < ((x6 + 1 : Nat) : Int)) (h9 : 0 ≤ x7) (h10 : x7 ≤ 25) (h11 : x5 < x7) (h12 : x8 = 25 * x3) (h13 : x9 = x8 + x5) (h14 : x0 = 100 * x3) (h15 : x1 = 4 * x5) (h16 : -2147483648 ≤ x0) (h17 : x0 ≤ 2147483647) (h18 : -2147483648 ≤ x1) (h19 : x1 ≤ 2147483647) (h20 : -2147483648 ≤ x2) (h21 : x2 ≤ 2147483647) (h22 : -2147483648 ≤ x3) (h23 : x3 ≤ 2147483647) (h24 : -2147483648 ≤ x5) (h25 : x5 ≤ 2147483647) (h26 : -2147483648 ≤ x7) (h27 : x7 ≤ 2147483647) (h28 : -2147483648 ≤ x8) (h29 : x8 ≤ 2147483647) (h30 : -2147483648 ≤ x9) (h31 : x9 ≤ 2147483647) : x0 + x1 ≤ 2147483647 := by omega
theorem o36_35 {x0 x1 x2 x3 x5 x7 x8 x9 x11 x12 x13 : Int} {x4 x6 x10 : Nat} (h0 : 0 ≤ x2) (h1 : x2 ≤ 60) (h2 : 0 ≤ x3) (h3 : x3 ≤ 61) (h4 : 61 - x3 < ((x4 + 1 : Nat) : Int)) (h5 : x3 ≤ x2) (h6 : 0 ≤ x5) (h7 : x5 ≤ 25) (h8 : 25 - x5 < ((x6 + 1 : Nat) : Int)) (h9 : 0 ≤ x7) (h10 : x7 ≤ 25) (h11 : x5 < x7) (h12 : x8 = 25 * x3) (h13 : x9 = x8 + x5) (h14 : 0 ≤ x1) (h15 : x1 ≤ 4) (h16 : 4 - x1 < ((x10 + 1 : Nat) : Int)) (h17 : x11 = 4) (h18 : x1 < x11) (h19 : x12 = 100 * x3) (h20 : x13 = 4 * x5) (h21 : x0 = x12 + x13) (h22 : -2147483648 ≤ x0) (h23 : x0 ≤ 2147483647) (h24 : -2147483648 ≤ x1) (h25 : x1 ≤ 2147483647) (h26 : -2147483648 ≤ x2) (h27 : x2 ≤ 2147483647) (h28 : -2147483648 ≤ x3) (h29 : x3 ≤ 2147483647) (h30 : -2147483648 ≤ x5) (h31 : x5 ≤ 2147483647) (h32 : -2147483648 ≤ x7) (h33 : x7 ≤ 2147483647) (h34 : -2147483648 ≤ x8) (h35 : x8 ≤ 2147483647) (h36 : -2147483648 ≤ x9) (h37 : x9 ≤ 2147483647) (h38 : -2147483648 ≤ x11) (h39 : x11 ≤ 2147483647) (h40 : -2147483648 ≤ x12) (h41 : x12 ≤ 2147483647) (h42 : -2147483648 ≤ x13) (h43 : x13 ≤ 2147483647) : -2147483648 ≤ x0 + x1 := by omega
theorem o36_36 {x0 x1 x2 x3 x5 x7 x8 x9 x11 x12 x13 : Int} {x4 x6 x10 : Nat} (h0 : 0 ≤ x2) (h1 : x2 ≤ 60) (h2 : 0 ≤ x3) (h3 : x3 ≤ 61) (h4 : 61 - x3 < ((x4 + 1 : Nat) : Int)) (h5 : x3 ≤ x2) (h6 : 0 ≤ x5) (h7 : x5 ≤ 25) (h8 : 25 - x5 < ((x6 + 1 : Nat) : Int)) (h9 : 0 ≤ x7) (h10 : x7 ≤ 25) (h11 : x5 < x7) (h12 : x8 = 25 * x3) (h13 : x9 = x8 + x5) (h14 : 0 ≤ x1) (h15 : x1 ≤ 4) (h16 : 4 - x1 < ((x10 + 1 : Nat) : Int)) (h17 : x11 = 4) (h18 : x1 < x11) (h19 : x12 = 100 * x3) (h20 : x13 = 4 * x5) (h21 : x0 = x12 + x13) (h22 : -2147483648 ≤ x0) (h23 : x0 ≤ 2147483647) (h24 : -2147483648 ≤ x1) (h25 : x1 ≤ 2147483647) (h26 : -2147483648 ≤ x2) (h27 : x2 ≤ 2147483647) (h28 : -2147483648 ≤ x3) (h29 : x3 ≤ 2147483647) (h30 : -2147483648 ≤ x5) (h31 : x5 ≤ 2147483647) (h32 : -2147483648 ≤ x7) (h33 : x7 ≤ 2147483647) (h34 : -2147483648 ≤ x8) (h35 : x8 ≤ 2147483647) (h36 : -2147483648 ≤ x9) (h37 : x9 ≤ 2147483647) (h38 : -2147483648 ≤ x11) (h39 : x11 ≤ 2147483647) (h40 : -2147483648 ≤ x12) (h41 : x12 ≤ 2147483647) (h42 : -2147483648 ≤ x13) (h43 : x13 ≤ 2147483647) : x0 + x1 ≤ 2147483647 := by omega
theorem o36_37 {x0 x1 x2 x5 x6 x7 x8 x10 x11 x12 x13 x14 : Int} {x3 x4 x9 : Nat} (h0 : 0 ≤ x1) (h1 : x1 ≤ 60) (h2 : 0 ≤ x2) (h3 : x2 ≤ 61) (h4 : 61 - x2 < ((x3 + 1 : Nat) : Int)) (h5 : x2 ≤ x1) (h6 : 0 ≤ x0) (h7 : x0 ≤ 25) (h8 : 25 - x0 < ((x4 + 1 : Nat) : Int)) (h9 : 0 ≤ x5) (h10 : x5 ≤ 25) (h11 : x0 < x5) (h12 : x6 = 25 * x2) (h13 : x7 = x6 + x0) (h14 : 0 ≤ x8) (h15 : x8 ≤ 4) (h16 : 4 - x8 < ((x9 + 1 : Nat) : Int)) (h17 : x10 = 4) (h18 : x8 < x10) (h19 : x11 = 100 * x2) (h20 : x12 = 4 * x0) (h21 : x13 = x11 + x12) (h22 : x14 = x13 + x8) : 0 ≤ x0 := by omega
theorem o36_38 {x0 x1 x2 x5 x6 x7 x8 x10 x11 x12 x13 x14 : Int} {x3 x4 x9 : Nat} (h0 : 0 ≤ x1) (h1 : x1 ≤ 60) (h2 : 0 ≤ x2) (h3 : x2 ≤ 61) (h4 : 61 - x2 < ((x3 + 1 : Nat) : Int)) (h5 : x2 ≤ x1) (h6 : 0 ≤ x0) (h7 : x0 ≤ 25) (h8 : 25 - x0 < ((x4 + 1 : Nat) : Int)) (h9 : 0 ≤ x5) (h10 : x5 ≤ 25) (h11 : x0 < x5) (h12 : x6 = 25 * x2) (h13 : x7 = x6 + x0) (h14 : 0 ≤ x8) (h15 : x8 ≤ 4) (h16 : 4 - x8 < ((x9 + 1 : Nat) : Int)) (h17 : x10 = 4) (h18 : x8 < x10) (h19 : x11 = 100 * x2) (h20 : x12 = 4 * x0) (h21 : x13 = x11 + x12) (h22 : x14 = x13 + x8) : x0 ≤ 24 := by omega
theorem o36_39 {x0 x1 x2 x4 x6 x7 x8 x10 x11 x12 x13 x14 : Int} {x3 x5 x9 : Nat} (h0 : 0 ≤ x1) (h1 : x1 ≤ 60) (h2 : 0 ≤ x2) (h3 : x2 ≤ 61) (h4 : 61 - x2 < ((x3 + 1 : Nat) : Int)) (h5 : x2 ≤ x1) (h6 : 0 ≤ x4) (h7 : x4 ≤ 25) (h8 : 25 - x4 < ((x5 + 1 : Nat) : Int)) (h9 : 0 ≤ x6) (h10 : x6 ≤ 25) (h11 : x4 < x6) (h12 : x7 = 25 * x2) (h13 : x8 = x7 + x4) (h14 : 0 ≤ x0) (h15 : x0 ≤ 4) (h16 : 4 - x0 < ((x9 + 1 : Nat) : Int)) (h17 : x10 = 4) (h18 : x0 < x10) (h19 : x11 = 100 * x2) (h20 : x12 = 4 * x4) (h21 : x13 = x11 + x12) (h22 : x14 = x13 + x0) : 0 ≤ x0 := by omega
theorem o36_40 {x0 x1 x2 x4 x6 x7 x8 x10 x11 x12 x13 x14 : Int} {x3 x5 x9 : Nat} (h0 : 0 ≤ x1) (h1 : x1 ≤ 60) (h2 : 0 ≤ x2) (h3 : x2 ≤ 61) (h4 : 61 - x2 < ((x3 + 1 : Nat) : Int)) (h5 : x2 ≤ x1) (h6 : 0 ≤ x4) (h7 : x4 ≤ 25) (h8 : 25 - x4 < ((x5 + 1 : Nat) : Int)) (h9 : 0 ≤ x6) (h10 : x6 ≤ 25) (h11 : x4 < x6) (h12 : x7 = 25 * x2) (h13 : x8 = x7 + x4) (h14 : 0 ≤ x0) (h15 : x0 ≤ 4) (h16 : 4 - x0 < ((x9 + 1 : Nat) : Int)) (h17 : x10 = 4) (h18 : x0 < x10) (h19 : x11 = 100 * x2) (h20 : x12 = 4 * x4) (h21 : x13 = x11 + x12) (h22 : x14 = x13 + x0) : x0 ≤ 3 := by omega
theorem o36_41 {x0 x1 x2 x4 x6 x7 x8 x9 x11 x12 x13 x14 : Int} {x3 x5 x10 : Nat} (h0 : 0 ≤ x1) (h1 : x1 ≤ 60) (h2 : 0 ≤ x2) (h3 : x2 ≤ 61) (h4 : 61 - x2 < ((x3 + 1 : Nat) : Int)) (h5 : x2 ≤ x1) (h6 : 0 ≤ x4) (h7 : x4 ≤ 25) (h8 : 25 - x4 < ((x5 + 1 : Nat) : Int)) (h9 : 0 ≤ x6) (h10 : x6 ≤ 25) (h11 : x4 < x6) (h12 : x7 = 25 * x2) (h13 : x8 = x7 + x4) (h14 : 0 ≤ x9) (h15 : x9 ≤ 4) (h16 : 4 - x9 < ((x10 + 1 : Nat) : Int)) (h17 : x11 = 4) (h18 : x9 < x11) (h19 : x12 = 100 * x2) (h20 : x13 = 4 * x4) (h21 : x14 = x12 + x13) (h22 : x0 = x14 + x9) : 0 ≤ x0 := by omega
theorem o36_42 {x0 x1 x2 x4 x6 x7 x8 x9 x11 x12 x13 x14 : Int} {x3 x5 x10 : Nat} (h0 : 0 ≤ x1) (h1 : x1 ≤ 60) (h2 : 0 ≤ x2) (h3 : x2 ≤ 61) (h4 : 61 - x2 < ((x3 + 1 : Nat) : Int)) (h5 : x2 ≤ x1) (h6 : 0 ≤ x4) (h7 : x4 ≤ 25) (h8 : 25 - x4 < ((x5 + 1 : Nat) : Int)) (h9 : 0 ≤ x6) (h10 : x6 ≤ 25) (h11 : x4 < x6) (h12 : x7 = 25 * x2) (h13 : x8 = x7 + x4) (h14 : 0 ≤ x9) (h15 : x9 ≤ 4) (h16 : 4 - x9 < ((x10 + 1 : Nat) : Int)) (h17 : x11 = 4) (h18 : x9 < x11) (h19 : x12 = 100 * x2) (h20 : x13 = 4 * x4) (h21 : x14 = x12 + x13) (h22 : x0 = x14 + x9) : x0 < (6100 : Nat) := by omega
theorem o36_43 {x0 x1 x3 x5 x6 x7 x8 x10 x11 x12 x13 x14 : Int} {x2 x4 x9 : Nat} (h0 : 0 ≤ x1) (h1 : x1 ≤ 60) (h2 : 0 ≤ x0) (h3 : x0 ≤ 61) (h4 : 61 - x0 < ((x2 + 1 : Nat) : Int)) (h5 : x0 ≤ x1) (h6 : 0 ≤ x3) (h7 : x3 ≤ 25) (h8 : 25 - x3 < ((x4 + 1 : Nat) : Int)) (h9 : 0 ≤ x5) (h10 : x5 ≤ 25) (h11 : x3 < x5) (h12 : x6 = 25 * x0) (h13 : x7 = x6 + x3) (h14 : 0 ≤ x8) (h15 : x8 ≤ 4) (h16 : 4 - x8 < ((x9 + 1 : Nat) : Int)) (h17 : x10 = 4) (h18 : x8 < x10) (h19 : x11 = 100 * x0) (h20 : x12 = 4 * x3) (h21 : x13 = x11 + x12) (h22 : x14 = x13 + x8) (h23 : -2147483648 ≤ x0) (h24 : x0 ≤ 2147483647) (h25 : -2147483648 ≤ x1) (h26 : x1 ≤ 2147483647) (h27 : -2147483648 ≤ x3) (h28 : x3 ≤ 2147483647) (h29 : -2147483648 ≤ x5) (h30 : x5 ≤ 2147483647) (h31 : -2147483648 ≤ x6) (h32 : x6 ≤ 2147483647) (h33 : -2147483648 ≤ x7) (h34 : x7 ≤ 2147483647) (h35 : -2147483648 ≤ x8) (h36 : x8 ≤ 2147483647) (h37 : -2147483648 ≤ x10) (h38 : x10 ≤ 2147483647) (h39 : -2147483648 ≤ x11) (h40 : x11 ≤ 2147483647) (h41 : -2147483648 ≤ x12) (h42 : x12 ≤ 2147483647) (h43 : -2147483648 ≤ x13) (h44 : x13 ≤ 2147483647) (h45 : -2147483648 ≤ x14) (h46 : x14 ≤ 2147483647) : -2147483648 ≤ 100 * x0 := by omega
theorem o36_44 {x0 x1 x3 x5 x6 x7 x8 x10 x11 x12 x13 x14 : Int} {x2 x4 x9 : Nat} (h0 : 0 ≤ x1) (h1 : x1 ≤ 60) (h2 : 0 ≤ x0) (h3 : x0 ≤ 61) (h4 : 61 - x0 < ((x2 + 1 : Nat) : Int)) (h5 : x0 ≤ x1) (h6 : 0 ≤ x3) (h7 : x3 ≤ 25) (h8 : 25 - x3 < ((x4 + 1 : Nat) : Int)) (h9 : 0 ≤ x5) (h10 : x5 ≤ 25) (h11 : x3 < x5) (h12 : x6 = 25 * x0) (h13 : x7 = x6 + x3) (h14 : 0 ≤ x8) (h15 : x8 ≤ 4) (h16 : 4 - x8 < ((x9 + 1 : Nat) : Int)) (h17 : x10 = 4) (h18 : x8 < x10) (h19 : x11 = 100 * x0) (h20 : x12 = 4 * x3) (h21 : x13 = x11 + x12) (h22 : x14 = x13 + x8) (h23 : -2147483648 ≤ x0) (h24 : x0 ≤ 2147483647) (h25 : -2147483648 ≤ x1) (h26 : x1 ≤ 2147483647) (h27 : -2147483648 ≤ x3) (h28 : x3 ≤ 2147483647) (h29 : -2147483648 ≤ x5) (h30 : x5 ≤ 2147483647) (h31 : -2147483648 ≤ x6) (h32 : x6 ≤ 2147483647) (h33 : -2147483648 ≤ x7) (h34 : x7 ≤ 2147483647) (h35 : -2147483648 ≤ x8) (h36 : x8 ≤ 2147483647) (h37 : -2147483648 ≤ x10) (h38 : x10 ≤ 2147483647) (h39 : -2147483648 ≤ x11) (h40 : x11 ≤ 2147483647) (h41 : -2147483648 ≤ x12) (h42 : x12 ≤ 2147483647) (h43 : -2147483648 ≤ x13) (h44 : x13 ≤ 2147483647) (h45 : -2147483648 ≤ x14) (h46 : x14 ≤ 2147483647) : 100 * x0 ≤ 2147483647 := by omega
theorem o36_45 {x0 x1 x2 x5 x6 x7 x8 x10 x11 x12 x13 x14 x15 : Int} {x3 x4 x9 : Nat} (h0 : 0 ≤ x1) (h1 : x1 ≤ 60) (h2 : 0 ≤ x2) (h3 : x2 ≤ 61) (h4 : 61 - x2 < ((x3 + 1 : Nat) : Int)) (h5 : x2 ≤ x1) (h6 : 0 ≤ x0) (h7 : x0 ≤ 25) (h8 : 25 - x0 < ((x4 + 1 : Nat) : Int)) (h9 : 0 ≤ x5) (h10 : x5 ≤ 25) (h11 : x0 < x5) (h12 : x6 = 25 * x2) (h13 : x7 = x6 + x0) (h14 : 0 ≤ x8) (h15 : x8 ≤ 4) (h16 : 4 - x8 < ((x9 + 1 : Nat) : Int)) (h17 : x10 = 4) (h18 : x8 < x10) (h19 : x11 = 100 * x2) (h20 : x12 = 4 * x0) (h21 : x13 = x11 + x12) (h22 : x14 = x13 + x8) (h23 : x15 = 100 * x2) (h24 : -2147483648 ≤ x0) (h25 : x0 ≤ 2147483647) (h26 : -2147483648 ≤ x1) (h27 : x1 ≤ 2147483647) (h28 : -2147483648 ≤ x2) (h29 : x2 ≤ 2147483647) (h30 : -2147483648 ≤ x5) (h31 : x5 ≤ 2147483647) (h32 : -2147483648 ≤ x6) (h33 : x6 ≤ 2147483647) (h34 : -2147483648 ≤ x7) (h35 : x7 ≤ 2147483647) (h36 : -2147483648 ≤ x8) (h37 : x8 ≤ 2147483647) (h38 : -2147483648 ≤ x10) (h39 : x10 ≤ 2147483647) (h40 : -2147483648 ≤ x11) (h41 : x11 ≤ 2147483647) (h42 : -2147483648 ≤ x12) (h43 : x12 ≤ 2147483647) (h44 : -2147483648 ≤ x13) (h45 : x13 ≤ 2147483647) (h46 : -2147483648 ≤ x14) (h47 : x14 ≤ 2147483647) (h48 : -2147483648 ≤ x15) (h49 : x15 ≤ 2147483647) : -2147483648 ≤ 4 * x0 := by omega
theorem o36_46 {x0 x1 x2 x5 x6 x7 x8 x10 x11 x12 x13 x14 x15 : Int} {x3 x4 x9 : Nat} (h0 : 0 ≤ x1) (h1 : x1 ≤ 60) (h2 : 0 ≤ x2) (h3 : x2 ≤ 61) (h4 : 61 - x2 < ((x3 + 1 : Nat) : Int)) (h5 : x2 ≤ x1) (h6 : 0 ≤ x0) (h7 : x0 ≤ 25) (h8 : 25 - x0 < ((x4 + 1 : Nat) : Int)) (h9 : 0 ≤ x5) (h10 : x5 ≤ 25) (h11 : x0 < x5) (h12 : x6 = 25 * x2) (h13 : x7 = x6 + x0) (h14 : 0 ≤ x8) (h15 : x8 ≤ 4) (h16 : 4 - x8 < ((x9 + 1 : Nat) : Int)) (h17 : x10 = 4) (h18 : x8 < x10) (h19 : x11 = 100 * x2) (h20 : x12 = 4 * x0) (h21 : x13 = x11 + x12) (h22 : x14 = x13 + x8) (h23 : x15 = 100 * x2) (h24 : -2147483648 ≤ x0) (h25 : x0 ≤ 2147483647) (h26 : -2147483648 ≤ x1) (h27 : x1 ≤ 2147483647) (h28 : -2147483648 ≤ x2) (h29 : x2 ≤ 2147483647) (h30 : -2147483648 ≤ x5) (h31 : x5 ≤ 2147483647) (h32 : -2147483648 ≤ x6) (h33 : x6 ≤ 2147483647) (h34 : -2147483648 ≤ x7) (h35 : x7 ≤ 2147483647) (h36 : -2147483648 ≤ x8) (h37 : x8 ≤ 2147483647) (h38 : -2147483648 ≤ x10) (h39 : x10 ≤ 2147483647) (h40 : -2147483648 ≤ x11) (h41 : x11 ≤ 2147483647) (h42 : -2147483648 ≤ x12) (h43 : x12 ≤ 2147483647) (h44 : -2147483648 ≤ x13) (h45 : x13 ≤ 2147483647) (h46 : -2147483648 ≤ x14) (h47 : x14 ≤ 2147483647) (h48 : -2147483648 ≤ x15) (h49 : x15 ≤ 2147483647) : 4 * x0 ≤ 2147483647 := by omega
theorem o36_47 {x0 x1 x2 x3 x5 x7 x8 x9 x10 x12 x13 x14 x15 x16 : Int} {x4 x6 x11 : Nat} (h0 : 0 ≤ x2) (h1 : x2 ≤ 60) (h2 : 0 ≤ x3) (h3 : x3 ≤ 61) (h4 : 61 - x3 < ((x4 + 1 : Nat) : Int)) (h5 : x3 ≤ x2) (h6 : 0 ≤ x5) (h7 : x5 ≤ 25) (h8 : 25 - x5 < ((x6 + 1 : Nat) : Int)) (h9 : 0 ≤ x7) (h10 : x7 ≤ 25) (h11 : x5 < x7) (h12 : x8 = 25 * x3) (h13 : x9 = x8 + x5) (h14 : 0 ≤ x10) (h15 : x10 ≤ 4) (h16 : 4 - x10 < ((x11 + 1 : Nat) : Int)) (h17 : x12 = 4) (h18 : x10 < x12) (h19 : x13 = 100 * x3) (h20 : x14 = 4 * x5) (h21 : x15 = x13 + x14) (h22 : x16 = x15 + x10) (h23 : x0 = 100 * x3) (h24 : x1 = 4 * x5) (h25 : -2147483648 ≤ x0) (h26 : x0 ≤ 2147483647) (h27 : -2147483648 ≤ x1) (h28 : x1 ≤ 2147483647) (h29 : -2147483648 ≤ x2) (h30 : x2 ≤ 2147483647) (h31 : -2147483648 ≤ x3) (h32 : x3 ≤ 2147483647) (h33 : -2147483648 ≤ x5) (h34 : x5 ≤ 2147483647) (h35 : -2147483648 ≤ x7) (h36 : x7 ≤ 2147483647) (h37 : -2147483648 ≤ x8) (h38 : x8 ≤ 2147483647) (h39 : -2147483648 ≤ x9) (h40 : x9 ≤ 2147483647) (h41 : -2147483648 ≤ x10) (h42 : x10 ≤ 2147483647) (h43 : -2147483648 ≤ x12) (h44 : x12 ≤ 2147483647) (h45 : -2147483648 ≤ x13) (h46 : x13 ≤ 2147483647) (h47 : -2147483648 ≤ x14) (h48 : x14 ≤ 2147483647) (h49 : -2147483648 ≤ x15) (h50 : x15 ≤ 2147483647) (h51 : -2147483648 ≤ x16) (h52 : x16 ≤ 2147483647) : -2147483648 ≤ x0 + x1 := by omega
theorem o36_48 {x0 x1 x2 x3 x5 x7 x8 x9 x10 x12 x13 x14 x15 x16 : Int} {x4 x6 x11 : Nat} (h0 : 0 ≤ x2) (h1 : x2 ≤ 60) (h2 : 0 ≤ x3) (h3 : x3 ≤ 61) (h4 : 61 - x3 < ((x4 + 1 : Nat) : Int)) (h5 : x3 ≤ x2) (h6 : 0 ≤ x5) (h7 : x5 ≤ 25) (h8 : 25 - x5 < ((x6 + 1 : Nat) : Int)) (h9 : 0 ≤ x7) (h10 : x7 ≤ 25) (h11 : x5 < x7) (h12 : x8 = 25 * x3) (h13 : x9 = x8 + x5) (h14 : 0 ≤ x10) (h15 : x10 ≤ 4) (h16 : 4 - x10 < ((x11 + 1 : Nat) : Int)) (h17 : x12 = 4) (h18 : x10 < x12) (h19 : x13 = 100 * x3) (h20 : x14 = 4 * x5) (h21 : x15 = x13 + x14) (h22 : x16 = x15 + x10) (h23 : x0 = 100 * x3) (h24 : x1 = 4 * x5) (h25 : -2147483648 ≤ x0) (h26 : x0 ≤ 2147483647) (h27 : -2147483648 ≤ x1) (h28 : x1 ≤ 2147483647) (h29 : -2147483648 ≤ x2) (h30 : x2 ≤ 2147483647) (h31 : -2147483648 ≤ x3) (h32 : x3 ≤ 2147483647) (h33 : -2147483648 ≤ x5) (h34 : x5 ≤ 2147483647) (h35 : -2147483648 ≤ x7) (h36 : x7 ≤ 2147483647) (h37 : -2147483648 ≤ x8) (h38 : x8 ≤ 2147483647) (h39 : -2147483648 ≤ x9) (h40 : x9 ≤ 2147483647) (h41 : -2147483648 ≤ x10) (h42 : x10 ≤ 2147483647) (h43 : -2147483648 ≤ x12) (h44 : x12 ≤ 2147483647) (h45 : -2147483648 ≤ x13) (h46 : x13 ≤ 2147483647) (h47 : -2147483648 ≤ x14) (h48 : x14 ≤ 2147483647) (h49 : -2147483648 ≤ x15) (h50 : x15 ≤ 2147483647) (h51 : -2147483648 ≤ x16) (h52 : x16 ≤ 2147483647) : x0 + x1 ≤ 2147483647 := by omega
theorem o36_49 {x0 x1 x2 x3 x5 x7 x8 x9 x11 x12 x13 x14 x15 x16 x17 : Int} {x4 x6 x10 : Nat} (h0 : 0 ≤ x2) (h1 : x2 ≤ 60) (h2 : 0 ≤ x3) (h3 : x3 ≤ 61) (h4 : 61 - x3 < ((x4 + 1 : Nat) : Int)) (h5 : x3 ≤ x2) (h6 : 0 ≤ x5) (h7 : x5 ≤ 25) (h8 : 25 - x5 < ((x6 + 1 : Nat) : Int)) (h9 : 0 ≤ x7) (h10 : x7 ≤ 25) (h11 : x5 < x7) (h12 : x8 = 25 * x3) (h13 : x9 = x8 + x5) (h14 : 0 ≤ x1) (h15 : x1 ≤ 4) (h16 : 4 - x1 < ((x10 + 1 : Nat) : Int)) (h17 : x11 = 4) (h18 : x1 < x11) (h19 : x12 = 100 * x3) (h20 : x13 = 4 * x5) (h21 : x14 = x12 + x13) (h22 : x15 = x14 + x1) (h23 : x16 = 100 * x3) (h24 : x17 = 4 * x5) (h25 : x0 = x16 + x17) (h26 : -2147483648 ≤ x0) (h27 : x0 ≤ 2147483647) (h28 : -2147483648 ≤ x1) (h29 : x1 ≤ 2147483647) (h30 : -2147483648 ≤ x2) (h31 : x2 ≤ 2147483647) (h32 : -2147483648 ≤ x3) (h33 : x3 ≤ 2147483647) (h34 : -2147483648 ≤ x5) (h35 : x5 ≤ 2147483647) (h36 : -2147483648 ≤ x7) (h37 : x7 ≤ 2147483647) (h38 : -2147483648 ≤ x8) (h39 : x8 ≤ 2147483647) (h40 : -2147483648 ≤ x9) (h41 : x9 ≤ 2147483647) (h42 : -2147483648 ≤ x11) (h43 : x11 ≤ 2147483647) (h44 : -2147483648 ≤ x12) (h45 : x12 ≤ 2147483647) (h46 : -2147483648 ≤ x13) (h47 : x13 ≤ 2147483647) (h48 : -2147483648 ≤ x14) (h49 : x14 ≤ 2147483647) (h50 : -2147483648 ≤ x15) (h51 : x15 ≤ 2147483647) (h52 : -2147483648 ≤ x16) (h53 : x16 ≤ 2147483647) (h54 : -2147483648 ≤ x17) (h55 : x17 ≤ 2147483647) : -2147483648 ≤ x0 + x1 := by omega
theorem o36_50 {x0 x1 x2 x3 x5 x7 x8 x9 x11 x12 x13 x14 x15 x16 x17 : Int} {x4 x6 x10 : Nat} (h0 : 0 ≤ x2) (h1 : x2 ≤ 60) (h2 : 0 ≤ x3) (h3 : x3 ≤ 61) (h4 : 61 - x3 < ((x4 + 1 : Nat) : Int)) (h5 : x3 ≤ x2) (h6 : 0 ≤ x5) (h7 : x5 ≤ 25) (h8 : 25 - x5 < ((x6 + 1 : Nat) : Int)) (h9 : 0 ≤ x7) (h10 : x7 ≤ 25) (h11 : x5 < x7) (h12 : x8 = 25 * x3) (h13 : x9 = x8 + x5) (h14 : 0 ≤ x1) (h15 : x1 ≤ 4) (h16 : 4 - x1 < ((x10 + 1 : Nat) : Int)) (h17 : x11 = 4) (h18 : x1 < x11) (h19 : x12 = 100 * x3) (h20 : x13 = 4 * x5) (h21 : x14 = x12 + x13) (h22 : x15 = x14 + x1) (h23 : x16 = 100 * x3) (h24 : x17 = 4 * x5) (h25 : x0 = x16 + x17) (h26 : -2147483648 ≤ x0) (h27 : x0 ≤ 2147483647) (h28 : -2147483648 ≤ x1) (h29 : x1 ≤ 2147483647) (h30 : -2147483648 ≤ x2) (h31 : x2 ≤ 2147483647) (h32 : -2147483648 ≤ x3) (h33 : x3 ≤ 2147483647) (h34 : -2147483648 ≤ x5) (h35 : x5 ≤ 2147483647) (h36 : -2147483648 ≤ x7) (h37 : x7 ≤ 2147483647) (h38 : -2147483648 ≤ x8) (h39 : x8 ≤ 2147483647) (h40 : -2147483648 ≤ x9) (h41 : x9 ≤ 2147483647) (h42 : -2147483648 ≤ x11) (h43 : x11 ≤ 2147483647) (h44 : -2147483648 ≤ x12) (h45 : x12 ≤ 2147483647) (h46 : -2147483648 ≤ x13) (h47 : x13 ≤ 2147483647) (h48 : -2147483648 ≤ x14) (h49 : x14 ≤ 2147483647) (h50 : -2147483648 ≤ x15) (h51 : x15 ≤ 2147483647) (h52 : -2147483648 ≤ x16) (h53 : x16 ≤ 2147483647) (h54 : -2147483648 ≤ x17) (h55 : x17 ≤ 2147483647) : x0 + x1 ≤ 2147483647 := by omega
theorem o36_51 {x0 x1 x2 x5 x6 x7 x8 x10 x11 x12 x13 x14 x15 x16 x17 x18 : Int} {x3 x4 x9 : Nat} (h0 : 0 ≤ x1) (h1 : x1 ≤ 60) (h2 : 0 ≤ x2) (h3 : x2 ≤ 61) (h4 : 61 - x2 < ((x3 + 1 : Nat) : Int)) (h5 : x2 ≤ x1) (h6 : 0 ≤ x0) (h7 : x0 ≤ 25) (h8 : 25 - x0 < ((x4 + 1 : Nat) : Int)) (h9 : 0 ≤ x5) (h10 : x5 ≤ 25) (h11 : x0 < x5) (h12 : x6 = 25 * x2) (h13 : x7 = x6 + x0) (h14 : 0 ≤ x8) (h15 : x8 ≤ 4) (h16 : 4 - x8 < ((x9 + 1 : Nat) : Int)) (h17 : x10 = 4) (h18 : x8 < x10) (h19 : x11 = 100 * x2) (h20 : x12 = 4 * x0) (h21 : x13 = x11 + x12) (h22 : x14 = x13 + x8) (h23 : x15 = 100 * x2) (h24 : x16 = 4 * x0) (h25 : x17 = x15 + x16) (h26 : x18 = x17 + x8) : 0 ≤ x0 := by omega
theorem o36_52 {x0 x1 x2 x5 x6 x7 x8 x10 x11 x12 x13 x14 x15 x16 x17 x18 : Int} {x3 x4 x9 : Nat} (h0 : 0 ≤ x1) (h1 : x1 ≤ 60) (h2 : 0 ≤ x2) (h3 : x2 ≤ 61) (h4 : 61 - x2 < ((x3 + 1 : Nat) : Int)) (h5 : x2 ≤ x1) (h6 : 0 ≤ x0) (h7 : x0 ≤ 25) (h8 : 25 - x0 < ((x4 + 1 : Nat) : Int)) (h9 : 0 ≤ x5) (h10 : x5 ≤ 25) (h11 : x0 < x5) (h12 : x6 = 25 * x2) (h13 : x7 = x6 + x0) (h14 : 0 ≤ x8) (h15 : x8 ≤ 4) (h16 : 4 - x8 < ((x9 + 1 : Nat) : Int)) (h17 : x10 = 4) (h18 : x8 < x10) (h19 : x11 = 100 * x2) (h20 : x12 = 4 * x0) (h21 : x13 = x11 + x12) (h22 : x14 = x13 + x8) (h23 : x15 = 100 * x2) (h24 : x16 = 4 * x0) (h25 : x17 = x15 + x16) (h26 : x18 = x17 + x8) : x0 ≤ 24 := by omega
theorem o36_53 {x0 x1 x2 x4 x6 x7 x8 x10 x11 x12 x13 x14 x15 x16 x17 x18 : Int} {x3 x5 x9 : Nat} (h0 : 0 ≤ x1) (h1 : x1 ≤ 60) (h2 : 0 ≤ x2) (h3 : x2 ≤ 61) (h4 : 61 - x2 < ((x3 + 1 : Nat) : Int)) (h5 : x2 ≤ x1) (h6 : 0 ≤ x4) (h7 : x4 ≤ 25) (h8 : 25 - x4 < ((x5 + 1 : Nat) : Int)) (h9 : 0 ≤ x6) (h10 : x6 ≤ 25) (h11 : x4 < x6) (h12 : x7 = 25 * x2) (h13 : x8 = x7 + x4) (h14 : 0 ≤ x0) (h15 : x0 ≤ 4) (h16 : 4 - x0 < ((x9 + 1 : Nat) : Int)) (h17 : x10 = 4) (h18 : x0 < x10) (h19 : x11 = 100 * x2) (h20 : x12 = 4 * x4) (h21 : x13 = x11 + x12) (h22 : x14 = x13 + x0) (h23 : x15 = 100 * x2) (h24 : x16 = 4 * x4) (h25 : x17 = x15 + x16) (h26 : x18 = x17 + x0) : 0 ≤ x0 := by omega
theorem o36_54 {x0 x1 x2 x4 x6 x7 x8 x10 x11 x12 x13 x14 x15 x16 x17 x18 : Int} {x3 x5 x9 : Nat} (h0 : 0 ≤ x1) (h1 : x1 ≤ 60) (h2 : 0 ≤ x2) (h3 : x2 ≤ 61) (h4 : 61 - x2 < ((x3 + 1 : Nat) : Int)) (h5 : x2 ≤ x1) (h6 : 0 ≤ x4) (h7 : x4 ≤ 25) (h8 : 25 - x4 < ((x5 + 1 : Nat) : Int)) (h9 : 0 ≤ x6) (h10 : x6 ≤ 25) (h11 : x4 < x6) (h12 : x7 = 25 * x2) (h13 : x8 = x7 + x4) (h14 : 0 ≤ x0) (h15 : x0 ≤ 4) (h16 : 4 - x0 < ((x9 + 1 : Nat) : Int)) (h17 : x10 = 4) (h18 : x0 < x10) (h19 : x11 = 100 * x2) (h20 : x12 = 4 * x4) (h21 : x13 = x11 + x12) (h22 : x14 = x13 + x0) (h23 : x15 = 100 * x2) (h24 : x16 = 4 * x4) (h25 : x17 = x15 + x16) (h26 : x18 = x17 + x0) : x0 ≤ 3 := by omega
theorem o36_55 {x0 x1 x2 x4 x6 x7 x8 x9 x11 x12 x13 x14 x15 x16 x17 x18 : Int} {x3 x5 x10 : Nat} (h0 : 0 ≤ x1) (h1 : x1 ≤ 60) (h2 : 0 ≤ x2) (h3 : x2 ≤ 61) (h4 : 61 - x2 < ((x3 + 1 : Nat) : Int)) (h5 : x2 ≤ x1) (h6 : 0 ≤ x4) (h7 : x4 ≤ 25) (h8 : 25 - x4 < ((x5 + 1 : Nat) : Int)) (h9 : 0 ≤ x6) (h10 : x6 ≤ 25) (h11 : x4 < x6) (h12 : x7 = 25 * x2) (h13 : x8 = x7 + x4) (h14 : 0 ≤ x9) (h15 : x9 ≤ 4) (h16 : 4 - x9 < ((x10 + 1 : Nat) : Int)) (h17 : x11 = 4) (h18 : x9 < x11) (h19 : x12 = 100 * x2) (h20 : x13 = 4 * x4) (h21 : x14 = x12 + x13) (h22 : x15 = x14 + x9) (h23 : x16 = 100 * x2) (h24 : x17 = 4 * x4) (h25 : x18 = x16 + x17) (h26 : x0 = x18 + x9) : 0 ≤ x0 := by omega
theorem o36_56 {x0 x1 x2 x4 x6 x7 x8 x9 x11 x12 x13 x14 x15 x16 x17 x18 : Int} {x3 x5 x10 : Nat} (h0 : 0 ≤ x1) (h1 : x1 ≤ 60) (h2 : 0 ≤ x2) (h3 : x2 ≤ 61) (h4 : 61 - x2 < ((x3 + 1 : Nat) : Int)) (h5 : x2 ≤ x1) (h6 : 0 ≤ x4) (h7 : x4 ≤ 25) (h8 : 25 - x4 < ((x5 + 1 : Nat) : Int)) (h9 : 0 ≤ x6) (h10 : x6 ≤ 25) (h11 : x4 < x6) (h12 : x7 = 25 * x2) (h13 : x8 = x7 + x4) (h14 : 0 ≤ x9) (h15 : x9 ≤ 4) (h16 : 4 - x9 < ((x10 + 1 : Nat) : Int)) (h17 : x11 = 4) (h18 : x9 < x11) (h19 : x12 = 100 * x2) (h20 : x13 = 4 * x4) (h21 : x14 = x12 + x13) (h22 : x15 = x14 + x9) (h23 : x16 = 100 * x2) (h24 : x17 = 4 * x4) (h25 : x18 = x16 + x17) (h26 : x0 = x18 + x9) : x0 < (6100 : Nat) := by omega
theorem o36_57 {x0 x1 x2 x4 x6 x7 x8 x10 x11 x12 x13 x14 x15 x16 x17 x18 : Int} {x3 x5 x9 : Nat} (h0 : 0 ≤ x1) (h1 : x1 ≤ 60) (h2 : 0 ≤ x2) (h3 : x2 ≤ 61) (h4 : 61 - x2 < ((x3 + 1 : Nat) : Int)) (h5 : x2 ≤ x1) (h6 : 0 ≤ x4) (h7 : x4 ≤ 25) (h8 : 25 - x4 < ((x5 + 1 : Nat) : Int)) (h9 : 0 ≤ x6) (h10 : x6 ≤ 25) (h11 : x4 < x6) (h12 : x7 = 25 * x2) (h13 : x8 = x7 + x4) (h14 : 0 ≤ x0) (h15 : x0 ≤ 4) (h16 : 4 - x0 < ((x9 + 1 : Nat) : Int)) (h17 : x10 = 4) (h18 : x0 < x10) (h19 : x11 = 100 * x2) (h20 : x12 = 4 * x4) (h21 : x13 = x11 + x12) (h22 : x14 = x13 + x0) (h23 : x15 = 100 * x2) (h24 : x16 = 4 * x4) (h25 : x17 = x15 + x16) (h26 : x18 = x17 + x0) (h27 : -2147483648 ≤ x0) (h28 : x0 ≤ 2147483647) (h29 : -2147483648 ≤ x1) (h30 : x1 ≤ 2147483647) (h31 : -2147483648 ≤ x2) (h32 : x2 ≤ 2147483647) (h33 : -2147483648 ≤ x4) (h34 : x4 ≤ 2147483647) (h35 : -2147483648 ≤ x6) (h36 : x6 ≤ 2147483647) (h37 : -2147483648 ≤ x7) (h38 : x7 ≤ 2147483647) (h39 : -2147483648 ≤ x8) (h40 : x8 ≤ 2147483647) (h41 : -2147483648 ≤ x10) (h42 : x10 ≤ 2147483647) (h43 : -2147483648 ≤ x11) (h44 : x11 ≤ 2147483647) (h45 : -2147483648 ≤ x12) (h46 : x12 ≤ 2147483647) (h47 : -2147483648 ≤ x13) (h48 : x13 ≤ 2147483647) (h49 : -2147483648 ≤ x14) (h50 : x14 ≤ 2147483647) (h51 : -2147483648 ≤ x15) (h52 : x15 ≤ 2147483647) (h53 : -2147483648 ≤ x16) (h54 : x16 ≤ 2147483647) (h55 : -2147483648 ≤ x17) (h56 : x17 ≤ 2147483647) (h57 : -2147483648 ≤ x18) (h58 : x18 ≤ 2147483647) : -2147483648 ≤ x0 + 1 := by omega
theorem o36_58 {x0 x1 x2 x4 x6 x7 x8 x10 x11 x12 x13 x14 x15 x16 x17 x18 : Int} {x3 x5 x9 : Nat} (h0 : 0 ≤ x1) (h1 : x1 ≤ 60) (h2 : 0 ≤ x2) (h3 : x2 ≤ 61) (h4 : 61 - x2 < ((x3 + 1 : Nat) : Int)) (h5 : x2 ≤ x1) (h6 : 0 ≤ x4) (h7 : x4 ≤ 25) (h8 : 25 - x4 < ((x5 + 1 : Nat) : Int)) (h9 : 0 ≤ x6) (h10 : x6 ≤ 25) (h11 : x4 < x6) (h12 : x7 = 25 * x2) (h13 : x8 = x7 + x4) (h14 : 0 ≤ x0) (h15 : x0 ≤ 4) (h16 : 4 - x0 < ((x9 + 1 : Nat) : Int)) (h17 : x10 = 4) (h18 : x0 < x10) (h19 : x11 = 100 * x2) (h20 : x12 = 4 * x4) (h21 : x13 = x11 + x12) (h22 : x14 = x13 + x0) (h23 : x15 = 100 * x2) (h24 : x16 = 4 * x4) (h25 : x17 = x15 + x16) (h26 : x18 = x17 + x0) (h27 : -2147483648 ≤ x0) (h28 : x0 ≤ 2147483647) (h29 : -2147483648 ≤ x1) (h30 : x1 ≤ 2147483647) (h31 : -2147483648 ≤ x2) (h32 : x2 ≤ 2147483647) (h33 : -2147483648 ≤ x4) (h34 : x4 ≤ 2147483647) (h35 : -2147483648 ≤ x6) (h36 : x6 ≤ 2147483647) (h37 : -2147483648 ≤ x7) (h38 : x7 ≤ 2147483647) (h39 : -2147483648 ≤ x8) (h40 : x8 ≤ 2147483647) (h41 : -2147483648 ≤ x10) (h42 : x10 ≤ 2147483647) (h43 : -2147483648 ≤ x11) (h44 : x11 ≤ 2147483647) (h45 : -2147483648 ≤ x12) (h46 : x12 ≤ 2147483647) (h47 : -2147483648 ≤ x13) (h48 : x13 ≤ 2147483647) (h49 : -2147483648 ≤ x14) (h50 : x14 ≤ 2147483647) (h51 : -2147483648 ≤ x15) (h52 : x15 ≤ 2147483647) (h53 : -2147483648 ≤ x16) (h54 : x16 ≤ 2147483647) (h55 : -2147483648 ≤ x17) (h56 : x17 ≤ 2147483647) (h57 : -2147483648 ≤ x18) (h58 : x18 ≤ 2147483647) : x0 + 1 ≤ 2147483647 := by omega
theorem o36_59 {x0 x2 x3 x5 x7 x8 x9 x10 x11 x12 x13 x14 x15 x16 x17 x18 x19 : Int} {x1 x4 x6 : Nat} (h0 : 0 ≤ x2) (h1 : x2 ≤ 60) (h2 : 0 ≤ x3) (h3 : x3 ≤ 61) (h4 : 61 - x3 < ((x4 + 1 : Nat) : Int)) (h5 : x3 ≤ x2) (h6 : 0 ≤ x5) (h7 : x5 ≤ 25) (h8 : 25 - x5 < ((x6 + 1 : Nat) : Int)) (h9 : 0 ≤ x7) (h10 : x7 ≤ 25) (h11 : x5 < x7) (h12 : x8 = 25 * x3) (h13 : x9 = x8 + x5) (h14 : 0 ≤ x10) (h15 : x10 ≤ 4) (h16 : 4 - x10 < ((x1 + 1 : Nat) : Int)) (h17 : x11 = 4) (h18 : x10 < x11) (h19 : x12 = 100 * x3) (h20 : x13 = 4 * x5) (h21 : x14 = x12 + x13) (h22 : x15 = x14 + x10) (h23 : x16 = 100 * x3) (h24 : x17 = 4 * x5) (h25 : x18 = x16 + x17) (h26 : x19 = x18 + x10) (h27 : x0 = x10 + 1) : 4 - x0 < (x1 : Int) := by omega
theorem o36_60 {x0 x1 x2 x4 x6 x7 x8 x9 x11 x12 x13 x14 x15 x16 x17 x18 x19 : Int} {x3 x5 x10 : Nat} (h0 : 0 ≤ x1) (h1 : x1 ≤ 60) (h2 : 0 ≤ x2) (h3 : x2 ≤ 61) (h4 : 61 - x2 < ((x3 + 1 : Nat) : Int)) (h5 : x2 ≤ x1) (h6 : 0 ≤ x4) (h7 : x4 ≤ 25) (h8 : 25 - x4 < ((x5 + 1 : Nat) : Int)) (h9 : 0 ≤ x6) (h10 : x6 ≤ 25) (h11 : x4 < x6) (h12 : x7 = 25 * x2) (h13 : x8 = x7 + x4) (h14 : 0 ≤ x9) (h15 : x9 ≤ 4) (h16 : 4 - x9 < ((x10 + 1 : Nat) : Int)) (h17 : x11 = 4) (h18 : x9 < x11) (h19 : x12 = 100 * x2) (h20 : x13 = 4 * x4) (h21 : x14 = x12 + x13) (h22 : x15 = x14 + x9) (h23 : x16 = 100 * x2) (h24 : x17 = 4 * x4) (h25 : x18 = x16 + x17) (h26 : x19 = x18 + x9) (h27 : x0 = x9 + 1) : 0 ≤ x0 := by omega
theorem o36_61 {x0 x1 x2 x4 x6 x7 x8 x9 x11 x12 x13 x14 x15 x16 x17 x18 x19 : Int} {x3 x5 x10 : Nat} (h0 : 0 ≤ x1) (h1 : x1 ≤ 60) (h2 : 0 ≤ x2) (h3 : x2 ≤ 61) (h4 : 61 - x2 < ((x3 + 1 : Nat) : Int)) (h5 : x2 ≤ x1) (h6 : 0 ≤ x4) (h7 : x4 ≤ 25) (h8 : 25 - x4 < ((x5 + 1 : Nat) : Int)) (h9 : 0 ≤ x6) (h10 : x6 ≤ 25) (h11 : x4 < x6) (h12 : x7 = 25 * x2) (h13 : x8 = x7 + x4) (h14 : 0 ≤ x9) (h15 : x9 ≤ 4) (h16 : 4 - x9 < ((x10 + 1 : Nat) : Int)) (h17 : x11 = 4) (h18 : x9 < x11) (h19 : x12 = 100 * x2) (h20 : x13 = 4 * x4) (h21 : x14 = x12 + x13) (h22 : x15 = x14 + x9) (h23 : x16 = 100 * x2) (h24 : x17 = 4 * x4) (h25 : x18 = x16 + x17) (h26 : x19 = x18 + x9) (h27 : x0 = x9 + 1) : x0 ≤ 4 := by omega
theorem o36_62 {x0 : Int} (h0 : x0 = 0) : 4 - x0 < (((4 - x0 + 1).toNat : Nat) : Int) := by omega
theorem o36_63 {x0 : Int} (h0 : x0 = 0) : 0 ≤ x0 := by omega
theorem o36_64 {x0 : Int} (h0 : x0 = 0) : x0 ≤ 4 := by omega
theorem o36_65 {x0 : Int} (h0 : x0 = 0) : 25 - x0 < (((25 - x0 + 1).toNat : Nat) : Int) := by omega
theorem o36_66 {x0 : Int} (h0 : x0 = 0) : x0 ≤ 25 := by omega
theorem o36_67 {x0 : Int} (h0 : x0 = 0) : 61 - x0 < (((61 - x0 + 1).toNat : Nat) : Int) := by omega
theorem o36_68 {x0 : Int} (h0 : x0 = 0) : x0 ≤ 61 := by omega
theorem o36_69 {x0 : Int} (h0 : 0 ≤ x0) (h1 : x0 ≤ 3) : 0 ≤ x0 := by omega
theorem o36_70 {x0 : Int} (h0 : 0 ≤ x0) (h1 : x0 ≤ 3) : x0 ≤ 3 := by omega
theorem o36_71 {x0 : Int} (h0 : 0 ≤ x0) (h1 : x0 ≤ 24) : 0 ≤ x0 := by omega
theorem o36_72 {x0 : Int} (h0 : 0 ≤ x0) (h1 : x0 ≤ 24) : x0 ≤ 24 := by omega
theorem o36_73 {x0 : Int} (h0 : x0 = (-1)) : x0 = (-1) := by omega
theorem o36_74 {x0 x1 : Int} (h0 : (-1) ≤ x0) (h1 : x0 ≤ 24) (h2 : x1 = (-1)) (h3 : x0 = x1) : x0 = (-1) := by omega
theorem o36_75 {x0 x1 : Int} (h0 : (-1) ≤ x0) (h1 : x0 ≤ 24) (h2 : x1 = (-1)) (h3 : ¬ x0 = x1) : ¬ x0 = (-1) := by omega
theorem o36_76 {x0 : Int} (h0 : x0 = 1000000000) : 0 ≤ x0 := by omega
theorem o36_77 {x0 : Int} (h0 : x0 = 1000000000) : x0 ≤ 1000000000 := by omega
theorem o36_78 {x0 : Int} (h0 : x0 = 1000000000) : (x0 = 1000000000 ∨ (0 ≤ x0 ∧ x0 ≤ 2)) := by omega
theorem o36_79 {x0 : Int} (h0 : x0 = 1000000000) : x0 = 1000000000 := by omega
theorem o36_80 {x0 : Int} (h0 : x0 = 1) : x0 = 1 := by omega
theorem o36_81 {x0 x1 : Int} (h0 : 0 ≤ x0) (h1 : x0 ≤ 3) (h2 : x1 = 1) (h3 : x0 ≤ x1) : ¬ 1 < x0 := by omega
theorem o36_82 {x0 x1 : Int} (h0 : 0 ≤ x0) (h1 : x0 ≤ 3) (h2 : x1 = 1) (h3 : x1 < x0) : 1 < x0 := by omega
theorem o36_83 {x0 x1 x2 : Int} (h0 : 0 ≤ x0) (h1 : x0 ≤ 3) (h2 : x2 = 1) (h3 : x0 ≤ x2) (h4 : x1 = 2) (h5 : x1 ≤ x0) : False := by omega
theorem o36_84 {x0 : Int} (h0 : x0 = 0) : x0 ≤ 1000000000 := by omega
theorem o36_85 {x0 : Int} (h0 : x0 = 0) : (x0 = 1000000000 ∨ (0 ≤ x0 ∧ x0 ≤ 2)) := by omega
theorem o36_86 {x0 x1 : Int} (h0 : (-1) ≤ x0) (h1 : x0 ≤ 24) (h2 : x1 = (-1)) (h3 : ¬ x0 = x1) : 0 ≤ x0 := by omega
theorem o36_87 {x0 : Int} (h0 : 0 ≤ x0) (h1 : x0 ≤ 60) (h2 : -2147483648 ≤ x0) (h3 : x0 ≤ 2147483647) : -2147483648 ≤ 100 * x0 := by omega
theorem o36_88 {x0 : Int} (h0 : 0 ≤ x0) (h1 : x0 ≤ 60) (h2 : -2147483648 ≤ x0) (h3 : x0 ≤ 2147483647) : 100 * x0 ≤ 2147483647 := by omega
theorem o36_89 {x0 : Int} (h0 : 0 ≤ x0) (h1 : x0 ≤ 24) (h2 : -2147483648 ≤ x0) (h3 : x0 ≤ 2147483647) : -2147483648 ≤ 4 * x0 := by omega
theorem o36_90 {x0 : Int} (h0 : 0 ≤ x0) (h1 : x0 ≤ 24) (h2 : -2147483648 ≤ x0) (h3 : x0 ≤ 2147483647) : 4 * x0 ≤ 2147483647 := by omega
theorem o36_91 {x0 x1 x2 x3 : Int} (h0 : 0 ≤ x2) (h1 : x2 ≤ 60) (h2 : 0 ≤ x3) (h3 : x3 ≤ 24) (h4 : x0 = 100 * x2) (h5 : x1 = 4 * x3) (h6 : -2147483648 ≤ x0) (h7 : x0 ≤ 2147483647) (h8 : -2147483648 ≤ x1) (h9 : x1 ≤ 2147483647) (h10 : -2147483648 ≤ x2) (h11 : x2 ≤ 2147483647) (h12 : -2147483648 ≤ x3) (h13 : x3 ≤ 2147483647) : -2147483648 ≤ x0 + x1 := by omega
theorem o36_92 {x0 x1 x2 x3 : Int} (h0 : 0 ≤ x2) (h1 : x2 ≤ 60) (h2 : 0 ≤ x3) (h3 : x3 ≤ 24) (h4 : x0 = 100 * x2) (h5 : x1 = 4 * x3) (h6 : -2147483648 ≤ x0) (h7 : x0 ≤ 2147483647) (h8 : -2147483648 ≤ x1) (h9 : x1 ≤ 2147483647) (h10 : -2147483648 ≤ x2) (h11 : x2 ≤ 2147483647) (h12 : -2147483648 ≤ x3) (h13 : x3 ≤ 2147483647) : x0 + x1 ≤ 2147483647 := by omega
theorem o36_93 {x0 x1 x2 x3 x4 x5 : Int} (h0 : 0 ≤ x2) (h1 : x2 ≤ 60) (h2 : 0 ≤ x3) (h3 : x3 ≤ 24) (h4 : 0 ≤ x1) (h5 : x1 ≤ 3) (h6 : x4 = 100 * x2) (h7 : x5 = 4 * x3) (h8 : x0 = x4 + x5) (h9 : -2147483648 ≤ x0) (h10 : x0 ≤ 2147483647) (h11 : -2147483648 ≤ x1) (h12 : x1 ≤ 2147483647) (h13 : -2147483648 ≤ x2) (h14 : x2 ≤ 2147483647) (h15 : -2147483648 ≤ x3) (h16 : x3 ≤ 2147483647) (h17 : -2147483648 ≤ x4) (h18 : x4 ≤ 2147483647) (h19 : -2147483648 ≤ x5) (h20 : x5 ≤ 2147483647) : -2147483648 ≤ x0 + x1 := by omega
theorem o36_94 {x0 x1 x2 x3 x4 x5 : Int} (h0 : 0 ≤ x2) (h1 : x2 ≤ 60) (h2 : 0 ≤ x3) (h3 : x3 ≤ 24) (h4 : 0 ≤ x1) (h5 : x1 ≤ 3) (h6 : x4 = 100 * x2) (h7 : x5 = 4 * x3) (h8 : x0 = x4 + x5) (h9 : -2147483648 ≤ x0) (h10 : x0 ≤ 2147483647) (h11 : -2147483648 ≤ x1) (h12 : x1 ≤ 2147483647) (h13 : -2147483648 ≤ x2) (h14 : x2 ≤ 2147483647) (h15 : -2147483648 ≤ x3) (h16 : x3 ≤ 2147483647) (h17 : -2147483648 ≤ x4) (h18 : x4 ≤ 2147483647) (h19 : -2147483648 ≤ x5) (h20 : x5 ≤ 2147483647) : x0 + x1 ≤ 2147483647 := by omega
theorem o36_95 {x0 x1 x2 x3 x4 x5 x6 : Int} (h0 : 0 ≤ x1) (h1 : x1 ≤ 60) (h2 : 0 ≤ x2) (h3 : x2 ≤ 24) (h4 : 0 ≤ x3) (h5 : x3 ≤ 3) (h6 : x4 = 100 * x1) (h7 : x5 = 4 * x2) (h8 : x6 = x4 + x5) (h9 : x0 = x6 + x3) : 0 ≤ x0 := by omega
theorem o36_96 {x0 x1 x2 x3 x4 x5 x6 : Int} (h0 : 0 ≤ x1) (h1 : x1 ≤ 60) (h2 : 0 ≤ x2) (h3 : x2 ≤ 24) (h4 : 0 ≤ x3) (h5 : x3 ≤ 3) (h6 : x4 = 100 * x1) (h7 : x5 = 4 * x2) (h8 : x6 = x4 + x5) (h9 : x0 = x6 + x3) : x0 < (6100 : Nat) := by omega
theorem o36_97 {x0 x1 x2 : Int} (h0 : 0 ≤ x0) (h1 : x0 ≤ 3) (h2 : x2 = 1) (h3 : x2 < x0) (h4 : x1 = 2) (h5 : x0 < x1) : False := by omega
theorem o36_98 {x0 x1 x2 x3 x4 x5 x6 : Int} (h0 : 0 ≤ x0) (h1 : x0 ≤ 60) (h2 : 0 ≤ x1) (h3 : x1 ≤ 24) (h4 : 0 ≤ x2) (h5 : x2 ≤ 3) (h6 : x3 = 100 * x0) (h7 : x4 = 4 * x1) (h8 : x5 = x3 + x4) (h9 : x6 = x5 + x2) (h10 : -2147483648 ≤ x0) (h11 : x0 ≤ 2147483647) (h12 : -2147483648 ≤ x1) (h13 : x1 ≤ 2147483647) (h14 : -2147483648 ≤ x2) (h15 : x2 ≤ 2147483647) (h16 : -2147483648 ≤ x3) (h17 : x3 ≤ 2147483647) (h18 : -2147483648 ≤ x4) (h19 : x4 ≤ 2147483647) (h20 : -2147483648 ≤ x5) (h21 : x5 ≤ 2147483647) (h22 : -2147483648 ≤ x6) (h23 : x6 ≤ 2147483647) : -2147483648 ≤ 25 * x0 := by omega
theorem o36_99 {x0 x1 x2 x3 x4 x5 x6 : Int} (h0 : 0 ≤ x0) (h1 : x0 ≤ 60) (h2 : 0 ≤ x1) (h3 : x1 ≤ 24) (h4 : 0 ≤ x2) (h5 : x2 ≤ 3) (h6 : x3 = 100 * x0) (h7 : x4 = 4 * x1) (h8 : x5 = x3 + x4) (h9 : x6 = x5 + x2) (h10 : -2147483648 ≤ x0) (h11 : x0 ≤ 2147483647) (h12 : -2147483648 ≤ x1) (h13 : x1 ≤ 2147483647) (h14 : -2147483648 ≤ x2) (h15 : x2 ≤ 2147483647) (h16 : -2147483648 ≤ x3) (h17 : x3 ≤ 2147483647) (h18 : -2147483648 ≤ x4) (h19 : x4 ≤ 2147483647) (h20 : -2147483648 ≤ x5) (h21 : x5 ≤ 2147483647) (h22 : -2147483648 ≤ x6) (h23 : x6 ≤ 2147483647) : 25 * x0 ≤ 2147483647 := by omega
theorem o36_100 {x0 x1 x2 x3 x4 x5 x6 x7 : Int} (h0 : 0 ≤ x2) (h1 : x2 ≤ 60) (h2 : 0 ≤ x1) (h3 : x1 ≤ 24) (h4 : 0 ≤ x3) (h5 : x3 ≤ 3) (h6 : x4 = 100 * x2) (h7 : x5 = 4 * x1) (h8 : x6 = x4 + x5) (h9 : x7 = x6 + x3) (h10 : x0 = 25 * x2) (h11 : -2147483648 ≤ x0) (h12 : x0 ≤ 2147483647) (h13 : -2147483648 ≤ x1) (h14 : x1 ≤ 2147483647) (h15 : -2147483648 ≤ x2) (h16 : x2 ≤ 2147483647) (h17 : -2147483648 ≤ x3) (h18 : x3 ≤ 2147483647) (h19 : -2147483648 ≤ x4) (h20 : x4 ≤ 2147483647) (h21 : -2147483648 ≤ x5) (h22 : x5 ≤ 2147483647) (h23 : -2147483648 ≤ x6) (h24 : x6 ≤ 2147483647) (h25 : -2147483648 ≤ x7) (h26 : x7 ≤ 2147483647) : -2147483648 ≤ x0 + x1 := by omega
theorem o36_101 {x0 x1 x2 x3 x4 x5 x6 x7 : Int} (h0 : 0 ≤ x2) (h1 : x2 ≤ 60) (h2 : 0 ≤ x1) (h3 : x1 ≤ 24) (h4 : 0 ≤ x3) (h5 : x3 ≤ 3) (h6 : x4 = 100 * x2) (h7 : x5 = 4 * x1) (h8 : x6 = x4 + x5) (h9 : x7 = x6 + x3) (h10 : x0 = 25 * x2) (h11 : -2147483648 ≤ x0) (h12 : x0 ≤ 2147483647) (h13 : -2147483648 ≤ x1) (h14 : x1 ≤ 2147483647) (h15 : -2147483648 ≤ x2) (h16 : x2 ≤ 2147483647) (h17 : -2147483648 ≤ x3) (h18 : x3 ≤ 2147483647) (h19 : -2147483648 ≤ x4) (h20 : x4 ≤ 2147483647) (h21 : -2147483648 ≤ x5) (h22 : x5 ≤ 2147483647) (h23 : -2147483648 ≤ x6) (h24 : x6 ≤ 2147483647) (h25 : -2147483648 ≤ x7) (h26 : x7 ≤ 2147483647) : x0 + x1 ≤ 2147483647 := by omega
theorem o36_102 {x0 x1 x2 x3 x4 x5 x6 x7 x8 : Int} (h0 : 0 ≤ x1) (h1 : x1 ≤ 60) (h2 : 0 ≤ x2) (h3 : x2 ≤ 24) (h4 : 0 ≤ x3) (h5 : x3 ≤ 3) (h6 : x4 = 100 * x1) (h7 : x5 = 4 * x2) (h8 : x6 = x4 + x5) (h9 : x7 = x6 + x3) (h10 : x8 = 25 * x1) (h11 : x0 = x8 + x2) : 0 ≤ x0 := by omega
theorem o36_103 {x0 x1 x2 x3 x4 x5 x6 x7 x8 : Int} (h0 : 0 ≤ x1) (h1 : x1 ≤ 60) (h2 : 0 ≤ x2) (h3 : x2 ≤ 24) (h4 : 0 ≤ x3) (h5 : x3 ≤ 3) (h6 : x4 = 100 * x1) (h7 : x5 = 4 * x2) (h8 : x6 = x4 + x5) (h9 : x7 = x6 + x3) (h10 : x8 = 25 * x1) (h11 : x0 = x8 + x2) : x0 < (1525 : Nat) := by omega
theorem o36_104 {x0 x1 x2 : Int} (h0 : 0 ≤ x0) (h1 : x0 ≤ 3) (h2 : x1 = 1) (h3 : x1 < x0) (h4 : x2 = 2) (h5 : x2 ≤ x0) : 0 ≤ x0 := by omega
theorem o36_105 {x0 x1 x2 : Int} (h0 : 0 ≤ x0) (h1 : x0 ≤ 3) (h2 : x1 = 1) (h3 : x1 < x0) (h4 : x2 = 2) (h5 : x2 ≤ x0) : x0 ≤ 3 := by omega
theorem o36_106 {x0 : Int} (h0 : 0 ≤ x0) (h1 : x0 ≤ 0) (h2 : ¬ x0 = 0) : False := by omega
theorem o36_107 {x0 x1 x2 x3 : Int} (h0 : 0 ≤ x1) (h1 : x1 ≤ 3) (h2 : x2 = 1) (h3 : x2 < x1) (h4 : x3 = 2) (h5 : x3 ≤ x1) (h6 : 0 ≤ x0) (h7 : x0 ≤ 2) (h8 : ((x1 < 2 ∧ x0 = 0) ∨ (2 ≤ x1 ∧ x0 = x1 - 1))) (h9 : -2147483648 ≤ x0) (h10 : x0 ≤ 2147483647) (h11 : -2147483648 ≤ x1) (h12 : x1 ≤ 2147483647) (h13 : -2147483648 ≤ x2) (h14 : x2 ≤ 2147483647) (h15 : -2147483648 ≤ x3) (h16 : x3 ≤ 2147483647) : -2147483648 ≤ x0 * 1 := by omega
theorem o36_108 {x0 x1 x2 x3 : Int} (h0 : 0 ≤ x1) (h1 : x1 ≤ 3) (h2 : x2 = 1) (h3 : x2 < x1) (h4 : x3 = 2) (h5 : x3 ≤ x1) (h6 : 0 ≤ x0) (h7 : x0 ≤ 2) (h8 : ((x1 < 2 ∧ x0 = 0) ∨ (2 ≤ x1 ∧ x0 = x1 - 1))) (h9 : -2147483648 ≤ x0) (h10 : x0 ≤ 2147483647) (h11 : -2147483648 ≤ x1) (h12 : x1 ≤ 2147483647) (h13 : -2147483648 ≤ x2) (h14 : x2 ≤ 2147483647) (h15 : -2147483648 ≤ x3) (h16 : x3 ≤ 2147483647) : x0 * 1 ≤ 2147483647 := by omega
theorem o36_109 {x0 x1 x2 x3 x4 : Int} (h0 : 0 ≤ x1) (h1 : x1 ≤ 3) (h2 : x2 = 1) (h3 : x2 < x1) (h4 : x3 = 2) (h5 : x3 ≤ x1) (h6 : 0 ≤ x4) (h7 : x4 ≤ 2) (h8 : ((x1 < 2 ∧ x4 = 0) ∨ (2 ≤ x1 ∧ x4 = x1 - 1))) (h9 : x0 = x4 * 1) : 0 ≤ x0 := by omega
theorem o36_110 {x0 x1 x2 x3 x4 : Int} (h0 : 0 ≤ x1) (h1 : x1 ≤ 3) (h2 : x2 = 1) (h3 : x2 < x1) (h4 : x3 = 2) (h5 : x3 ≤ x1) (h6 : 0 ≤ x4) (h7 : x4 ≤ 2) (h8 : ((x1 < 2 ∧ x4 = 0) ∨ (2 ≤ x1 ∧ x4 = x1 - 1))) (h9 : x0 = x4 * 1) : x0 ≤ 1000000000 := by omega
theorem o36_111 {x0 x1 x2 x3 x4 : Int} (h0 : 0 ≤ x1) (h1 : x1 ≤ 3) (h2 : x2 = 1) (h3 : x2 < x1) (h4 : x3 = 2) (h5 : x3 ≤ x1) (h6 : 0 ≤ x4) (h7 : x4 ≤ 2) (h8 : ((x1 < 2 ∧ x4 = 0) ∨ (2 ≤ x1 ∧ x4 = x1 - 1))) (h9 : x0 = x4 * 1) : (x0 = 1000000000 ∨ (0 ≤ x0 ∧ x0 ≤ 2)) := by omega
theorem o36_112 {x0 x1 x2 x3 x4 x5 x6 x7 x8 : Int} (h0 : 0 ≤ x1) (h1 : x1 ≤ 60) (h2 : 0 ≤ x0) (h3 : x0 ≤ 24) (h4 : 0 ≤ x2) (h5 : x2 ≤ 3) (h6 : x3 = 100 * x1) (h7 : x4 = 4 * x0) (h8 : x5 = x3 + x4) (h9 : x6 = x5 + x2) (h10 : x7 = 25 * x1) (h11 : x8 = x7 + x0) : x0 ≤ 24 := by omega
theorem o36_113 {x0 x1 x2 x3 x4 x5 x6 x7 x8 : Int} (h0 : 0 ≤ x0) (h1 : x0 ≤ 60) (h2 : 0 ≤ x1) (h3 : x1 ≤ 24) (h4 : 0 ≤ x2) (h5 : x2 ≤ 3) (h6 : x3 = 100 * x0) (h7 : x4 = 4 * x1) (h8 : x5 = x3 + x4) (h9 : x6 = x5 + x2) (h10 : x7 = 25 * x0) (h11 : x8 = x7 + x1) (h12 : -2147483648 ≤ x0) (h13 : x0 ≤ 2147483647) (h14 : -2147483648 ≤ x1) (h15 : x1 ≤ 2147483647) (h16 : -2147483648 ≤ x2) (h17 : x2 ≤ 2147483647) (h18 : -2147483648 ≤ x3) (h19 : x3 ≤ 2147483647) (h20 : -2147483648 ≤ x4) (h21 : x4 ≤ 2147483647) (h22 : -2147483648 ≤ x5) (h23 : x5 ≤ 2147483647) (h24 : -2147483648 ≤ x6) (h25 : x6 ≤ 2147483647) (h26 : -2147483648 ≤ x7) (h27 : x7 ≤ 2147483647) (h28 : -2147483648 ≤ x8) (h29 : x8 ≤ 2147483647) : -2147483648 ≤ 100 * x0 := by omega
theorem o36_114 {x0 x1 x2 x3 x4 x5 x6 x7 x8 : Int} (h0 : 0 ≤ x0) (h1 : x0 ≤ 60) (h2 : 0 ≤ x1) (h3 : x1 ≤ 24) (h4 : 0 ≤ x2) (h5 : x2 ≤ 3) (h6 : x3 = 100 * x0) (h7 : x4 = 4 * x1) (h8 : x5 = x3 + x4) (h9 : x6 = x5 + x2) (h10 : x7 = 25 * x0) (h11 : x8 = x7 + x1) (h12 : -2147483648 ≤ x0) (h13 : x0 ≤ 2147483647) (h14 : -2147483648 ≤ x1) (h15 : x1 ≤ 2147483647) (h16 : -2147483648 ≤ x2) (h17 : x2 ≤ 2147483647) (h18 : -2147483648 ≤ x3) (h19 : x3 ≤ 2147483647) (h20 : -2147483648 ≤ x4) (h21 : x4 ≤ 2147483647) (h22 : -2147483648 ≤ x5) (h23 : x5 ≤ 2147483647) (h24 : -2147483648 ≤ x6) (h25 : x6 ≤ 2147483647) (h26 : -2147483648 ≤ x7) (h27 : x7 ≤ 2147483647) (h28 : -2147483648 ≤ x8) (h29 : x8 ≤ 2147483647) : 100 * x0 ≤ 2147483647 := by omega
theorem o36_115 {x0 x1 x2 x3 x4 x5 x6 x7 x8 x9 : Int} (h0 : 0 ≤ x1) (h1 : x1 ≤ 60) (h2 : 0 ≤ x0) (h3 : x0 ≤ 24) (h4 : 0 ≤ x2) (h5 : x2 ≤ 3) (h6 : x3 = 100 * x1) (h7 : x4 = 4 * x0) (h8 : x5 = x3 + x4) (h9 : x6 = x5 + x2) (h10 : x7 = 25 * x1) (h11 : x8 = x7 + x0) (h12 : x9 = 100 * x1) (h13 : -2147483648 ≤ x0) (h14 : x0 ≤ 2147483647) (h15 : -2147483648 ≤ x1) (h16 : x1 ≤ 2147483647) (h17 : -2147483648 ≤ x2) (h18 : x2 ≤ 2147483647) (h19 : -2147483648 ≤ x3) (h20 : x3 ≤ 2147483647) (h21 : -2147483648 ≤ x4) (h22 : x4 ≤ 2147483647) (h23 : -2147483648 ≤ x5) (h24 : x5 ≤ 2147483647) (h25 : -2147483648 ≤ x6) (h26 : x6 ≤ 2147483647) (h27 : -2147483648 ≤ x7) (h28 : x7 ≤ 2147483647) (h29 : -2147483648 ≤ x8) (h30 : x8 ≤ 2147483647) (h31 : -2147483648 ≤ x9) (h32 : x9 ≤ 2147483647) : -2147483648 ≤ 4 * x0 := by omega
theorem o36_116 {x0 x1 x2 x3 x4 x5 x6 x7 x8 x9 : Int} (h0 : 0 ≤ x1) (h1 : x1 ≤ 60) (h2 : 0 ≤ x0) (h3 : x0 ≤ 24) (h4 : 0 ≤ x2) (h5 : x2 ≤ 3) (h6 : x3 = 100 * x1) (h7 : x4 = 4 * x0) (h8 : x5 = x3 + x4) (h9 : x6 = x5 + x2) (h10 : x7 = 25 * x1) (h11 : x8 = x7 + x0) (h12 : x9 = 100 * x1) (h13 : -2147483648 ≤ x0) (h14 : x0 ≤ 2147483647) (h15 : -2147483648 ≤ x1) (h16 : x1 ≤ 2147483647) (h17 : -2147483648 ≤ x2) (h18 : x2 ≤ 2147483647) (h19 : -2147483648 ≤ x3) (h20 : x3 ≤ 2147483647) (h21 : -2147483648 ≤ x4) (h22 : x4 ≤ 2147483647) (h23 : -2147483648 ≤ x5) (h24 : x5 ≤ 2147483647) (h25 : -2147483648 ≤ x6) (h26 : x6 ≤ 2147483647) (h27 : -2147483648 ≤ x7) (h28 : x7 ≤ 2147483647) (h29 : -2147483648 ≤ x8) (h30 : x8 ≤ 2147483647) (h31 : -2147483648 ≤ x9) (h32 : x9 ≤ 2147483647) : 4 * x0 ≤ 2147483647 := by omega
theorem o36_117 {x0 x1 x2 x3 x4 x5 x6 x7 x8 x9 x10 : Int} (h0 : 0 ≤ x2) (h1 : x2 ≤ 60) (h2 : 0 ≤ x3) (h3 : x3 ≤ 24) (h4 : 0 ≤ x4) (h5 : x4 ≤ 3) (h6 : x5 = 100 * x2) (h7 : x6 = 4 * x3) (h8 : x7 = x5 + x6) (h9 : x8 = x7 + x4) (h10 : x9 = 25 * x2) (h11 : x10 = x9 + x3) (h12 : x0 = 100 * x2) (h13 : x1 = 4 * x3) (h14 : -2147483648 ≤ x0) (h15 : x0 ≤ 2147483647) (h16 : -2147483648 ≤ x1) (h17 : x1 ≤ 2147483647) (h18 : -2147483648 ≤ x2) (h19 : x2 ≤ 2147483647) (h20 : -2147483648 ≤ x3) (h21 : x3 ≤ 2147483647) (h22 : -2147483648 ≤ x4) (h23 : x4 ≤ 2147483647) (h24 : -2147483648 ≤ x5) (h25 : x5 ≤ 2147483647) (h26 : -2147483648 ≤ x6) (h27 : x6 ≤ 2147483647) (h28 : -2147483648 ≤ x7) (h29 : x7 ≤ 2147483647) (h30 : -2147483648 ≤ x8) (h31 : x8 ≤ 2147483647) (h32 : -2147483648 ≤ x9) (h33 : x9 ≤ 2147483647) (h34 : -2147483648 ≤ x10) (h35 : x10 ≤ 2147483647) : -2147483648 ≤ x0 + x1 := by omega
theorem o36_118 {x0 x1 x2 x3 x4 x5 x6 x7 x8 x9 x10 : Int} (h0 : 0 ≤ x2) (h1 : x2 ≤ 60) (h2 : 0 ≤ x3) (h3 : x3 ≤ 24) (h4 : 0 ≤ x4) (h5 : x4 ≤ 3) (h6 : x5 = 100 * x2) (h7 : x6 = 4 * x3) (h8 : x7 = x5 + x6) (h9 : x8 = x7 + x4) (h10 : x9 = 25 * x2) (h11 : x10 = x9 + x3) (h12 : x0 = 100 * x2) (h13 : x1 = 4 * x3) (h14 : -2147483648 ≤ x0) (h15 : x0 ≤ 2147483647) (h16 : -2147483648 ≤ x1) (h17 : x1 ≤ 2147483647) (h18 : -2147483648 ≤ x2) (h19 : x2 ≤ 2147483647) (h20 : -2147483648 ≤ x3) (h21 : x3 ≤ 2147483647) (h22 : -2147483648 ≤ x4) (h23 : x4 ≤ 2147483647) (h24 : -2147483648 ≤ x5) (h25 : x5 ≤ 2147483647) (h26 : -2147483648 ≤ x6) (h27 : x6 ≤ 2147483647) (h28 : -2147483648 ≤ x7) (h29 : x7 ≤ 2147483647) (h30 : -2147483648 ≤ x8) (h31 : x8 ≤ 2147483647) (h32 : -2147483648 ≤ x9) (h33 : x9 ≤ 2147483647) (h34 : -2147483648 ≤ x10) (h35 : x10 ≤ 2147483647) : x0 + x1 ≤ 2147483647 := by omega
theorem o36_119 {x0 x1 x2 x3 x4 x5 x6 x7 x8 x9 x10 x11 : Int} (h0 : 0 ≤ x2) (h1 : x2 ≤ 60) (h2 : 0 ≤ x3) (h3 : x3 ≤ 24) (h4 : 0 ≤ x1) (h5 : x1 ≤ 3) (h6 : x4 = 100 * x2) (h7 : x5 = 4 * x3) (h8 : x6 = x4 + x5) (h9 : x7 = x6 + x1) (h10 : x8 = 25 * x2) (h11 : x9 = x8 + x3) (h12 : x10 = 100 * x2) (h13 : x11 = 4 * x3) (h14 : x0 = x10 + x11) (h15 : -2147483648 ≤ x0) (h16 : x0 ≤ 2147483647) (h17 : -2147483648 ≤ x1) (h18 : x1 ≤ 2147483647) (h19 : -2147483648 ≤ x2) (h20 : x2 ≤ 2147483647) (h21 : -2147483648 ≤ x3) (h22 : x3 ≤ 2147483647) (h23 : -2147483648 ≤ x4) (h24 : x4 ≤ 2147483647) (h25 : -2147483648 ≤ x5) (h26 : x5 ≤ 2147483647) (h27 : -2147483648 ≤ x6) (h28 : x6 ≤ 2147483647) (h29 : -2147483648 ≤ x7) (h30 : x7 ≤ 2147483647) (h31 : -2147483648 ≤ x8) (h32 : x8 ≤ 2147483647) (h33 : -2147483648 ≤ x9) (h34 : x9 ≤ 2147483647) (h35 : -2147483648 ≤ x10) (h36 : x10 ≤ 2147483647) (h37 : -2147483648 ≤ x11) (h38 : x11 ≤ 2147483647) : -2147483648 ≤ x0 + x1 := by omega
theorem o36_120 {x0 x1 x2 x3 x4 x5 x6 x7 x8 x9 x10 x11 : Int} (h0 : 0 ≤ x2) (h1 : x2 ≤ 60) (h2 : 0 ≤ x3) (h3 : x3 ≤ 24) (h4 : 0 ≤ x1) (h5 : x1 ≤ 3) (h6 : x4 = 100 * x2) (h7 : x5 = 4 * x3) (h8 : x6 = x4 + x5) (h9 : x7 = x6 + x1) (h10 : x8 = 25 * x2) (h11 : x9 = x8 + x3) (h12 : x10 = 100 * x2) (h13 : x11 = 4 * x3) (h14 : x0 = x10 + x11) (h15 : -2147483648 ≤ x0) (h16 : x0 ≤ 2147483647) (h17 : -2147483648 ≤ x1) (h18 : x1 ≤ 2147483647) (h19 : -2147483648 ≤ x2) (h20 : x2 ≤ 2147483647) (h21 : -2147483648 ≤ x3) (h22 : x3 ≤ 2147483647) (h23 : -2147483648 ≤ x4) (h24 : x4 ≤ 2147483647) (h25 : -2147483648 ≤ x5) (h26 : x5 ≤ 2147483647) (h27 : -2147483648 ≤ x6) (h28 : x6 ≤ 2147483647) (h29 : -2147483648 ≤ x7) (h30 : x7 ≤ 2147483647) (h31 : -2147483648 ≤ x8) (h32 : x8 ≤ 2147483647) (h33 : -2147483648 ≤ x9) (h34 : x9 ≤ 2147483647) (h35 : -2147483648 ≤ x10) (h36 : x10 ≤ 2147483647) (h37 : -2147483648 ≤ x11) (h38 : x11 ≤ 2147483647) : x0 + x1 ≤ 2147483647 := by omega
theorem o36_121 {x0 x1 x2 x3 x4 x5 x6 x7 x8 x9 x10 x11 x12 : Int} (h0 : 0 ≤ x1) (h1 : x1 ≤ 60) (h2 : 0 ≤ x2) (h3 : x2 ≤ 24) (h4 : 0 ≤ x3) (h5 : x3 ≤ 3) (h6 : x4 = 100 * x1) (h7 : x5 = 4 * x2) (h8 : x6 = x4 + x5) (h9 : x7 = x6 + x3) (h10 : x8 = 25 * x1) (h11 : x9 = x8 + x2) (h12 : x10 = 100 * x1) (h13 : x11 = 4 * x2) (h14 : x12 = x10 + x11) (h15 : x0 = x12 + x3) : 0 ≤ x0 := by omega
theorem o36_122 {x0 x1 x2 x3 x4 x5 x6 x7 x8 x9 x10 x11 x12 : Int} (h0 : 0 ≤ x1) (h1 : x1 ≤ 60) (h2 : 0 ≤ x2) (h3 : x2 ≤ 24) (h4 : 0 ≤ x3) (h5 : x3 ≤ 3) (h6 : x4 = 100 * x1) (h7 : x5 = 4 * x2) (h8 : x6 = x4 + x5) (h9 : x7 = x6 + x3) (h10 : x8 = 25 * x1) (h11 : x9 = x8 + x2) (h12 : x10 = 100 * x1) (h13 : x11 = 4 * x2) (h14 : x12 = x10 + x11) (h15 : x0 = x12 + x3) : x0 < (6100 : Nat) := by omega
theorem o36_123 {x0 x1 x2 x3 x4 x5 x6 x7 x8 x9 x10 x11 x12 : Int} (h0 : 0 ≤ x1) (h1 : x1 ≤ 60) (h2 : 0 ≤ x0) (h3 : x0 ≤ 24) (h4 : 0 ≤ x2) (h5 : x2 ≤ 3) (h6 : x3 = 100 * x1) (h7 : x4 = 4 * x0) (h8 : x5 = x3 + x4) (h9 : x6 = x5 + x2) (h10 : x7 = 25 * x1) (h11 : x8 = x7 + x0) (h12 : x9 = 100 * x1) (h13 : x10 = 4 * x0) (h14 : x11 = x9 + x10) (h15 : x12 = x11 + x2) : x0 ≤ 24 := by omega
theorem o36_124 {x0 : Int} (h0 : 0 ≤ x0) (h1 : x0 ≤ 6100) (h2 : 6100 - x0 < 0) : False := by omega
theorem o36_125 {x0 x1 : Int} (h0 : 0 ≤ x0) (h1 : x0 ≤ 60) (h2 : x1 = 1) (h3 : -2147483648 ≤ x0) (h4 : x0 ≤ 2147483647) (h5 : -2147483648 ≤ x1) (h6 : x1 ≤ 2147483647) : -2147483648 ≤ x0 + x1 := by omega
theorem o36_126 {x0 x1 : Int} (h0 : 0 ≤ x0) (h1 : x0 ≤ 60) (h2 : x1 = 1) (h3 : -2147483648 ≤ x0) (h4 : x0 ≤ 2147483647) (h5 : -2147483648 ≤ x1) (h6 : x1 ≤ 2147483647) : x0 + x1 ≤ 2147483647 := by omega
theorem o36_127 {x0 x1 x2 : Int} (h0 : 0 ≤ x1) (h1 : x1 ≤ 60) (h2 : x2 = 1) (h3 : x0 = x1 + x2) (h4 : -2147483648 ≤ x0) (h5 : x0 ≤ 2147483647) (h6 : -2147483648 ≤ x1) (h7 : x1 ≤ 2147483647) (h8 : -2147483648 ≤ x2) (h9 : x2 ≤ 2147483647) : -2147483648 ≤ 100 * x0 := by omega
theorem o36_128 {x0 x1 x2 : Int} (h0 : 0 ≤ x1) (h1 : x1 ≤ 60) (h2 : x2 = 1) (h3 : x0 = x1 + x2) (h4 : -2147483648 ≤ x0) (h5 : x0 ≤ 2147483647) (h6 : -2147483648 ≤ x1) (h7 : x1 ≤ 2147483647) (h8 : -2147483648 ≤ x2) (h9 : x2 ≤ 2147483647) : 100 * x0 ≤ 2147483647 := by omega
theorem o36_129 {x0 x1 x2 : Int} (h0 : 0 ≤ x2) (h1 : x2 ≤ 24) (h2 : 0 ≤ x1) (h3 : x1 ≤ 3) (h4 : x0 = 4 * x2) (h5 : -2147483648 ≤ x0) (h6 : x0 ≤ 2147483647) (h7 : -2147483648 ≤ x1) (h8 : x1 ≤ 2147483647) (h9 : -2147483648 ≤ x2) (h10 : x2 ≤ 2147483647) : -2147483648 ≤ x0 + x1 := by omega
theorem o36_130 {x0 x1 x2 : Int} (h0 : 0 ≤ x2) (h1 : x2 ≤ 24) (h2 : 0 ≤ x1) (h3 : x1 ≤ 3) (h4 : x0 = 4 * x2) (h5 : -2147483648 ≤ x0) (h6 : x0 ≤ 2147483647) (h7 : -2147483648 ≤ x1) (h8 : x1 ≤ 2147483647) (h9 : -2147483648 ≤ x2) (h10 : x2 ≤ 2147483647) : x0 + x1 ≤ 2147483647 := by omega
theorem o36_131 {x0 x1 x2 x3 : Int} (h0 : 0 ≤ x1) (h1 : x1 ≤ 24) (h2 : 0 ≤ x2) (h3 : x2 ≤ 3) (h4 : x3 = 4 * x1) (h5 : x0 = x3 + x2) : 0 ≤ x0 := by omega
theorem o36_132 {x0 x1 x2 x3 : Int} (h0 : 0 ≤ x1) (h1 : x1 ≤ 24) (h2 : 0 ≤ x2) (h3 : x2 ≤ 3) (h4 : x3 = 4 * x1) (h5 : x0 = x3 + x2) : x0 < (6100 : Nat) := by omega
theorem o36_133 {x0 : Int} (h0 : 0 ≤ x0) (h1 : x0 ≤ 60) (h2 : 60 - x0 < 0) : False := by omega
theorem o36_134 {x0 : Int} (h0 : 0 ≤ x0) (h1 : x0 ≤ 100) (h2 : 100 - x0 < 0) : False := by omega
theorem o36_135 {x0 : Int} (h0 : 0 ≤ x0) (h1 : x0 ≤ 25) (h2 : -2147483648 ≤ x0) (h3 : x0 ≤ 2147483647) : -2147483648 ≤ 4 * x0 := by omega
theorem o36_136 {x0 : Int} (h0 : 0 ≤ x0) (h1 : x0 ≤ 25) (h2 : -2147483648 ≤ x0) (h3 : x0 ≤ 2147483647) : 4 * x0 ≤ 2147483647 := by omega
theorem o36_137 {x0 x1 x2 x4 x5 x6 : Int} {x3 x7 : Nat} (h0 : 0 ≤ x1) (h1 : x1 ≤ 60) (h2 : 0 ≤ x2) (h3 : x2 ≤ 6100) (h4 : 6100 - x2 < ((x3 + 1 : Nat) : Int)) (h5 : x4 = 1) (h6 : x5 = x1 + x4) (h7 : x6 = 100 * x5) (h8 : x6 ≤ x2) (h9 : 0 ≤ x0) (h10 : x0 ≤ 60) (h11 : 60 - x0 < ((x7 + 1 : Nat) : Int)) (h12 : x0 < x1) (h13 : -2147483648 ≤ x0) (h14 : x0 ≤ 2147483647) (h15 : -2147483648 ≤ x1) (h16 : x1 ≤ 2147483647) (h17 : -2147483648 ≤ x2) (h18 : x2 ≤ 2147483647) (h19 : -2147483648 ≤ x4) (h20 : x4 ≤ 2147483647) (h21 : -2147483648 ≤ x5) (h22 : x5 ≤ 2147483647) (h23 : -2147483648 ≤ x6) (h24 : x6 ≤ 2147483647) : -2147483648 ≤ x0 + 1 := by omega
theorem o36_138 {x0 x1 x2 x4 x5 x6 : Int} {x3 x7 : Nat} (h0 : 0 ≤ x1) (h1 : x1 ≤ 60) (h2 : 0 ≤ x2) (h3 : x2 ≤ 6100) (h4 : 6100 - x2 < ((x3 + 1 : Nat) : Int)) (h5 : x4 = 1) (h6 : x5 = x1 + x4) (h7 : x6 = 100 * x5) (h8 : x6 ≤ x2) (h9 : 0 ≤ x0) (h10 : x0 ≤ 60) (h11 : 60 - x0 < ((x7 + 1 : Nat) : Int)) (h12 : x0 < x1) (h13 : -2147483648 ≤ x0) (h14 : x0 ≤ 2147483647) (h15 : -2147483648 ≤ x1) (h16 : x1 ≤ 2147483647) (h17 : -2147483648 ≤ x2) (h18 : x2 ≤ 2147483647) (h19 : -2147483648 ≤ x4) (h20 : x4 ≤ 2147483647) (h21 : -2147483648 ≤ x5) (h22 : x5 ≤ 2147483647) (h23 : -2147483648 ≤ x6) (h24 : x6 ≤ 2147483647) : x0 + 1 ≤ 2147483647 := by omega
theorem o36_139 {x0 x2 x3 x5 x6 x7 x8 : Int} {x1 x4 : Nat} (h0 : 0 ≤ x2) (h1 : x2 ≤ 60) (h2 : 0 ≤ x3) (h3 : x3 ≤ 6100) (h4 : 6100 - x3 < ((x4 + 1 : Nat) : Int)) (h5 : x5 = 1) (h6 : x6 = x2 + x5) (h7 : x7 = 100 * x6) (h8 : x7 ≤ x3) (h9 : 0 ≤ x8) (h10 : x8 ≤ 60) (h11 : 60 - x8 < ((x1 + 1 : Nat) : Int)) (h12 : x8 < x2) (h13 : x0 = x8 + 1) : 60 - x0 < (x1 : Int) := by omega
theorem o36_140 {x0 x1 x2 x4 x5 x6 x7 : Int} {x3 x8 : Nat} (h0 : 0 ≤ x1) (h1 : x1 ≤ 60) (h2 : 0 ≤ x2) (h3 : x2 ≤ 6100) (h4 : 6100 - x2 < ((x3 + 1 : Nat) : Int)) (h5 : x4 = 1) (h6 : x5 = x1 + x4) (h7 : x6 = 100 * x5) (h8 : x6 ≤ x2) (h9 : 0 ≤ x7) (h10 : x7 ≤ 60) (h11 : 60 - x7 < ((x8 + 1 : Nat) : Int)) (h12 : x7 < x1) (h13 : x0 = x7 + 1) : 0 ≤ x0 := by omega
theorem o36_141 {x0 x1 x2 x4 x5 x6 x7 : Int} {x3 x8 : Nat} (h0 : 0 ≤ x1) (h1 : x1 ≤ 60) (h2 : 0 ≤ x2) (h3 : x2 ≤ 6100) (h4 : 6100 - x2 < ((x3 + 1 : Nat) : Int)) (h5 : x4 = 1) (h6 : x5 = x1 + x4) (h7 : x6 = 100 * x5) (h8 : x6 ≤ x2) (h9 : 0 ≤ x7) (h10 : x7 ≤ 60) (h11 : 60 - x7 < ((x8 + 1 : Nat) : Int)) (h12 : x7 < x1) (h13 : x0 = x7 + 1) : x0 ≤ 60 := by omega
theorem o36_142 {x0 x1 x2 x4 x5 x6 : Int} {x3 x7 : Nat} (h0 : 0 ≤ x1) (h1 : x1 ≤ 60) (h2 : 0 ≤ x2) (h3 : x2 ≤ 6100) (h4 : 6100 - x2 < ((x3 + 1 : Nat) : Int)) (h5 : x4 = 1) (h6 : x5 = x1 + x4) (h7 : x6 = 100 * x5) (h8 : x6 ≤ x2) (h9 : 0 ≤ x0) (h10 : x0 ≤ 60) (h11 : 60 - x0 < ((x7 + 1 : Nat) : Int)) (h12 : x0 < x1) (h13 : -2147483648 ≤ x0) (h14 : x0 ≤ 2147483647) (h15 : -2147483648 ≤ x1) (h16 : x1 ≤ 2147483647) (h17 : -2147483648 ≤ x2) (h18 : x2 ≤ 2147483647) (h19 : -2147483648 ≤ x4) (h20 : x4 ≤ 2147483647) (h21 : -2147483648 ≤ x5) (h22 : x5 ≤ 2147483647) (h23 : -2147483648 ≤ x6) (h24 : x6 ≤ 2147483647) : -2147483648 ≤ 100 * x0 := by omega
theorem o36_143 {x0 x1 x2 x4 x5 x6 : Int} {x3 x7 : Nat} (h0 : 0 ≤ x1) (h1 : x1 ≤ 60) (h2 : 0 ≤ x2) (h3 : x2 ≤ 6100) (h4 : 6100 - x2 < ((x3 + 1 : Nat) : Int)) (h5 : x4 = 1) (h6 : x5 = x1 + x4) (h7 : x6 = 100 * x5) (h8 : x6 ≤ x2) (h9 : 0 ≤ x0) (h10 : x0 ≤ 60) (h11 : 60 - x0 < ((x7 + 1 : Nat) : Int)) (h12 : x0 < x1) (h13 : -2147483648 ≤ x0) (h14 : x0 ≤ 2147483647) (h15 : -2147483648 ≤ x1) (h16 : x1 ≤ 2147483647) (h17 : -2147483648 ≤ x2) (h18 : x2 ≤ 2147483647) (h19 : -2147483648 ≤ x4) (h20 : x4 ≤ 2147483647) (h21 : -2147483648 ≤ x5) (h22 : x5 ≤ 2147483647) (h23 : -2147483648 ≤ x6) (h24 : x6 ≤ 2147483647) : 100 * x0 ≤ 2147483647 := by omega
theorem o36_144 {x0 x1 x2 x3 x5 x6 x7 x8 x11 x12 : Int} {x4 x9 x10 : Nat} (h0 : 0 ≤ x2) (h1 : x2 ≤ 60) (h2 : 0 ≤ x3) (h3 : x3 ≤ 6100) (h4 : 6100 - x3 < ((x4 + 1 : Nat) : Int)) (h5 : x5 = 1) (h6 : x6 = x2 + x5) (h7 : x7 = 100 * x6) (h8 : x7 ≤ x3) (h9 : 0 ≤ x8) (h10 : x8 ≤ 60) (h11 : 60 - x8 < ((x9 + 1 : Nat) : Int)) (h12 : x8 < x2) (h13 : 0 ≤ x1) (h14 : x1 ≤ 100) (h15 : 100 - x1 < ((x10 + 1 : Nat) : Int)) (h16 : 0 ≤ x11) (h17 : x11 ≤ 25) (h18 : x12 = 4 * x11) (h19 : x1 < x12) (h20 : x0 = 100 * x8) (h21 : -2147483648 ≤ x0) (h22 : x0 ≤ 2147483647) (h23 : -2147483648 ≤ x1) (h24 : x1 ≤ 2147483647) (h25 : -2147483648 ≤ x2) (h26 : x2 ≤ 2147483647) (h27 : -2147483648 ≤ x3) (h28 : x3 ≤ 2147483647) (h29 : -2147483648 ≤ x5) (h30 : x5 ≤ 2147483647) (h31 : -2147483648 ≤ x6) (h32 : x6 ≤ 2147483647) (h33 : -2147483648 ≤ x7) (h34 : x7 ≤ 2147483647) (h35 : -2147483648 ≤ x8) (h36 : x8 ≤ 2147483647) (h37 : -2147483648 ≤ x11) (h38 : x11 ≤ 2147483647) (h39 : -2147483648 ≤ x12) (h40 : x12 ≤ 2147483647) : -2147483648 ≤ x0 + x1 := by omega
theorem o36_145 {x0 x1 x2 x3 x5 x6 x7 x8 x11 x12 : Int} {x4 x9 x10 : Nat} (h0 : 0 ≤ x2) (h1 : x2 ≤ 60) (h2 : 0 ≤ x3) (h3 : x3 ≤ 6100) (h4 : 6100 - x3 < ((x4 + 1 : Nat) : Int)) (h5 : x5 = 1) (h6 : x6 = x2 + x5) (h7 : x7 = 100 * x6) (h8 : x7 ≤ x3) (h9 : 0 ≤ x8) (h10 : x8 ≤ 60) (h11 : 60 - x8 < ((x9 + 1 : Nat) : Int)) (h12 : x8 < x2) (h13 : 0 ≤ x1) (h14 : x1 ≤ 100) (h15 : 100 - x1 < ((x10 + 1 : Nat) : Int)) (h16 : 0 ≤ x11) (h17 : x11 ≤ 25) (h18 : x12 = 4 * x11) (h19 : x1 < x12) (h20 : x0 = 100 * x8) (h21 : -2147483648 ≤ x0) (h22 : x0 ≤ 2147483647) (h23 : -2147483648 ≤ x1) (h24 : x1 ≤ 2147483647) (h25 : -2147483648 ≤ x2) (h26 : x2 ≤ 2147483647) (h27 : -2147483648 ≤ x3) (h28 : x3 ≤ 2147483647) (h29 : -2147483648 ≤ x5) (h30 : x5 ≤ 2147483647) (h31 : -2147483648 ≤ x6) (h32 : x6 ≤ 2147483647) (h33 : -2147483648 ≤ x7) (h34 : x7 ≤ 2147483647) (h35 : -2147483648 ≤ x8) (h36 : x8 ≤ 2147483647) (h37 : -2147483648 ≤ x11) (h38 : x11 ≤ 2147483647) (h39 : -2147483648 ≤ x12) (h40 : x12 ≤ 2147483647) : x0 + x1 ≤ 2147483647 := by omega
theorem o36_146 {x0 x1 x2 x4 x5 x6 x7 x9 x11 x12 x13 : Int} {x3 x8 x10 : Nat} (h0 : 0 ≤ x1) (h1 : x1 ≤ 60) (h2 : 0 ≤ x2) (h3 : x2 ≤ 6100) (h4 : 6100 - x2 < ((x3 + 1 : Nat) : Int)) (h5 : x4 = 1) (h6 : x5 = x1 + x4) (h7 : x6 = 100 * x5) (h8 : x6 ≤ x2) (h9 : 0 ≤ x7) (h10 : x7 ≤ 60) (h11 : 60 - x7 < ((x8 + 1 : Nat) : Int)) (h12 : x7 < x1) (h13 : 0 ≤ x9) (h14 : x9 ≤ 100) (h15 : 100 - x9 < ((x10 + 1 : Nat) : Int)) (h16 : 0 ≤ x11) (h17 : x11 ≤ 25) (h18 : x12 = 4 * x11) (h19 : x9 < x12) (h20 : x13 = 100 * x7) (h21 : x0 = x13 + x9) : 0 ≤ x0 := by omega
theorem o36_147 {x0 x1 x2 x4 x5 x6 x7 x9 x11 x12 x13 : Int} {x3 x8 x10 : Nat} (h0 : 0 ≤ x1) (h1 : x1 ≤ 60) (h2 : 0 ≤ x2) (h3 : x2 ≤ 6100) (h4 : 6100 - x2 < ((x3 + 1 : Nat) : Int)) (h5 : x4 = 1) (h6 : x5 = x1 + x4) (h7 : x6 = 100 * x5) (h8 : x6 ≤ x2) (h9 : 0 ≤ x7) (h10 : x7 ≤ 60) (h11 : 60 - x7 < ((x8 + 1 : Nat) : Int)) (h12 : x7 < x1) (h13 : 0 ≤ x9) (h14 : x9 ≤ 100) (h15 : 100 - x9 < ((x10 + 1 : Nat) : Int)) (h16 : 0 ≤ x11) (h17 : x11 ≤ 25) (h18 : x12 = 4 * x11) (h19 : x9 < x12) (h20 : x13 = 100 * x7) (h21 : x0 = x13 + x9) : x0 < (6100 : Nat) := by omega
theorem o36_148 {x0 x1 : Int} (h0 : x1 = 1000000000) (h1 : ¬ x0 = x1) : ¬ x0 = 1000000000 := by omega
theorem o36_149 {x0 x1 : Int} (h0 : x1 = 1000000000) (h1 : x0 = x1) : x0 = 1000000000 := by omega
theorem o36_150 {x0 x1 x2 x4 x5 x6 x7 x10 x11 x12 x13 : Int} {x3 x8 x9 : Nat} (h0 : 0 ≤ x1) (h1 : x1 ≤ 60) (h2 : 0 ≤ x2) (h3 : x2 ≤ 6100) (h4 : 6100 - x2 < ((x3 + 1 : Nat) : Int)) (h5 : x4 = 1) (h6 : x5 = x1 + x4) (h7 : x6 = 100 * x5) (h8 : x6 ≤ x2) (h9 : 0 ≤ x7) (h10 : x7 ≤ 60) (h11 : 60 - x7 < ((x8 + 1 : Nat) : Int)) (h12 : x7 < x1) (h13 : 0 ≤ x0) (h14 : x0 ≤ 100) (h15 : 100 - x0 < ((x9 + 1 : Nat) : Int)) (h16 : 0 ≤ x10) (h17 : x10 ≤ 25) (h18 : x11 = 4 * x10) (h19 : x0 < x11) (h20 : x12 = 100 * x7) (h21 : x13 = x12 + x0) (h22 : -2147483648 ≤ x0) (h23 : x0 ≤ 2147483647) (h24 : -2147483648 ≤ x1) (h25 : x1 ≤ 2147483647) (h26 : -2147483648 ≤ x2) (h27 : x2 ≤ 2147483647) (h28 : -2147483648 ≤ x4) (h29 : x4 ≤ 2147483647) (h30 : -2147483648 ≤ x5) (h31 : x5 ≤ 2147483647) (h32 : -2147483648 ≤ x6) (h33 : x6 ≤ 2147483647) (h34 : -2147483648 ≤ x7) (h35 : x7 ≤ 2147483647) (h36 : -2147483648 ≤ x10) (h37 : x10 ≤ 2147483647) (h38 : -2147483648 ≤ x11) (h39 : x11 ≤ 2147483647) (h40 : -2147483648 ≤ x12) (h41 : x12 ≤ 2147483647) (h42 : -2147483648 ≤ x13) (h43 : x13 ≤ 2147483647) : -2147483648 ≤ x0 + 1 := by omega
theorem o36_151 {x0 x1 x2 x4 x5 x6 x7 x10 x11 x12 x13 : Int} {x3 x8 x9 : Nat} (h0 : 0 ≤ x1) (h1 : x1 ≤ 60) (h2 : 0 ≤ x2) (h3 : x2 ≤ 6100) (h4 : 6100 - x2 < ((x3 + 1 : Nat) : Int)) (h5 : x4 = 1) (h6 : x5 = x1 + x4) (h7 : x6 = 100 * x5) (h8 : x6 ≤ x2) (h9 : 0 ≤ x7) (h10 : x7 ≤ 60) (h11 : 60 - x7 < ((x8 + 1 : Nat) : Int)) (h12 : x7 < x1) (h13 : 0 ≤ x0) (h14 : x0 ≤ 100) (h15 : 100 - x0 < ((x9 + 1 : Nat) : Int)) (h16 : 0 ≤ x10) (h17 : x10 ≤ 25) (h18 : x11 = 4 * x10) (h19 : x0 < x11) (h20 : x12 = 100 * x7) (h21 : x13 = x12 + x0) (h22 : -2147483648 ≤ x0) (h23 : x0 ≤ 2147483647) (h24 : -2147483648 ≤ x1) (h25 : x1 ≤ 2147483647) (h26 : -2147483648 ≤ x2) (h27 : x2 ≤ 2147483647) (h28 : -2147483648 ≤ x4) (h29 : x4 ≤ 2147483647) (h30 : -2147483648 ≤ x5) (h31 : x5 ≤ 2147483647) (h32 : -2147483648 ≤ x6) (h33 : x6 ≤ 2147483647) (h34 : -2147483648 ≤ x7) (h35 : x7 ≤ 2147483647) (h36 : -2147483648 ≤ x10) (h37 : x10 ≤ 2147483647) (h38 : -2147483648 ≤ x11) (h39 : x11 ≤ 2147483647) (h40 : -2147483648 ≤ x12) (h41 : x12 ≤ 2147483647) (h42 : -2147483648 ≤ x13) (h43 : x13 ≤ 2147483647) : x0 + 1 ≤ 2147483647 := by omega
theorem o36_152 {x0 x2 x3 x5 x6 x7 x8 x10 x11 x12 x13 x14 : Int} {x1 x4 x9 : Nat} (h0 : 0 ≤ x2) (h1 : x2 ≤ 60) (h2 : 0 ≤ x3) (h3 : x3 ≤ 6100) (h4 : 6100 - x3 < ((x4 + 1 : Nat) : Int)) (h5 : x5 = 1) (h6 : x6 = x2 + x5) (h7 : x7 = 100 * x6) (h8 : x7 ≤ x3) (h9 : 0 ≤ x8) (h10 : x8 ≤ 60) (h11 : 60 - x8 < ((x9 + 1 : Nat) : Int)) (h12 : x8 < x2) (h13 : 0 ≤ x10) (h14 : x10 ≤ 100) (h15 : 100 - x10 < ((x1 + 1 : Nat) : Int)) (h16 : 0 ≤ x11) (h17 : x11 ≤ 25) (h18 : x12 = 4 * x11) (h19 : x10 < x12) (h20 : x13 = 100 * x8) (h21 : x14 = x13 + x10) (h22 : x0 = x10 + 1) : 100 - x0 < (x1 : Int) := by omega
theorem o36_153 {x0 x1 x2 x4 x5 x6 x7 x9 x11 x12 x13 x14 : Int} {x3 x8 x10 : Nat} (h0 : 0 ≤ x1) (h1 : x1 ≤ 60) (h2 : 0 ≤ x2) (h3 : x2 ≤ 6100) (h4 : 6100 - x2 < ((x3 + 1 : Nat) : Int)) (h5 : x4 = 1) (h6 : x5 = x1 + x4) (h7 : x6 = 100 * x5) (h8 : x6 ≤ x2) (h9 : 0 ≤ x7) (h10 : x7 ≤ 60) (h11 : 60 - x7 < ((x8 + 1 : Nat) : Int)) (h12 : x7 < x1) (h13 : 0 ≤ x9) (h14 : x9 ≤ 100) (h15 : 100 - x9 < ((x10 + 1 : Nat) : Int)) (h16 : 0 ≤ x11) (h17 : x11 ≤ 25) (h18 : x12 = 4 * x11) (h19 : x9 < x12) (h20 : x13 = 100 * x7) (h21 : x14 = x13 + x9) (h22 : x0 = x9 + 1) : 0 ≤ x0 := by omega
theorem o36_154 {x0 x1 x2 x4 x5 x6 x7 x9 x11 x12 x13 x14 : Int} {x3 x8 x10 : Nat} (h0 : 0 ≤ x1) (h1 : x1 ≤ 60) (h2 : 0 ≤ x2) (h3 : x2 ≤ 6100) (h4 : 6100 - x2 < ((x3 + 1 : Nat) : Int)) (h5 : x4 = 1) (h6 : x5 = x1 + x4) (h7 : x6 = 100 * x5) (h8 : x6 ≤ x2) (h9 : 0 ≤ x7) (h10 : x7 ≤ 60) (h11 : 60 - x7 < ((x8 + 1 : Nat) : Int)) (h12 : x7 < x1) (h13 : 0 ≤ x9) (h14 : x9 ≤ 100) (h15 : 100 - x9 < ((x10 + 1 : Nat) : Int)) (h16 : 0 ≤ x11) (h17 : x11 ≤ 25) (h18 : x12 = 4 * x11) (h19 : x9 < x12) (h20 : x13 = 100 * x7) (h21 : x14 = x13 + x9) (h22 : x0 = x9 + 1) : x0 ≤ 100 := by omega
theorem o36_155 {x0 x1 x2 x4 x5 x6 x7 x10 x11 x12 x13 : Int} {x3 x8 x9 : Nat} (h0 : 0 ≤ x1) (h1 : x1 ≤ 60) (h2 : 0 ≤ x2) (h3 : x2 ≤ 6100) (h4 : 6100 - x2 < ((x3 + 1 : Nat) : Int)) (h5 : x4 = 1) (h6 : x5 = x1 + x4) (h7 : x6 = 100 * x5) (h8 : x6 ≤ x2) (h9 : 0 ≤ x7) (h10 : x7 ≤ 60) (h11 : 60 - x7 < ((x8 + 1 : Nat) : Int)) (h12 : x7 < x1) (h13 : 0 ≤ x0) (h14 : x0 ≤ 100) (h15 : 100 - x0 < ((x9 + 1 : Nat) : Int)) (h16 : 0 ≤ x10) (h17 : x10 ≤ 25) (h18 : x11 = 4 * x10) (h19 : x0 < x11) (h20 : x12 = 100 * x7) (h21 : x13 = x12 + x0) : 0 ≤ x0 := by omega
theorem o36_156 {x0 x1 x2 x4 x5 x6 x7 x10 x11 x12 x13 x14 : Int} {x3 x8 x9 : Nat} (h0 : 0 ≤ x1) (h1 : x1 ≤ 60) (h2 : 0 ≤ x2) (h3 : x2 ≤ 6100) (h4 : 6100 - x2 < ((x3 + 1 : Nat) : Int)) (h5 : x4 = 1) (h6 : x5 = x1 + x4) (h7 : x6 = 100 * x5) (h8 : x6 ≤ x2) (h9 : 0 ≤ x7) (h10 : x7 ≤ 60) (h11 : 60 - x7 < ((x8 + 1 : Nat) : Int)) (h12 : x7 < x1) (h13 : 0 ≤ x0) (h14 : x0 ≤ 100) (h15 : 100 - x0 < ((x9 + 1 : Nat) : Int)) (h16 : 0 ≤ x10) (h17 : x10 ≤ 25) (h18 : x11 = 4 * x10) (h19 : x0 < x11) (h20 : x12 = 100 * x7) (h21 : x13 = x12 + x0) (h22 : x14 = x0 / 4) : 0 ≤ x0 := by omega
theorem o36_157 {x0 x1 x2 x4 x5 x6 x8 x10 x11 x12 x13 x14 x15 : Int} {x3 x7 x9 : Nat} (h0 : 0 ≤ x1) (h1 : x1 ≤ 60) (h2 : 0 ≤ x2) (h3 : x2 ≤ 6100) (h4 : 6100 - x2 < ((x3 + 1 : Nat) : Int)) (h5 : x4 = 1) (h6 : x5 = x1 + x4) (h7 : x6 = 100 * x5) (h8 : x6 ≤ x2) (h9 : 0 ≤ x0) (h10 : x0 ≤ 60) (h11 : 60 - x0 < ((x7 + 1 : Nat) : Int)) (h12 : x0 < x1) (h13 : 0 ≤ x8) (h14 : x8 ≤ 100) (h15 : 100 - x8 < ((x9 + 1 : Nat) : Int)) (h16 : 0 ≤ x10) (h17 : x10 ≤ 25) (h18 : x11 = 4 * x10) (h19 : x8 < x11) (h20 : x12 = 100 * x0) (h21 : x13 = x12 + x8) (h22 : x14 = x8 / 4) (h23 : x15 = x8 % 4) : 0 ≤ x0 := by omega
theorem o36_158 {x0 x1 x2 x4 x5 x6 x8 x10 x11 x12 x13 x14 x15 : Int} {x3 x7 x9 : Nat} (h0 : 0 ≤ x1) (h1 : x1 ≤ 60) (h2 : 0 ≤ x2) (h3 : x2 ≤ 6100) (h4 : 6100 - x2 < ((x3 + 1 : Nat) : Int)) (h5 : x4 = 1) (h6 : x5 = x1 + x4) (h7 : x6 = 100 * x5) (h8 : x6 ≤ x2) (h9 : 0 ≤ x0) (h10 : x0 ≤ 60) (h11 : 60 - x0 < ((x7 + 1 : Nat) : Int)) (h12 : x0 < x1) (h13 : 0 ≤ x8) (h14 : x8 ≤ 100) (h15 : 100 - x8 < ((x9 + 1 : Nat) : Int)) (h16 : 0 ≤ x10) (h17 : x10 ≤ 25) (h18 : x11 = 4 * x10) (h19 : x8 < x11) (h20 : x12 = 100 * x0) (h21 : x13 = x12 + x8) (h22 : x14 = x8 / 4) (h23 : x15 = x8 % 4) : x0 ≤ 60 := by omega
theorem o36_159 {x0 x1 x2 x4 x5 x6 x7 x9 x11 x12 x13 x14 x15 : Int} {x3 x8 x10 : Nat} (h0 : 0 ≤ x1) (h1 : x1 ≤ 60) (h2 : 0 ≤ x2) (h3 : x2 ≤ 6100) (h4 : 6100 - x2 < ((x3 + 1 : Nat) : Int)) (h5 : x4 = 1) (h6 : x5 = x1 + x4) (h7 : x6 = 100 * x5) (h8 : x6 ≤ x2) (h9 : 0 ≤ x7) (h10 : x7 ≤ 60) (h11 : 60 - x7 < ((x8 + 1 : Nat) : Int)) (h12 : x7 < x1) (h13 : 0 ≤ x9) (h14 : x9 ≤ 100) (h15 : 100 - x9 < ((x10 + 1 : Nat) : Int)) (h16 : 0 ≤ x11) (h17 : x11 ≤ 25) (h18 : x12 = 4 * x11) (h19 : x9 < x12) (h20 : x13 = 100 * x7) (h21 : x14 = x13 + x9) (h22 : x0 = x9 / 4) (h23 : x15 = x9 % 4) : 0 ≤ x0 := by omega
theorem o36_160 {x0 x1 x2 x4 x5 x6 x7 x9 x11 x12 x13 x14 x15 : Int} {x3 x8 x10 : Nat} (h0 : 0 ≤ x1) (h1 : x1 ≤ 60) (h2 : 0 ≤ x2) (h3 : x2 ≤ 6100) (h4 : 6100 - x2 < ((x3 + 1 : Nat) : Int)) (h5 : x4 = 1) (h6 : x5 = x1 + x4) (h7 : x6 = 100 * x5) (h8 : x6 ≤ x2) (h9 : 0 ≤ x7) (h10 : x7 ≤ 60) (h11 : 60 - x7 < ((x8 + 1 : Nat) : Int)) (h12 : x7 < x1) (h13 : 0 ≤ x9) (h14 : x9 ≤ 100) (h15 : 100 - x9 < ((x10 + 1 : Nat) : Int)) (h16 : 0 ≤ x11) (h17 : x11 ≤ 25) (h18 : x12 = 4 * x11) (h19 : x9 < x12) (h20 : x13 = 100 * x7) (h21 : x14 = x13 + x9) (h22 : x0 = x9 / 4) (h23 : x15 = x9 % 4) : x0 ≤ 24 := by omega
theorem o36_161 {x0 x1 x2 x4 x5 x6 x7 x9 x11 x12 x13 x14 x15 : Int} {x3 x8 x10 : Nat} (h0 : 0 ≤ x1) (h1 : x1 ≤ 60) (h2 : 0 ≤ x2) (h3 : x2 ≤ 6100) (h4 : 6100 - x2 < ((x3 + 1 : Nat) : Int)) (h5 : x4 = 1) (h6 : x5 = x1 + x4) (h7 : x6 = 100 * x5) (h8 : x6 ≤ x2) (h9 : 0 ≤ x7) (h10 : x7 ≤ 60) (h11 : 60 - x7 < ((x8 + 1 : Nat) : Int)) (h12 : x7 < x1) (h13 : 0 ≤ x9) (h14 : x9 ≤ 100) (h15 : 100 - x9 < ((x10 + 1 : Nat) : Int)) (h16 : 0 ≤ x11) (h17 : x11 ≤ 25) (h18 : x12 = 4 * x11) (h19 : x9 < x12) (h20 : x13 = 100 * x7) (h21 : x14 = x13 + x9) (h22 : x15 = x9 / 4) (h23 : x0 = x9 % 4) : 0 ≤ x0 := by omega
theorem o36_162 {x0 x1 x2 x4 x5 x6 x7 x9 x11 x12 x13 x14 x15 : Int} {x3 x8 x10 : Nat} (h0 : 0 ≤ x1) (h1 : x1 ≤ 60) (h2 : 0 ≤ x2) (h3 : x2 ≤ 6100) (h4 : 6100 - x2 < ((x3 + 1 : Nat) : Int)) (h5 : x4 = 1) (h6 : x5 = x1 + x4) (h7 : x6 = 100 * x5) (h8 : x6 ≤ x2) (h9 : 0 ≤ x7) (h10 : x7 ≤ 60) (h11 : 60 - x7 < ((x8 + 1 : Nat) : Int)) (h12 : x7 < x1) (h13 : 0 ≤ x9) (h14 : x9 ≤ 100) (h15 : 100 - x9 < ((x10 + 1 : Nat) : Int)) (h16 : 0 ≤ x11) (h17 : x11 ≤ 25) (h18 : x12 = 4 * x11) (h19 : x9 < x12) (h20 : x13 = 100 * x7) (h21 : x14 = x13 + x9) (h22 : x15 = x9 / 4) (h23 : x0 = x9 % 4) : x0 ≤ 3 := by omega
theorem o36_163 {x0 x2 : Int} {x1 : Nat} (h0 : 0 ≤ x0) (h1 : x0 ≤ 4) (h2 : 4 - x0 < ((x1 + 1 : Nat) : Int)) (h3 : x2 = 4) (h4 : x0 < x2) : 0 ≤ x0 := by omega
theorem o36_164 {x0 x2 : Int} {x1 : Nat} (h0 : 0 ≤ x0) (h1 : x0 ≤ 4) (h2 : 4 - x0 < ((x1 + 1 : Nat) : Int)) (h3 : x2 = 4) (h4 : x0 < x2) : x0 ≤ 3 := by omega
theorem o36_165 {x0 x1 x2 x4 x5 x6 x7 x10 x11 x12 x13 x14 x15 : Int} {x3 x8 x9 : Nat} (h0 : 0 ≤ x1) (h1 : x1 ≤ 60) (h2 : 0 ≤ x2) (h3 : x2 ≤ 6100) (h4 : 6100 - x2 < ((x3 + 1 : Nat) : Int)) (h5 : x4 = 1) (h6 : x5 = x1 + x4) (h7 : x6 = 100 * x5) (h8 : x6 ≤ x2) (h9 : 0 ≤ x7) (h10 : x7 ≤ 60) (h11 : 60 - x7 < ((x8 + 1 : Nat) : Int)) (h12 : x7 < x1) (h13 : 0 ≤ x0) (h14 : x0 ≤ 100) (h15 : 100 - x0 < ((x9 + 1 : Nat) : Int)) (h16 : 0 ≤ x10) (h17 : x10 ≤ 25) (h18 : x11 = 4 * x10) (h19 : x0 < x11) (h20 : x12 = 100 * x7) (h21 : x13 = x12 + x0) (h22 : x14 = x0 / 4) (h23 : x15 = x0 % 4) : 0 ≤ x0 := by omega
theorem o36_166 {x0 x1 x2 x4 x5 x6 x7 x9 x11 x12 x13 x14 x15 x16 : Int} {x3 x8 x10 : Nat} (h0 : 0 ≤ x1) (h1 : x1 ≤ 60) (h2 : 0 ≤ x2) (h3 : x2 ≤ 6100) (h4 : 6100 - x2 < ((x3 + 1 : Nat) : Int)) (h5 : x4 = 1) (h6 : x5 = x1 + x4) (h7 : x6 = 100 * x5) (h8 : x6 ≤ x2) (h9 : 0 ≤ x7) (h10 : x7 ≤ 60) (h11 : 60 - x7 < ((x8 + 1 : Nat) : Int)) (h12 : x7 < x1) (h13 : 0 ≤ x9) (h14 : x9 ≤ 100) (h15 : 100 - x9 < ((x10 + 1 : Nat) : Int)) (h16 : 0 ≤ x11) (h17 : x11 ≤ 25) (h18 : x12 = 4 * x11) (h19 : x9 < x12) (h20 : x13 = 100 * x7) (h21 : x14 = x13 + x9) (h22 : x15 = x9 / 4) (h23 : x16 = x9 % 4) (h24 : x0 = x9 % 4) : 0 ≤ x0 := by omega
theorem o36_167 {x0 x1 x2 x4 x5 x6 x7 x9 x11 x12 x13 x14 x15 x16 : Int} {x3 x8 x10 : Nat} (h0 : 0 ≤ x1) (h1 : x1 ≤ 60) (h2 : 0 ≤ x2) (h3 : x2 ≤ 6100) (h4 : 6100 - x2 < ((x3 + 1 : Nat) : Int)) (h5 : x4 = 1) (h6 : x5 = x1 + x4) (h7 : x6 = 100 * x5) (h8 : x6 ≤ x2) (h9 : 0 ≤ x7) (h10 : x7 ≤ 60) (h11 : 60 - x7 < ((x8 + 1 : Nat) : Int)) (h12 : x7 < x1) (h13 : 0 ≤ x9) (h14 : x9 ≤ 100) (h15 : 100 - x9 < ((x10 + 1 : Nat) : Int)) (h16 : 0 ≤ x11) (h17 : x11 ≤ 25) (h18 : x12 = 4 * x11) (h19 : x9 < x12) (h20 : x13 = 100 * x7) (h21 : x14 = x13 + x9) (h22 : x15 = x9 / 4) (h23 : x16 = x9 % 4) (h24 : x0 = x9 % 4) : x0 ≤ 3 := by omega
theorem o36_168 {x0 x1 x2 x3 x5 x6 x7 x9 x11 x12 x13 x14 x15 x16 x17 : Int} {x4 x8 x10 : Nat} (h0 : 0 ≤ x2) (h1 : x2 ≤ 60) (h2 : 0 ≤ x3) (h3 : x3 ≤ 6100) (h4 : 6100 - x3 < ((x4 + 1 : Nat) : Int)) (h5 : x5 = 1) (h6 : x6 = x2 + x5) (h7 : x7 = 100 * x6) (h8 : x7 ≤ x3) (h9 : 0 ≤ x0) (h10 : x0 ≤ 60) (h11 : 60 - x0 < ((x8 + 1 : Nat) : Int)) (h12 : x0 < x2) (h13 : 0 ≤ x9) (h14 : x9 ≤ 100) (h15 : 100 - x9 < ((x10 + 1 : Nat) : Int)) (h16 : 0 ≤ x11) (h17 : x11 ≤ 25) (h18 : x12 = 4 * x11) (h19 : x9 < x12) (h20 : x13 = 100 * x0) (h21 : x14 = x13 + x9) (h22 : x15 = x9 / 4) (h23 : x16 = x9 % 4) (h24 : x17 = x9 % 4) (h25 : x1 = 1) (h26 : -2147483648 ≤ x0) (h27 : x0 ≤ 2147483647) (h28 : -2147483648 ≤ x1) (h29 : x1 ≤ 2147483647) (h30 : -2147483648 ≤ x2) (h31 : x2 ≤ 2147483647) (h32 : -2147483648 ≤ x3) (h33 : x3 ≤ 2147483647) (h34 : -2147483648 ≤ x5) (h35 : x5 ≤ 2147483647) (h36 : -2147483648 ≤ x6) (h37 : x6 ≤ 2147483647) (h38 : -2147483648 ≤ x7) (h39 : x7 ≤ 2147483647) (h40 : -2147483648 ≤ x9) (h41 : x9 ≤ 2147483647) (h42 : -2147483648 ≤ x11) (h43 : x11 ≤ 2147483647) (h44 : -2147483648 ≤ x12) (h45 : x12 ≤ 2147483647) (h46 : -2147483648 ≤ x13) (h47 : x13 ≤ 2147483647) (h48 : -2147483648 ≤ x14) (h49 : x14 ≤ 2147483647) (h50 : -2147483648 ≤ x15) (h51 : x15 ≤ 2147483647) (h52 : -2147483648 ≤ x16) (h53 : x16 ≤ 2147483647) (h54 : -2147483648 ≤ x17) (h55 : x17 ≤ 2147483647) : -2147483648 ≤ x0 + x1 := by omega
theorem o36_169 {x0 x1 x2 x3 x5 x6 x7 x9 x11 x12 x13 x14 x15 x16 x17 : Int} {x4 x8 x10 : Nat} (h0 : 0 ≤ x2) (h1 : x2 ≤ 60) (h2 : 0 ≤ x3) (h3 : x3 ≤ 6100) (h4 : 6100 - x3 < ((x4 + 1 : Nat) : Int)) (h5 : x5 = 1) (h6 : x6 = x2 + x5) (h7 : x7 = 100 * x6) (h8 : x7 ≤ x3) (h9 : 0 ≤ x0) (h10 : x0 ≤ 60) (h11 : 60 - x0 < ((x8 + 1 : Nat) : Int)) (h12 : x0 < x2) (h13 : 0 ≤ x9) (h14 : x9 ≤ 100) (h15 : 100 - x9 < ((x10 + 1 : Nat) : Int)) (h16 : 0 ≤ x11) (h17 : x11 ≤ 25) (h18 : x12 = 4 * x11) (h19 : x9 < x12) (h20 : x13 = 100 * x0) (h21 : x14 = x13 + x9) (h22 : x15 = x9 / 4) (h23 : x16 = x9 % 4) (h24 : x17 = x9 % 4) (h25 : x1 = 1) (h26 : -2147483648 ≤ x0) (h27 : x0 ≤ 2147483647) (h28 : -2147483648 ≤ x1) (h29 : x1 ≤ 2147483647) (h30 : -2147483648 ≤ x2) (h31 : x2 ≤ 2147483647) (h32 : -2147483648 ≤ x3) (h33 : x3 ≤ 2147483647) (h34 : -2147483648 ≤ x5) (h35 : x5 ≤ 2147483647) (h36 : -2147483648 ≤ x6) (h37 : x6 ≤ 2147483647) (h38 : -2147483648 ≤ x7) (h39 : x7 ≤ 2147483647) (h40 : -2147483648 ≤ x9) (h41 : x9 ≤ 2147483647) (h42 : -2147483648 ≤ x11) (h43 : x11 ≤ 2147483647) (h44 : -2147483648 ≤ x12) (h45 : x12 ≤ 2147483647) (h46 : -2147483648 ≤ x13) (h47 : x13 ≤ 2147483647) (h48 : -2147483648 ≤ x14) (h49 : x14 ≤ 2147483647) (h50 : -2147483648 ≤ x15) (h51 : x15 ≤ 2147483647) (h52 : -2147483648 ≤ x16) (h53 : x16 ≤ 2147483647) (h54 : -2147483648 ≤ x17) (h55 : x17 ≤ 2147483647) : x0 + x1 ≤ 2147483647 := by omega
theorem o36_170 {x0 x1 x2 x4 x5 x6 x7 x9 x11 x12 x13 x14 x15 x16 x17 x18 : Int} {x3 x8 x10 : Nat} (h0 : 0 ≤ x1) (h1 : x1 ≤ 60) (h2 : 0 ≤ x2) (h3 : x2 ≤ 6100) (h4 : 6100 - x2 < ((x3 + 1 : Nat) : Int)) (h5 : x4 = 1) (h6 : x5 = x1 + x4) (h7 : x6 = 100 * x5) (h8 : x6 ≤ x2) (h9 : 0 ≤ x7) (h10 : x7 ≤ 60) (h11 : 60 - x7 < ((x8 + 1 : Nat) : Int)) (h12 : x7 < x1) (h13 : 0 ≤ x9) (h14 : x9 ≤ 100) (h15 : 100 - x9 < ((x10 + 1 : Nat) : Int)) (h16 : 0 ≤ x11) (h17 : x11 ≤ 25) (h18 : x12 = 4 * x11) (h19 : x9 < x12) (h20 : x13 = 100 * x7) (h21 : x14 = x13 + x9) (h22 : x15 = x9 / 4) (h23 : x16 = x9 % 4) (h24 : x17 = x9 % 4) (h25 : x18 = 1) (h26 : x0 = x7 + x18) (h27 : -2147483648 ≤ x0) (h28 : x0 ≤ 2147483647) (h29 : -2147483648 ≤ x1) (h30 : x1 ≤ 2147483647) (h31 : -2147483648 ≤ x2) (h32 : x2 ≤ 2147483647) (h33 : -2147483648 ≤ x4) (h34 : x4 ≤ 2147483647) (h35 : -2147483648 ≤ x5) (h36 : x5 ≤ 2147483647) (h37 : -2147483648 ≤ x6) (h38 : x6 ≤ 2147483647) (h39 : -2147483648 ≤ x7) (h40 : x7 ≤ 2147483647) (h41 : -2147483648 ≤ x9) (h42 : x9 ≤ 2147483647) (h43 : -2147483648 ≤ x11) (h44 : x11 ≤ 2147483647) (h45 : -2147483648 ≤ x12) (h46 : x12 ≤ 2147483647) (h47 : -2147483648 ≤ x13) (h48 : x13 ≤ 2147483647) (h49 : -2147483648 ≤ x14) (h50 : x14 ≤ 2147483647) (h51 : -2147483648 ≤ x15) (h52 : x15 ≤ 2147483647) (h53 : -2147483648 ≤ x16) (h54 : x16 ≤ 2147483647) (h55 : -2147483648 ≤ x17) (h56 : x17 ≤ 2147483647) (h57 : -2147483648 ≤ x18) (h58 : x18 ≤ 2147483647) : -2147483648 ≤ 100 * x0 := by omega
theorem o36_171 {x0 x1 x2 x4 x5 x6 x7 x9 x11 x12 x13 x14 x15 x16 x17 x18 : Int} {x3 x8 x10 : Nat} (h0 : 0 ≤ x1) (h1 : x1 ≤ 60) (h2 : 0 ≤ x2) (h3 : x2 ≤ 6100) (h4 : 6100 - x2 < ((x3 + 1 : Nat) : Int)) (h5 : x4 = 1) (h6 : x5 = x1 + x4) (h7 : x6 = 100 * x5) (h8 : x6 ≤ x2) (h9 : 0 ≤ x7) (h10 : x7 ≤ 60) (h11 : 60 - x7 < ((x8 + 1 : Nat) : Int)) (h12 : x7 < x1) (h13 : 0 ≤ x9) (h14 : x9 ≤ 100) (h15 : 100 - x9 < ((x10 + 1 : Nat) : Int)) (h16 : 0 ≤ x11) (h17 : x11 ≤ 25) (h18 : x12 = 4 * x11) (h19 : x9 < x12) (h20 : x13 = 100 * x7) (h21 : x14 = x13 + x9) (h22 : x15 = x9 / 4) (h23 : x16 = x9 % 4) (h24 : x17 = x9 % 4) (h25 : x18 = 1) (h26 : x0 = x7 + x18) (h27 : -2147483648 ≤ x0) (h28 : x0 ≤ 2147483647) (h29 : -2147483648 ≤ x1) (h30 : x1 ≤ 2147483647) (h31 : -2147483648 ≤ x2) (h32 : x2 ≤ 2147483647) (h33 : -2147483648 ≤ x4) (h34 : x4 ≤ 2147483647) (h35 : -2147483648 ≤ x5) (h36 : x5 ≤ 2147483647) (h37 : -2147483648 ≤ x6) (h38 : x6 ≤ 2147483647) (h39 : -2147483648 ≤ x7) (h40 : x7 ≤ 2147483647) (h41 : -2147483648 ≤ x9) (h42 : x9 ≤ 2147483647) (h43 : -2147483648 ≤ x11) (h44 : x11 ≤ 2147483647) (h45 : -2147483648 ≤ x12) (h46 : x12 ≤ 2147483647) (h47 : -2147483648 ≤ x13) (h48 : x13 ≤ 2147483647) (h49 : -2147483648 ≤ x14) (h50 : x14 ≤ 2147483647) (h51 : -2147483648 ≤ x15) (h52 : x15 ≤ 2147483647) (h53 : -2147483648 ≤ x16) (h54 : x16 ≤ 2147483647) (h55 : -2147483648 ≤ x17) (h56 : x17 ≤ 2147483647) (h57 : -2147483648 ≤ x18) (h58 : x18 ≤ 2147483647) : 100 * x0 ≤ 2147483647 := by omega
theorem o36_172 {x0 x1 x2 x4 x5 x6 x7 x10 x11 x12 x13 x14 x15 x16 x17 x18 x19 : Int} {x3 x8 x9 : Nat} (h0 : 0 ≤ x1) (h1 : x1 ≤ 60) (h2 : 0 ≤ x2) (h3 : x2 ≤ 6100) (h4 : 6100 - x2 < ((x3 + 1 : Nat) : Int)) (h5 : x4 = 1) (h6 : x5 = x1 + x4) (h7 : x6 = 100 * x5) (h8 : x6 ≤ x2) (h9 : 0 ≤ x7) (h10 : x7 ≤ 60) (h11 : 60 - x7 < ((x8 + 1 : Nat) : Int)) (h12 : x7 < x1) (h13 : 0 ≤ x0) (h14 : x0 ≤ 100) (h15 : 100 - x0 < ((x9 + 1 : Nat) : Int)) (h16 : 0 ≤ x10) (h17 : x10 ≤ 25) (h18 : x11 = 4 * x10) (h19 : x0 < x11) (h20 : x12 = 100 * x7) (h21 : x13 = x12 + x0) (h22 : x14 = x0 / 4) (h23 : x15 = x0 % 4) (h24 : x16 = x0 % 4) (h25 : x17 = 1) (h26 : x18 = x7 + x17) (h27 : x19 = 100 * x18) : 0 ≤ x0 := by omega
theorem o36_173 {x0 x1 x2 x4 x5 x6 x7 x9 x11 x12 x13 x14 x15 x16 x17 x18 x19 x20 : Int} {x3 x8 x10 : Nat} (h0 : 0 ≤ x1) (h1 : x1 ≤ 60) (h2 : 0 ≤ x2) (h3 : x2 ≤ 6100) (h4 : 6100 - x2 < ((x3 + 1 : Nat) : Int)) (h5 : x4 = 1) (h6 : x5 = x1 + x4) (h7 : x6 = 100 * x5) (h8 : x6 ≤ x2) (h9 : 0 ≤ x7) (h10 : x7 ≤ 60) (h11 : 60 - x7 < ((x8 + 1 : Nat) : Int)) (h12 : x7 < x1) (h13 : 0 ≤ x9) (h14 : x9 ≤ 100) (h15 : 100 - x9 < ((x10 + 1 : Nat) : Int)) (h16 : 0 ≤ x11) (h17 : x11 ≤ 25) (h18 : x12 = 4 * x11) (h19 : x9 < x12) (h20 : x13 = 100 * x7) (h21 : x14 = x13 + x9) (h22 : x15 = x9 / 4) (h23 : x16 = x9 % 4) (h24 : x17 = x9 % 4) (h25 : x18 = 1) (h26 : x19 = x7 + x18) (h27 : x20 = 100 * x19) (h28 : x0 = x9 / 4) : 0 ≤ x0 := by omega
theorem o36_174 {x0 x1 x2 x4 x5 x6 x7 x9 x11 x12 x13 x14 x15 x16 x17 x18 x19 x20 : Int} {x3 x8 x10 : Nat} (h0 : 0 ≤ x1) (h1 : x1 ≤ 60) (h2 : 0 ≤ x2) (h3 : x2 ≤ 6100) (h4 : 6100 - x2 < ((x3 + 1 : Nat) : Int)) (h5 : x4 = 1) (h6 : x5 = x1 + x4) (h7 : x6 = 100 * x5) (h8 : x6 ≤ x2) (h9 : 0 ≤ x7) (h10 : x7 ≤ 60) (h11 : 60 - x7 < ((x8 + 1 : Nat) : Int)) (h12 : x7 < x1) (h13 : 0 ≤ x9) (h14 : x9 ≤ 100) (h15 : 100 - x9 < ((x10 + 1 : Nat) : Int)) (h16 : 0 ≤ x11) (h17 : x11 ≤ 25) (h18 : x12 = 4 * x11) (h19 : x9 < x12) (h20 : x13 = 100 * x7) (h21 : x14 = x13 + x9) (h22 : x15 = x9 / 4) (h23 : x16 = x9 % 4) (h24 : x17 = x9 % 4) (h25 : x18 = 1) (h26 : x19 = x7 + x18) (h27 : x20 = 100 * x19) (h28 : x0 = x9 / 4) : x0 ≤ 24 := by omega
theorem o36_175 {x0 x1 x2 x3 x5 x6 x7 x8 x10 x12 x13 x14 x15 x16 x17 x18 x19 x20 : Int} {x4 x9 x11 : Nat} (h0 : 0 ≤ x2) (h1 : x2 ≤ 60) (h2 : 0 ≤ x3) (h3 : x3 ≤ 6100) (h4 : 6100 - x3 < ((x4 + 1 : Nat) : Int)) (h5 : x5 = 1) (h6 : x6 = x2 + x5) (h7 : x7 = 100 * x6) (h8 : x7 ≤ x3) (h9 : 0 ≤ x8) (h10 : x8 ≤ 60) (h11 : 60 - x8 < ((x9 + 1 : Nat) : Int)) (h12 : x8 < x2) (h13 : 0 ≤ x10) (h14 : x10 ≤ 100) (h15 : 100 - x10 < ((x11 + 1 : Nat) : Int)) (h16 : 0 ≤ x12) (h17 : x12 ≤ 25) (h18 : x13 = 4 * x12) (h19 : x10 < x13) (h20 : x14 = 100 * x8) (h21 : x15 = x14 + x10) (h22 : x1 = x10 / 4) (h23 : x16 = x10 % 4) (h24 : x17 = x10 % 4) (h25 : x18 = 1) (h26 : x19 = x8 + x18) (h27 : x20 = 100 * x19) (h28 : x0 = x10 / 4) : x0 = x1 := by omega
theorem o36_176 {x0 x1 x2 x4 x5 x6 x7 x9 x11 x12 x13 x14 x15 x16 x17 x18 x19 x20 : Int} {x3 x8 x10 : Nat} (h0 : 0 ≤ x1) (h1 : x1 ≤ 60) (h2 : 0 ≤ x2) (h3 : x2 ≤ 6100) (h4 : 6100 - x2 < ((x3 + 1 : Nat) : Int)) (h5 : x4 = 1) (h6 : x5 = x1 + x4) (h7 : x6 = 100 * x5) (h8 : x6 ≤ x2) (h9 : 0 ≤ x7) (h10 : x7 ≤ 60) (h11 : 60 - x7 < ((x8 + 1 : Nat) : Int)) (h12 : x7 < x1) (h13 : 0 ≤ x9) (h14 : x9 ≤ 100) (h15 : 100 - x9 < ((x10 + 1 : Nat) : Int)) (h16 : 0 ≤ x11) (h17 : x11 ≤ 25) (h18 : x12 = 4 * x11) (h19 : x9 < x12) (h20 : x13 = 100 * x7) (h21 : x14 = x13 + x9) (h22 : x0 = x9 / 4) (h23 : x15 = x9 % 4) (h24 : x16 = x9 % 4) (h25 : x17 = 1) (h26 : x18 = x7 + x17) (h27 : x19 = 100 * x18) (h28 : x20 = x9 / 4) : x0 ≤ 24 := by omega
theorem o36_177 {x0 x1 x2 x3 x5 x6 x7 x8 x10 x12 x13 x14 x15 x16 x17 x18 x19 x20 : Int} {x4 x9 x11 : Nat} (h0 : 0 ≤ x2) (h1 : x2 ≤ 60) (h2 : 0 ≤ x3) (h3 : x3 ≤ 6100) (h4 : 6100 - x3 < ((x4 + 1 : Nat) : Int)) (h5 : x5 = 1) (h6 : x6 = x2 + x5) (h7 : x7 = 100 * x6) (h8 : x7 ≤ x3) (h9 : 0 ≤ x8) (h10 : x8 ≤ 60) (h11 : 60 - x8 < ((x9 + 1 : Nat) : Int)) (h12 : x8 < x2) (h13 : 0 ≤ x10) (h14 : x10 ≤ 100) (h15 : 100 - x10 < ((x11 + 1 : Nat) : Int)) (h16 : 0 ≤ x12) (h17 : x12 ≤ 25) (h18 : x13 = 4 * x12) (h19 : x10 < x13) (h20 : x14 = 100 * x8) (h21 : x15 = x14 + x10) (h22 : x16 = x10 / 4) (h23 : x1 = x10 % 4) (h24 : x0 = x10 % 4) (h25 : x17 = 1) (h26 : x18 = x8 + x17) (h27 : x19 = 100 * x18) (h28 : x20 = x10 / 4) : x0 = x1 := by omega
theorem o36_178 {x0 x2 : Int} {x1 : Nat} (h0 : 0 ≤ x0) (h1 : x0 ≤ 4) (h2 : 4 - x0 < ((x1 + 1 : Nat) : Int)) (h3 : x2 = 4) (h4 : x0 < x2) : x0 = x0 := by omega
theorem o36_179 {x0 : Int} (h0 : (-1) ≤ x0) (h1 : x0 ≤ 24) (h2 : 0 ≤ x0) (h3 : -2147483648 ≤ x0) (h4 : x0 ≤ 2147483647) : -2147483648 ≤ 4 * x0 := by omega
theorem o36_180 {x0 : Int} (h0 : (-1) ≤ x0) (h1 : x0 ≤ 24) (h2 : 0 ≤ x0) (h3 : -2147483648 ≤ x0) (h4 : x0 ≤ 2147483647) : 4 * x0 ≤ 2147483647 := by omega
theorem o36_181 {x0 x1 x2 x3 x5 x6 x7 x8 x10 x12 x13 x14 x15 x16 x17 x18 x19 x20 x21 x22 : Int} {x4 x9 x11 : Nat} (h0 : 0 ≤ x2) (h1 : x2 ≤ 60) (h2 : 0 ≤ x3) (h3 : x3 ≤ 6100) (h4 : 6100 - x3 < ((x4 + 1 : Nat) : Int)) (h5 : x5 = 1) (h6 : x6 = x2 + x5) (h7 : x7 = 100 * x6) (h8 : x7 ≤ x3) (h9 : 0 ≤ x8) (h10 : x8 ≤ 60) (h11 : 60 - x8 < ((x9 + 1 : Nat) : Int)) (h12 : x8 < x2) (h13 : 0 ≤ x10) (h14 : x10 ≤ 100) (h15 : 100 - x10 < ((x11 + 1 : Nat) : Int)) (h16 : 0 ≤ x12) (h17 : x12 ≤ 25) (h18 : x13 = 4 * x12) (h19 : x10 < x13) (h20 : x14 = 100 * x8) (h21 : x15 = x14 + x10) (h22 : x16 = x10 / 4) (h23 : x17 = x10 % 4) (h24 : x18 = x10 % 4) (h25 : x19 = 1) (h26 : x20 = x8 + x19) (h27 : x0 = 100 * x20) (h28 : x21 = x10 / 4) (h29 : (-1) ≤ x22) (h30 : x22 ≤ 24) (h31 : 0 ≤ x22) (h32 : x1 = 4 * x22) (h33 : -2147483648 ≤ x0) (h34 : x0 ≤ 2147483647) (h35 : -2147483648 ≤ x1) (h36 : x1 ≤ 2147483647) (h37 : -2147483648 ≤ x2) (h38 : x2 ≤ 2147483647) (h39 : -2147483648 ≤ x3) (h40 : x3 ≤ 2147483647) (h41 : -2147483648 ≤ x5) (h42 : x5 ≤ 2147483647) (h43 : -2147483648 ≤ x6) (h44 : x6 ≤ 2147483647) (h45 : -2147483648 ≤ x7) (h46 : x7 ≤ 2147483647) (h47 : -2147483648 ≤ x8) (h48 : x8 ≤ 2147483647) (h49 : -2147483648 ≤ x10) (h50 : x10 ≤ 2147483647) (h51 : -2147483648 ≤ x12) (h52 : x12 ≤ 2147483647) (h53 : -2147483648 ≤ x13) (h54 : x13 ≤ 2147483647) (h55 : -2147483648 ≤ x14) (h56 : x14 ≤ 2147483647) (h57 : -2147483648 ≤ x15) (h58 : x15 ≤ 2147483647) (h59 : -2147483648 ≤ x16) (h60 : x16 ≤ 2147483647) (h61 : -2147483648 ≤ x17) (h62 : x17 ≤ 2147483647) (h63 : -2147483648 ≤ x18) (h64 : x18 ≤ 2147483647) (h65 : -2147483648 ≤ x19) (h66 : x19 ≤ 2147483647) (h67 : -2147483648 ≤ x20) (h68 : x20 ≤ 2147483647) (h69 : -2147483648 ≤ x21) (h70 : x21 ≤ 2147483647) (h71 : -2147483648 ≤ x22) (h72 : x22 ≤ 2147483647) : -2147483648 ≤ x0 + x1 := by omega
theorem o36_182 {x0 x1 x2 x3 x5 x6 x7 x8 x10 x12 x13 x14 x15 x16 x17 x18 x19 x20 x21 x22 : Int} {x4 x9 x11 : Nat} (h0 : 0 ≤ x2) (h1 : x2 ≤ 60) (h2 : 0 ≤ x3) (h3 : x3 ≤ 6100) (h4 : 6100 - x3 < ((x4 + 1 : Nat) : Int)) (h5 : x5 = 1) (h6 : x6 = x2 + x5) (h7 : x7 = 100 * x6) (h8 : x7 ≤ x3) (h9 : 0 ≤ x8) (h10 : x8 ≤ 60) (h11 : 60 - x8 < ((x9 + 1 : Nat) : Int)) (h12 : x8 < x2) (h13 : 0 ≤ x10) (h14 : x10 ≤ 100) (h15 : 100 - x10 < ((x11 + 1 : Nat) : Int)) (h16 : 0 ≤ x12) (h17 : x12 ≤ 25) (h18 : x13 = 4 * x12) (h19 : x10 < x13) (h20 : x14 = 100 * x8) (h21 : x15 = x14 + x10) (h22 : x16 = x10 / 4) (h23 : x17 = x10 % 4) (h24 : x18 = x10 % 4) (h25 : x19 = 1) (h26 : x20 = x8 + x19) (h27 : x0 = 100 * x20) (h28 : x21 = x10 / 4) (h29 : (-1) ≤ x22) (h30 : x22 ≤ 24) (h31 : 0 ≤ x22) (h32 : x1 = 4 * x22) (h33 : -2147483648 ≤ x0) (h34 : x0 ≤ 2147483647) (h35 : -2147483648 ≤ x1) (h36 : x1 ≤ 2147483647) (h37 : -2147483648 ≤ x2) (h38 : x2 ≤ 2147483647) (h39 : -2147483648 ≤ x3) (h40 : x3 ≤ 2147483647) (h41 : -2147483648 ≤ x5) (h42 : x5 ≤ 2147483647) (h43 : -2147483648 ≤ x6) (h44 : x6 ≤ 2147483647) (h45 : -2147483648 ≤ x7) (h46 : x7 ≤ 2147483647) (h47 : -2147483648 ≤ x8) (h48 : x8 ≤ 2147483647) (h49 : -2147483648 ≤ x10) (h50 : x10 ≤ 2147483647) (h51 : -2147483648 ≤ x12) (h52 : x12 ≤ 2147483647) (h53 : -2147483648 ≤ x13) (h54 : x13 ≤ 2147483647) (h55 : -2147483648 ≤ x14) (h56 : x14 ≤ 2147483647) (h57 : -2147483648 ≤ x15) (h58 : x15 ≤ 2147483647) (h59 : -2147483648 ≤ x16) (h60 : x16 ≤ 2147483647) (h61 : -2147483648 ≤ x17) (h62 : x17 ≤ 2147483647) (h63 : -2147483648 ≤ x18) (h64 : x18 ≤ 2147483647) (h65 : -2147483648 ≤ x19) (h66 : x19 ≤ 2147483647) (h67 : -2147483648 ≤ x20) (h68 : x20 ≤ 2147483647) (h69 : -2147483648 ≤ x21) (h70 : x21 ≤ 2147483647) (h71 : -2147483648 ≤ x22) (h72 : x22 ≤ 2147483647) : x0 + x1 ≤ 2147483647 := by omega
theorem o36_183 {x0 x1 x2 x3 x5 x6 x7 x8 x10 x12 x13 x14 x15 x16 x17 x18 x19 x20 x21 x22 x23 x24 : Int} {x4 x9 x11 : Nat} (h0 : 0 ≤ x2) (h1 : x2 ≤ 60) (h2 : 0 ≤ x3) (h3 : x3 ≤ 6100) (h4 : 6100 - x3 < ((x4 + 1 : Nat) : Int)) (h5 : x5 = 1) (h6 : x6 = x2 + x5) (h7 : x7 = 100 * x6) (h8 : x7 ≤ x3) (h9 : 0 ≤ x8) (h10 : x8 ≤ 60) (h11 : 60 - x8 < ((x9 + 1 : Nat) : Int)) (h12 : x8 < x2) (h13 : 0 ≤ x10) (h14 : x10 ≤ 100) (h15 : 100 - x10 < ((x11 + 1 : Nat) : Int)) (h16 : 0 ≤ x12) (h17 : x12 ≤ 25) (h18 : x13 = 4 * x12) (h19 : x10 < x13) (h20 : x14 = 100 * x8) (h21 : x15 = x14 + x10) (h22 : x16 = x10 / 4) (h23 : x17 = x10 % 4) (h24 : x18 = x10 % 4) (h25 : 0 ≤ x1) (h26 : x1 ≤ 3) (h27 : x19 = 1) (h28 : x20 = x8 + x19) (h29 : x21 = 100 * x20) (h30 : x22 = x10 / 4) (h31 : (-1) ≤ x23) (h32 : x23 ≤ 24) (h33 : 0 ≤ x23) (h34 : x24 = 4 * x23) (h35 : x0 = x21 + x24) (h36 : -2147483648 ≤ x0) (h37 : x0 ≤ 2147483647) (h38 : -2147483648 ≤ x1) (h39 : x1 ≤ 2147483647) (h40 : -2147483648 ≤ x2) (h41 : x2 ≤ 2147483647) (h42 : -2147483648 ≤ x3) (h43 : x3 ≤ 2147483647) (h44 : -2147483648 ≤ x5) (h45 : x5 ≤ 2147483647) (h46 : -2147483648 ≤ x6) (h47 : x6 ≤ 2147483647) (h48 : -2147483648 ≤ x7) (h49 : x7 ≤ 2147483647) (h50 : -2147483648 ≤ x8) (h51 : x8 ≤ 2147483647) (h52 : -2147483648 ≤ x10) (h53 : x10 ≤ 2147483647) (h54 : -2147483648 ≤ x12) (h55 : x12 ≤ 2147483647) (h56 : -2147483648 ≤ x13) (h57 : x13 ≤ 2147483647) (h58 : -2147483648 ≤ x14) (h59 : x14 ≤ 2147483647) (h60 : -2147483648 ≤ x15) (h61 : x15 ≤ 2147483647) (h62 : -2147483648 ≤ x16) (h63 : x16 ≤ 2147483647) (h64 : -2147483648 ≤ x17) (h65 : x17 ≤ 2147483647) (h66 : -2147483648 ≤ x18) (h67 : x18 ≤ 2147483647) (h68 : -2147483648 ≤ x19) (h69 : x19 ≤ 2147483647) (h70 : -2147483648 ≤ x20) (h71 : x20 ≤ 2147483647) (h72 : -2147483648 ≤ x21) (h73 : x21 ≤ 2147483647) (h74 : -2147483648 ≤ x22) (h75 : x22 ≤ 2147483647) (h76 : -2147483648 ≤ x23) (h77 : x23 ≤ 2147483647) (h78 : -2147483648 ≤ x24) (h79 : x24 ≤ 2147483647) : -2147483648 ≤ x0 + x1 := by omega
theorem o36_184 {x0 x1 x2 x3 x5 x6 x7 x8 x10 x12 x13 x14 x15 x16 x17 x18 x19 x20 x21 x22 x23 x24 : Int} {x4 x9 x11 : Nat} (h0 : 0 ≤ x2) (h1 : x2 ≤ 60) (h2 : 0 ≤ x3) (h3 : x3 ≤ 6100) (h4 : 6100 - x3 < ((x4 + 1 : Nat) : Int)) (h5 : x5 = 1) (h6 : x6 = x2 + x5) (h7 : x7 = 100 * x6) (h8 : x7 ≤ x3) (h9 : 0 ≤ x8) (h10 : x8 ≤ 60) (h11 : 60 - x8 < ((x9 + 1 : Nat) : Int)) (h12 : x8 < x2) (h13 : 0 ≤ x10) (h14 : x10 ≤ 100) (h15 : 100 - x10 < ((x11 + 1 : Nat) : Int)) (h16 : 0 ≤ x12) (h17 : x12 ≤ 25) (h18 : x13 = 4 * x12) (h19 : x10 < x13) (h20 : x14 = 100 * x8) (h21 : x15 = x14 + x10) (h22 : x16 = x10 / 4) (h23 : x17 = x10 % 4) (h24 : x18 = x10 % 4) (h25 : 0 ≤ x1) (h26 : x1 ≤ 3) (h27 : x19 = 1) (h28 : x20 = x8 + x19) (h29 : x21 = 100 * x20) (h30 : x22 = x10 / 4) (h31 : (-1) ≤ x23) (h32 : x23 ≤ 24) (h33 : 0 ≤ x23) (h34 : x24 = 4 * x23) (h35 : x0 = x21 + x24) (h36 : -2147483648 ≤ x0) (h37 : x0 ≤ 2147483647) (h38 : -2147483648 ≤ x1) (h39 : x1 ≤ 2147483647) (h40 : -2147483648 ≤ x2) (h41 : x2 ≤ 2147483647) (h42 : -2147483648 ≤ x3) (h43 : x3 ≤ 2147483647) (h44 : -2147483648 ≤ x5) (h45 : x5 ≤ 2147483647) (h46 : -2147483648 ≤ x6) (h47 : x6 ≤ 2147483647) (h48 : -2147483648 ≤ x7) (h49 : x7 ≤ 2147483647) (h50 : -2147483648 ≤ x8) (h51 : x8 ≤ 2147483647) (h52 : -2147483648 ≤ x10) (h53 : x10 ≤ 2147483647) (h54 : -2147483648 ≤ x12) (h55 : x12 ≤ 2147483647) (h56 : -2147483648 ≤ x13) (h57 : x13 ≤ 2147483647) (h58 : -2147483648 ≤ x14) (h59 : x14 ≤ 2147483647) (h60 : -2147483648 ≤ x15) (h61 : x15 ≤ 2147483647) (h62 : -2147483648 ≤ x16) (h63 : x16 ≤ 2147483647) (h64 : -2147483648 ≤ x17) (h65 : x17 ≤ 2147483647) (h66 : -2147483648 ≤ x18) (h67 : x18 ≤ 2147483647) (h68 : -2147483648 ≤ x19) (h69 : x19 ≤ 2147483647) (h70 : -2147483648 ≤ x20) (h71 : x20 ≤ 2147483647) (h72 : -2147483648 ≤ x21) (h73 : x21 ≤ 2147483647) (h74 : -2147483648 ≤ x22) (h75 : x22 ≤ 2147483647) (h76 : -2147483648 ≤ x23) (h77 : x23 ≤ 2147483647) (h78 : -2147483648 ≤ x24) (h79 : x24 ≤ 2147483647) : x0 + x1 ≤ 2147483647 := by omega
theorem o36_185 {x0 x1 x2 x4 x5 x6 x7 x9 x11 x12 x13 x14 x15 x16 x17 x18 x19 x20 x21 x22 x23 x24 x25 : Int} {x3 x8 x10 : Nat} (h0 : 0 ≤ x1) (h1 : x1 ≤ 60) (h2 : 0 ≤ x2) (h3 : x2 ≤ 6100) (h4 : 6100 - x2 < ((x3 + 1 : Nat) : Int)) (h5 : x4 = 1) (h6 : x5 = x1 + x4) (h7 : x6 = 100 * x5) (h8 : x6 ≤ x2) (h9 : 0 ≤ x7) (h10 : x7 ≤ 60) (h11 : 60 - x7 < ((x8 + 1 : Nat) : Int)) (h12 : x7 < x1) (h13 : 0 ≤ x9) (h14 : x9 ≤ 100) (h15 : 100 - x9 < ((x10 + 1 : Nat) : Int)) (h16 : 0 ≤ x11) (h17 : x11 ≤ 25) (h18 : x12 = 4 * x11) (h19 : x9 < x12) (h20 : x13 = 100 * x7) (h21 : x14 = x13 + x9) (h22 : x15 = x9 / 4) (h23 : x16 = x9 % 4) (h24 : x17 = x9 % 4) (h25 : 0 ≤ x18) (h26 : x18 ≤ 3) (h27 : x19 = 1) (h28 : x20 = x7 + x19) (h29 : x21 = 100 * x20) (h30 : x22 = x9 / 4) (h31 : (-1) ≤ x23) (h32 : x23 ≤ 24) (h33 : 0 ≤ x23) (h34 : x24 = 4 * x23) (h35 : x25 = x21 + x24) (h36 : x0 = x25 + x18) : 0 ≤ x0 := by omega
theorem o36_186 {x0 x1 x2 x4 x5 x6 x7 x9 x11 x12 x13 x14 x15 x16 x17 x18 x19 x20 x21 x22 x23 x24 x25 : Int} {x3 x8 x10 : Nat} (h0 : 0 ≤ x1) (h1 : x1 ≤ 60) (h2 : 0 ≤ x2) (h3 : x2 ≤ 6100) (h4 : 6100 - x2 < ((x3 + 1 : Nat) : Int)) (h5 : x4 = 1) (h6 : x5 = x1 + x4) (h7 : x6 = 100 * x5) (h8 : x6 ≤ x2) (h9 : 0 ≤ x7) (h10 : x7 ≤ 60) (h11 : 60 - x7 < ((x8 + 1 : Nat) : Int)) (h12 : x7 < x1) (h13 : 0 ≤ x9) (h14 : x9 ≤ 100) (h15 : 100 - x9 < ((x10 + 1 : Nat) : Int)) (h16 : 0 ≤ x11) (h17 : x11 ≤ 25) (h18 : x12 = 4 * x11) (h19 : x9 < x12) (h20 : x13 = 100 * x7) (h21 : x14 = x13 + x9) (h22 : x15 = x9 / 4) (h23 : x16 = x9 % 4) (h24 : x17 = x9 % 4) (h25 : 0 ≤ x18) (h26 : x18 ≤ 3) (h27 : x19 = 1) (h28 : x20 = x7 + x19) (h29 : x21 = 100 * x20) (h30 : x22 = x9 / 4) (h31 : (-1) ≤ x23) (h32 : x23 ≤ 24) (h33 : 0 ≤ x23) (h34 : x24 = 4 * x23) (h35 : x25 = x21 + x24) (h36 : x0 = x25 + x18) : x0 < (6100 : Nat) := by omega
theorem o36_187 {x0 x1 x2 x4 x5 x6 x8 x10 x11 x12 x13 x14 x15 x16 x17 x18 x19 x20 x21 x22 x23 x24 x25 : Int} {x3 x7 x9 : Nat} (h0 : 0 ≤ x1) (h1 : x1 ≤ 60) (h2 : 0 ≤ x2) (h3 : x2 ≤ 6100) (h4 : 6100 - x2 < ((x3 + 1 : Nat) : Int)) (h5 : x4 = 1) (h6 : x5 = x1 + x4) (h7 : x6 = 100 * x5) (h8 : x6 ≤ x2) (h9 : 0 ≤ x0) (h10 : x0 ≤ 60) (h11 : 60 - x0 < ((x7 + 1 : Nat) : Int)) (h12 : x0 < x1) (h13 : 0 ≤ x8) (h14 : x8 ≤ 100) (h15 : 100 - x8 < ((x9 + 1 : Nat) : Int)) (h16 : 0 ≤ x10) (h17 : x10 ≤ 25) (h18 : x11 = 4 * x10) (h19 : x8 < x11) (h20 : x12 = 100 * x0) (h21 : x13 = x12 + x8) (h22 : x14 = x8 / 4) (h23 : x15 = x8 % 4) (h24 : x16 = x8 % 4) (h25 : 0 ≤ x17) (h26 : x17 ≤ 3) (h27 : x18 = 1) (h28 : x19 = x0 + x18) (h29 : x20 = 100 * x19) (h30 : x21 = x8 / 4) (h31 : (-1) ≤ x22) (h32 : x22 ≤ 24) (h33 : 0 ≤ x22) (h34 : x23 = 4 * x22) (h35 : x24 = x20 + x23) (h36 : x25 = x24 + x17) (h37 : -2147483648 ≤ x0) (h38 : x0 ≤ 2147483647) (h39 : -2147483648 ≤ x1) (h40 : x1 ≤ 2147483647) (h41 : -2147483648 ≤ x2) (h42 : x2 ≤ 2147483647) (h43 : -2147483648 ≤ x4) (h44 : x4 ≤ 2147483647) (h45 : -2147483648 ≤ x5) (h46 : x5 ≤ 2147483647) (h47 : -2147483648 ≤ x6) (h48 : x6 ≤ 2147483647) (h49 : -2147483648 ≤ x8) (h50 : x8 ≤ 2147483647) (h51 : -2147483648 ≤ x10) (h52 : x10 ≤ 2147483647) (h53 : -2147483648 ≤ x11) (h54 : x11 ≤ 2147483647) (h55 : -2147483648 ≤ x12) (h56 : x12 ≤ 2147483647) (h57 : -2147483648 ≤ x13) (h58 : x13 ≤ 2147483647) (h59 : -2147483648 ≤ x14) (h60 : x14 ≤ 2147483647) (h61 : -2147483648 ≤ x15) (h62 : x15 ≤ 2147483647) (h63 : -2147483648 ≤ x16) (h64 : x16 ≤ 2147483647) (h65 : -2147483648 ≤ x17) (h66 : x17 ≤ 2147483647) (h67 : -2147483648 ≤ x18) (h68 : x18 ≤ 2147483647) (h69 : -2147483648 ≤ x19) (h70 : x19 ≤ 2147483647) (h71 : -2147483648 ≤ x20) (h72 : x20 ≤ 2147483647) (h73 : -2147483648 ≤ x21) (h74 : x21 ≤ 2147483647) (h75 : -2147483648 ≤ x22) (h76 : x22 ≤ 2147483647) (h77 : -2147483648 ≤ x23) (h78 : x23 ≤ 2147483647) (h79 : -2147483648 ≤ x24) (h80 : x24 ≤ 2147483647) (h81 : -2147483648 ≤ x25) (h82 : x25 ≤ 2147483647) : -2147483648 ≤ 100 * x0 := by omega
theorem o36_188 {x0 x1 x2 x4 x5 x6 x8 x10 x11 x12 x13 x14 x15 x16 x17 x18 x19 x20 x21 x22 x23 x24 x25 : Int} {x3 x7 x9 : Nat} (h0 : 0 ≤ x1) (h1 : x1 ≤ 60) (h2 : 0 ≤ x2) (h3 : x2 ≤ 6100) (h4 : 6100 - x2 < ((x3 + 1 : Nat) : Int)) (h5 : x4 = 1) (h6 : x5 = x1 + x4) (h7 : x6 = 100 * x5) (h8 : x6 ≤ x2) (h9 : 0 ≤ x0) (h10 : x0 ≤ 60) (h11 : 60 - x0 < ((x7 + 1 : Nat) : Int)) (h12 : x0 < x1) (h13 : 0 ≤ x8) (h14 : x8 ≤ 100) (h15 : 100 - x8 < ((x9 + 1 : Nat) : Int)) (h16 : 0 ≤ x10) (h17 : x10 ≤ 25) (h18 : x11 = 4 * x10) (h19 : x8 < x11) (h20 : x12 = 100 * x0) (h21 : x13 = x12 + x8) (h22 : x14 = x8 / 4) (h23 : x15 = x8 % 4) (h24 : x16 = x8 % 4) (h25 : 0 ≤ x17) (h26 : x17 ≤ 3) (h27 : x18 = 1) (h28 : x19 = x0 + x18) (h29 : x20 = 100 * x19) (h30 : x21 = x8 / 4) (h31 : (-1) ≤ x22) (h32 : x22 ≤ 24) (h33 : 0 ≤ x22) (h34 : x23 = 4 * x22) (h35 : x24 = x20 + x23) (h36 : x25 = x24 + x17) (h37 : -2147483648 ≤ x0) (h38 : x0 ≤ 2147483647) (h39 : -2147483648 ≤ x1) (h40 : x1 ≤ 2147483647) (h41 : -2147483648 ≤ x2) (h42 : x2 ≤ 2147483647) (h43 : -2147483648 ≤ x4) (h44 : x4 ≤ 2147483647) (h45 : -2147483648 ≤ x5) (h46 : x5 ≤ 2147483647) (h47 : -2147483648 ≤ x6) (h48 : x6 ≤ 2147483647) (h49 : -2147483648 ≤ x8) (h50 : x8 ≤ 2147483647) (h51 : -2147483648 ≤ x10) (h52 : x10 ≤ 2147483647) (h53 : -2147483648 ≤ x11) (h54 : x11 ≤ 2147483647) (h55 : -2147483648 ≤ x12) (h56 : x12 ≤ 2147483647) (h57 : -2147483648 ≤ x13) (h58 : x13 ≤ 2147483647) (h59 : -2147483648 ≤ x14) (h60 : x14 ≤ 2147483647) (h61 : -2147483648 ≤ x15) (h62 : x15 ≤ 2147483647) (h63 : -2147483648 ≤ x16) (h64 : x16 ≤ 2147483647) (h65 : -2147483648 ≤ x17) (h66 : x17 ≤ 2147483647) (h67 : -2147483648 ≤ x18) (h68 : x18 ≤ 2147483647) (h69 : -2147483648 ≤ x19) (h70 : x19 ≤ 2147483647) (h71 : -2147483648 ≤ x20) (h72 : x20 ≤ 2147483647) (h73 : -2147483648 ≤ x21) (h74 : x21 ≤ 2147483647) (h75 : -2147483648 ≤ x22) (h76 : x22 ≤ 2147483647) (h77 : -2147483648 ≤ x23) (h78 : x23 ≤ 2147483647) (h79 : -2147483648 ≤ x24) (h80 : x24 ≤ 2147483647) (h81 : -2147483648 ≤ x25) (h82 : x25 ≤ 2147483647) : 100 * x0 ≤ 2147483647 := by omega
theorem o36_189 {x0 x1 x2 x3 x5 x6 x7 x8 x11 x12 x13 x14 x15 x16 x17 x18 x19 x20 x21 x22 x23 x24 x25 x26 : Int} {x4 x9 x10 : Nat} (h0 : 0 ≤ x2) (h1 : x2 ≤ 60) (h2 : 0 ≤ x3) (h3 : x3 ≤ 6100) (h4 : 6100 - x3 < ((x4 + 1 : Nat) : Int)) (h5 : x5 = 1) (h6 : x6 = x2 + x5) (h7 : x7 = 100 * x6) (h8 : x7 ≤ x3) (h9 : 0 ≤ x8) (h10 : x8 ≤ 60) (h11 : 60 - x8 < ((x9 + 1 : Nat) : Int)) (h12 : x8 < x2) (h13 : 0 ≤ x1) (h14 : x1 ≤ 100) (h15 : 100 - x1 < ((x10 + 1 : Nat) : Int)) (h16 : 0 ≤ x11) (h17 : x11 ≤ 25) (h18 : x12 = 4 * x11) (h19 : x1 < x12) (h20 : x13 = 100 * x8) (h21 : x14 = x13 + x1) (h22 : x15 = x1 / 4) (h23 : x16 = x1 % 4) (h24 : x17 = x1 % 4) (h25 : 0 ≤ x18) (h26 : x18 ≤ 3) (h27 : x19 = 1) (h28 : x20 = x8 + x19) (h29 : x21 = 100 * x20) (h30 : x22 = x1 / 4) (h31 : (-1) ≤ x23) (h32 : x23 ≤ 24) (h33 : 0 ≤ x23) (h34 : x24 = 4 * x23) (h35 : x25 = x21 + x24) (h36 : x26 = x25 + x18) (h37 : x0 = 100 * x8) (h38 : -2147483648 ≤ x0) (h39 : x0 ≤ 2147483647) (h40 : -2147483648 ≤ x1) (h41 : x1 ≤ 2147483647) (h42 : -2147483648 ≤ x2) (h43 : x2 ≤ 2147483647) (h44 : -2147483648 ≤ x3) (h45 : x3 ≤ 2147483647) (h46 : -2147483648 ≤ x5) (h47 : x5 ≤ 2147483647) (h48 : -2147483648 ≤ x6) (h49 : x6 ≤ 2147483647) (h50 : -2147483648 ≤ x7) (h51 : x7 ≤ 2147483647) (h52 : -2147483648 ≤ x8) (h53 : x8 ≤ 2147483647) (h54 : -2147483648 ≤ x11) (h55 : x11 ≤ 2147483647) (h56 : -2147483648 ≤ x12) (h57 : x12 ≤ 2147483647) (h58 : -2147483648 ≤ x13) (h59 : x13 ≤ 2147483647) (h60 : -2147483648 ≤ x14) (h61 : x14 ≤ 2147483647) (h62 : -2147483648 ≤ x15) (h63 : x15 ≤ 2147483647) (h64 : -2147483648 ≤ x16) (h65 : x16 ≤ 2147483647) (h66 : -2147483648 ≤ x17) (h67 : x17 ≤ 2147483647) (h68 : -2147483648 ≤ x18) (h69 : x18 ≤ 2147483647) (h70 : -2147483648 ≤ x19) (h71 : x19 ≤ 2147483647) (h72 : -2147483648 ≤ x20) (h73 : x20 ≤ 2147483647) (h74 : -2147483648 ≤ x21) (h75 : x21 ≤ 2147483647) (h76 : -2147483648 ≤ x22) (h77 : x22 ≤ 2147483647) (h78 : -2147483648 ≤ x23) (h79 : x23 ≤ 2147483647) (h80 : -2147483648 ≤ x24) (h81 : x24 ≤ 2147483647) (h82 : -2147483648 ≤ x25) (h83 : x25 ≤ 2147483647) (h84 : -2147483648 ≤ x26) (h85 : x26 ≤ 2147483647) : -2147483648 ≤ x0 + x1 := by omega
theorem o36_190 {x0 x1 x2 x3 x5 x6 x7 x8 x11 x12 x13 x14 x15 x16 x17 x18 x19 x20 x21 x22 x23 x24 x25 x26 : Int} {x4 x9 x10 : Nat} (h0 : 0 ≤ x2) (h1 : x2 ≤ 60) (h2 : 0 ≤ x3) (h3 : x3 ≤ 6100) (h4 : 6100 - x3 < ((x4 + 1 : Nat) : Int)) (h5 : x5 = 1) (h6 : x6 = x2 + x5) (h7 : x7 = 100 * x6) (h8 : x7 ≤ x3) (h9 : 0 ≤ x8) (h10 : x8 ≤ 60) (h11 : 60 - x8 < ((x9 + 1 : Nat) : Int)) (h12 : x8 < x2) (h13 : 0 ≤ x1) (h14 : x1 ≤ 100) (h15 : 100 - x1 < ((x10 + 1 : Nat) : Int)) (h16 : 0 ≤ x11) (h17 : x11 ≤ 25) (h18 : x12 = 4 * x11) (h19 : x1 < x12) (h20 : x13 = 100 * x8) (h21 : x14 = x13 + x1) (h22 : x15 = x1 / 4) (h23 : x16 = x1 % 4) (h24 : x17 = x1 % 4) (h25 : 0 ≤ x18) (h26 : x18 ≤ 3) (h27 : x19 = 1) (h28 : x20 = x8 + x19) (h29 : x21 = 100 * x20) (h30 : x22 = x1 / 4) (h31 : (-1) ≤ x23) (h32 : x23 ≤ 24) (h33 : 0 ≤ x23) (h34 : x24 = 4 * x23) (h35 : x25 = x21 + x24) (h36 : x26 = x25 + x18) (h37 : x0 = 100 * x8) (h38 : -2147483648 ≤ x0) (h39 : x0 ≤ 2147483647) (h40 : -2147483648 ≤ x1) (h41 : x1 ≤ 2147483647) (h42 : -2147483648 ≤ x2) (h43 : x2 ≤ 2147483647) (h44 : -2147483648 ≤ x3) (h45 : x3 ≤ 2147483647) (h46 : -2147483648 ≤ x5) (h47 : x5 ≤ 2147483647) (h48 : -2147483648 ≤ x6) (h49 : x6 ≤ 2147483647) (h50 : -2147483648 ≤ x7) (h51 : x7 ≤ 2147483647) (h52 : -2147483648 ≤ x8) (h53 : x8 ≤ 2147483647) (h54 : -2147483648 ≤ x11) (h55 : x11 ≤ 2147483647) (h56 : -2147483648 ≤ x12) (h57 : x12 ≤ 2147483647) (h58 : -2147483648 ≤ x13) (h59 : x13 ≤ 2147483647) (h60 : -2147483648 ≤ x14) (h61 : x14 ≤ 2147483647) (h62 : -2147483648 ≤ x15) (h63 : x15 ≤ 2147483647) (h64 : -2147483648 ≤ x16) (h65 : x16 ≤ 2147483647) (h66 : -2147483648 ≤ x17) (h67 : x17 ≤ 2147483647) (h68 : -2147483648 ≤ x18) (h69 : x18 ≤ 2147483647) (h70 : -2147483648 ≤ x19) (h71 : x19 ≤ 2147483647) (h72 : -2147483648 ≤ x20) (h73 : x20 ≤ 2147483647) (h74 : -2147483648 ≤ x21) (h75 : x21 ≤ 2147483647) (h76 : -2147483648 ≤ x22) (h77 : x22 ≤ 2147483647) (h78 : -2147483648 ≤ x23) (h79 : x23 ≤ 2147483647) (h80 : -2147483648 ≤ x24) (h81 : x24 ≤ 2147483647) (h82 : -2147483648 ≤ x25) (h83 : x25 ≤ 2147483647) (h84 : -2147483648 ≤ x26) (h85 : x26 ≤ 2147483647) : x0 + x1 ≤ 2147483647 := by omega
theorem o36_191 {x0 x1 x2 x4 x5 x6 x7 x9 x11 x12 x13 x14 x15 x16 x17 x18 x19 x20 x21 x22 x23 x24 x25 x26 x27 : Int} {x3 x8 x10 : Nat} (h0 : 0 ≤ x1) (h1 : x1 ≤ 60) (h2 : 0 ≤ x2) (h3 : x2 ≤ 6100) (h4 : 6100 - x2 < ((x3 + 1 : Nat) : Int)) (h5 : x4 = 1) (h6 : x5 = x1 + x4) (h7 : x6 = 100 * x5) (h8 : x6 ≤ x2) (h9 : 0 ≤ x7) (h10 : x7 ≤ 60) (h11 : 60 - x7 < ((x8 + 1 : Nat) : Int)) (h12 : x7 < x1) (h13 : 0 ≤ x9) (h14 : x9 ≤ 100) (h15 : 100 - x9 < ((x10 + 1 : Nat) : Int)) (h16 : 0 ≤ x11) (h17 : x11 ≤ 25) (h18 : x12 = 4 * x11) (h19 : x9 < x12) (h20 : x13 = 100 * x7) (h21 : x14 = x13 + x9) (h22 : x15 = x9 / 4) (h23 : x16 = x9 % 4) (h24 : x17 = x9 % 4) (h25 : 0 ≤ x18) (h26 : x18 ≤ 3) (h27 : x19 = 1) (h28 : x20 = x7 + x19) (h29 : x21 = 100 * x20) (h30 : x22 = x9 / 4) (h31 : (-1) ≤ x23) (h32 : x23 ≤ 24) (h33 : 0 ≤ x23) (h34 : x24 = 4 * x23) (h35 : x25 = x21 + x24) (h36 : x26 = x25 + x18) (h37 : x27 = 100 * x7) (h38 : x0 = x27 + x9) : 0 ≤ x0 := by omega
theorem o36_192 {x0 x1 x2 x4 x5 x6 x7 x9 x11 x12 x13 x14 x15 x16 x17 x18 x19 x20 x21 x22 x23 x24 x25 x26 x27 : Int} {x3 x8 x10 : Nat} (h0 : 0 ≤ x1) (h1 : x1 ≤ 60) (h2 : 0 ≤ x2) (h3 : x2 ≤ 6100) (h4 : 6100 - x2 < ((x3 + 1 : Nat) : Int)) (h5 : x4 = 1) (h6 : x5 = x1 + x4) (h7 : x6 = 100 * x5) (h8 : x6 ≤ x2) (h9 : 0 ≤ x7) (h10 : x7 ≤ 60) (h11 : 60 - x7 < ((x8 + 1 : Nat) : Int)) (h12 : x7 < x1) (h13 : 0 ≤ x9) (h14 : x9 ≤ 100) (h15 : 100 - x9 < ((x10 + 1 : Nat) : Int)) (h16 : 0 ≤ x11) (h17 : x11 ≤ 25) (h18 : x12 = 4 * x11) (h19 : x9 < x12) (h20 : x13 = 100 * x7) (h21 : x14 = x13 + x9) (h22 : x15 = x9 / 4) (h23 : x16 = x9 % 4) (h24 : x17 = x9 % 4) (h25 : 0 ≤ x18) (h26 : x18 ≤ 3) (h27 : x19 = 1) (h28 : x20 = x7 + x19) (h29 : x21 = 100 * x20) (h30 : x22 = x9 / 4) (h31 : (-1) ≤ x23) (h32 : x23 ≤ 24) (h33 : 0 ≤ x23) (h34 : x24 = 4 * x23) (h35 : x25 = x21 + x24) (h36 : x26 = x25 + x18) (h37 : x27 = 100 * x7) (h38 : x0 = x27 + x9) : x0 < (6100 : Nat) := by omega
theorem o36_193 {x0 x1 x2 x4 x5 x6 x7 x9 x11 x12 x13 x14 x15 x16 x17 x18 x19 x20 x21 x22 x23 x24 x25 x26 x27 : Int} {x3 x8 x10 : Nat} (h0 : 0 ≤ x1) (h1 : x1 ≤ 60) (h2 : 0 ≤ x2) (h3 : x2 ≤ 6100) (h4 : 6100 - x2 < ((x3 + 1 : Nat) : Int)) (h5 : x4 = 1) (h6 : x5 = x1 + x4) (h7 : x6 = 100 * x5) (h8 : x6 ≤ x2) (h9 : 0 ≤ x7) (h10 : x7 ≤ 60) (h11 : 60 - x7 < ((x8 + 1 : Nat) : Int)) (h12 : x7 < x1) (h13 : 0 ≤ x9) (h14 : x9 ≤ 100) (h15 : 100 - x9 < ((x10 + 1 : Nat) : Int)) (h16 : 0 ≤ x11) (h17 : x11 ≤ 25) (h18 : x12 = 4 * x11) (h19 : x9 < x12) (h20 : x13 = 100 * x7) (h21 : x14 = x13 + x9) (h22 : x15 = x9 / 4) (h23 : x16 = x9 % 4) (h24 : x17 = x9 % 4) (h25 : 0 ≤ x18) (h26 : x18 ≤ 3) (h27 : x19 = 1) (h28 : x20 = x7 + x19) (h29 : x21 = 100 * x20) (h30 : x22 = x9 / 4) (h31 : (-1) ≤ x23) (h32 : x23 ≤ 24) (h33 : 0 ≤ x23) (h34 : x24 = 4 * x23) (h35 : x25 = x21 + x24) (h36 : x0 = x25 + x18) (h37 : x26 = 100 * x7) (h38 : x27 = x26 + x9) : 0 ≤ x0 := by omega
theorem o36_194 {x0 x1 x2 x4 x5 x6 x7 x9 x11 x12 x13 x14 x15 x16 x17 x18 x19 x20 x21 x22 x23 x24 x25 x26 x27 : Int} {x3 x8 x10 : Nat} (h0 : 0 ≤ x1) (h1 : x1 ≤ 60) (h2 : 0 ≤ x2) (h3 : x2 ≤ 6100) (h4 : 6100 - x2 < ((x3 + 1 : Nat) : Int)) (h5 : x4 = 1) (h6 : x5 = x1 + x4) (h7 : x6 = 100 * x5) (h8 : x6 ≤ x2) (h9 : 0 ≤ x7) (h10 : x7 ≤ 60) (h11 : 60 - x7 < ((x8 + 1 : Nat) : Int)) (h12 : x7 < x1) (h13 : 0 ≤ x9) (h14 : x9 ≤ 100) (h15 : 100 - x9 < ((x10 + 1 : Nat) : Int)) (h16 : 0 ≤ x11) (h17 : x11 ≤ 25) (h18 : x12 = 4 * x11) (h19 : x9 < x12) (h20 : x13 = 100 * x7) (h21 : x14 = x13 + x9) (h22 : x15 = x9 / 4) (h23 : x16 = x9 % 4) (h24 : x17 = x9 % 4) (h25 : 0 ≤ x18) (h26 : x18 ≤ 3) (h27 : x19 = 1) (h28 : x20 = x7 + x19) (h29 : x21 = 100 * x20) (h30 : x22 = x9 / 4) (h31 : (-1) ≤ x23) (h32 : x23 ≤ 24) (h33 : 0 ≤ x23) (h34 : x24 = 4 * x23) (h35 : x25 = x21 + x24) (h36 : x0 = x25 + x18) (h37 : x26 = 100 * x7) (h38 : x27 = x26 + x9) : x0 < (6100 : Nat) := by omega
theorem o36_195 {x0 x2 : Int} {x1 : Nat} (h0 : 0 ≤ x0) (h1 : x0 ≤ 4) (h2 : 4 - x0 < ((x1 + 1 : Nat) : Int)) (h3 : x2 = 4) (h4 : x0 < x2) (h5 : -2147483648 ≤ x0) (h6 : x0 ≤ 2147483647) (h7 : -2147483648 ≤ x2) (h8 : x2 ≤ 2147483647) : -2147483648 ≤ x0 + 1 := by omega
theorem o36_196 {x0 x2 : Int} {x1 : Nat} (h0 : 0 ≤ x0) (h1 : x0 ≤ 4) (h2 : 4 - x0 < ((x1 + 1 : Nat) : Int)) (h3 : x2 = 4) (h4 : x0 < x2) (h5 : -2147483648 ≤ x0) (h6 : x0 ≤ 2147483647) (h7 : -2147483648 ≤ x2) (h8 : x2 ≤ 2147483647) : x0 + 1 ≤ 2147483647 := by omega
theorem o36_197 {x0 x2 x3 : Int} {x1 : Nat} (h0 : 0 ≤ x2) (h1 : x2 ≤ 4) (h2 : 4 - x2 < ((x1 + 1 : Nat) : Int)) (h3 : x3 = 4) (h4 : x2 < x3) (h5 : x0 = x2 + 1) : 4 - x0 < (x1 : Int) := by omega
theorem o36_198 {x0 x1 x3 : Int} {x2 : Nat} (h0 : 0 ≤ x1) (h1 : x1 ≤ 4) (h2 : 4 - x1 < ((x2 + 1 : Nat) : Int)) (h3 : x3 = 4) (h4 : x1 < x3) (h5 : x0 = x1 + 1) : 0 ≤ x0 := by omega
theorem o36_199 {x0 x1 x3 : Int} {x2 : Nat} (h0 : 0 ≤ x1) (h1 : x1 ≤ 4) (h2 : 4 - x1 < ((x2 + 1 : Nat) : Int)) (h3 : x3 = 4) (h4 : x1 < x3) (h5 : x0 = x1 + 1) : x0 ≤ 4 := by omega
theorem o36_200 {x0 : Int} (h0 : x0 = 0) : 100 - x0 < (((100 - x0 + 1).toNat : Nat) : Int) := by omega
theorem o36_201 {x0 : Int} (h0 : x0 = 0) : x0 ≤ 100 := by omega
theorem o36_202 {x0 : Int} (h0 : x0 = 0) : 60 - x0 < (((60 - x0 + 1).toNat : Nat) : Int) := by omega
theorem o36_203 {x0 : Int} (h0 : x0 = 0) : x0 ≤ 60 := by omega
theorem o36_204 {x0 x1 x3 x4 x5 : Int} {x2 : Nat} (h0 : 0 ≤ x1) (h1 : x1 ≤ 60) (h2 : 0 ≤ x0) (h3 : x0 ≤ 6100) (h4 : 6100 - x0 < ((x2 + 1 : Nat) : Int)) (h5 : x3 = 1) (h6 : x4 = x1 + x3) (h7 : x5 = 100 * x4) (h8 : x0 < x5) : 0 ≤ x0 := by omega
theorem o36_205 {x0 x1 x3 x4 x5 : Int} {x2 : Nat} (h0 : 0 ≤ x1) (h1 : x1 ≤ 60) (h2 : 0 ≤ x0) (h3 : x0 ≤ 6100) (h4 : 6100 - x0 < ((x2 + 1 : Nat) : Int)) (h5 : x3 = 1) (h6 : x4 = x1 + x3) (h7 : x5 = 100 * x4) (h8 : x0 < x5) : x0 < (6100 : Nat) := by omega
theorem o36_206 {x0 x1 x3 x4 x5 : Int} {x2 : Nat} (h0 : 0 ≤ x1) (h1 : x1 ≤ 60) (h2 : 0 ≤ x0) (h3 : x0 ≤ 6100) (h4 : 6100 - x0 < ((x2 + 1 : Nat) : Int)) (h5 : x3 = 1) (h6 : x4 = x1 + x3) (h7 : x5 = 100 * x4) (h8 : x0 < x5) (h9 : -2147483648 ≤ x0) (h10 : x0 ≤ 2147483647) (h11 : -2147483648 ≤ x1) (h12 : x1 ≤ 2147483647) (h13 : -2147483648 ≤ x3) (h14 : x3 ≤ 2147483647) (h15 : -2147483648 ≤ x4) (h16 : x4 ≤ 2147483647) (h17 : -2147483648 ≤ x5) (h18 : x5 ≤ 2147483647) : -2147483648 ≤ x0 + 1 := by omega
theorem o36_207 {x0 x1 x3 x4 x5 : Int} {x2 : Nat} (h0 : 0 ≤ x1) (h1 : x1 ≤ 60) (h2 : 0 ≤ x0) (h3 : x0 ≤ 6100) (h4 : 6100 - x0 < ((x2 + 1 : Nat) : Int)) (h5 : x3 = 1) (h6 : x4 = x1 + x3) (h7 : x5 = 100 * x4) (h8 : x0 < x5) (h9 : -2147483648 ≤ x0) (h10 : x0 ≤ 2147483647) (h11 : -2147483648 ≤ x1) (h12 : x1 ≤ 2147483647) (h13 : -2147483648 ≤ x3) (h14 : x3 ≤ 2147483647) (h15 : -2147483648 ≤ x4) (h16 : x4 ≤ 2147483647) (h17 : -2147483648 ≤ x5) (h18 : x5 ≤ 2147483647) : x0 + 1 ≤ 2147483647 := by omega
theorem o36_208 {x0 x2 x3 x4 x5 x6 : Int} {x1 : Nat} (h0 : 0 ≤ x2) (h1 : x2 ≤ 60) (h2 : 0 ≤ x3) (h3 : x3 ≤ 6100) (h4 : 6100 - x3 < ((x1 + 1 : Nat) : Int)) (h5 : x4 = 1) (h6 : x5 = x2 + x4) (h7 : x6 = 100 * x5) (h8 : x3 < x6) (h9 : x0 = x3 + 1) : 6100 - x0 < (x1 : Int) := by omega
theorem o36_209 {x0 x1 x2 x4 x5 x6 : Int} {x3 : Nat} (h0 : 0 ≤ x1) (h1 : x1 ≤ 60) (h2 : 0 ≤ x2) (h3 : x2 ≤ 6100) (h4 : 6100 - x2 < ((x3 + 1 : Nat) : Int)) (h5 : x4 = 1) (h6 : x5 = x1 + x4) (h7 : x6 = 100 * x5) (h8 : x2 < x6) (h9 : x0 = x2 + 1) : 0 ≤ x0 := by omega
theorem o36_210 {x0 x1 x2 x4 x5 x6 : Int} {x3 : Nat} (h0 : 0 ≤ x1) (h1 : x1 ≤ 60) (h2 : 0 ≤ x2) (h3 : x2 ≤ 6100) (h4 : 6100 - x2 < ((x3 + 1 : Nat) : Int)) (h5 : x4 = 1) (h6 : x5 = x1 + x4) (h7 : x6 = 100 * x5) (h8 : x2 < x6) (h9 : x0 = x2 + 1) : x0 ≤ 6100 := by omega
theorem o36_211 {x0 : Int} (h0 : x0 = 0) : 6100 - x0 < (((6100 - x0 + 1).toNat : Nat) : Int) := by omega
theorem o36_212 {x0 : Int} (h0 : x0 = 0) : x0 ≤ 6100 := by omega
theorem o36_213 {x0 : Int} (h0 : 0 ≤ x0) (h1 : x0 ≤ 99) : 0 ≤ x0 := by omega
theorem o36_214 {x0 x1 : Int} (h0 : 0 ≤ x0) (h1 : x0 ≤ 99) (h2 : x1 = x0 / 4) : 0 ≤ x0 := by omega
theorem o36_215 {x0 : Int} (h0 : 0 ≤ x0) (h1 : x0 ≤ 59) : 0 ≤ x0 := by omega
theorem o36_216 {x0 : Int} (h0 : 0 ≤ x0) (h1 : x0 ≤ 59) : x0 ≤ 60 := by omega
theorem o36_217 {x0 x1 x2 : Int} (h0 : 0 ≤ x1) (h1 : x1 ≤ 99) (h2 : x0 = x1 / 4) (h3 : x2 = x1 % 4) : 0 ≤ x0 := by omega
theorem o36_218 {x0 x1 x2 : Int} (h0 : 0 ≤ x1) (h1 : x1 ≤ 99) (h2 : x0 = x1 / 4) (h3 : x2 = x1 % 4) : x0 ≤ 24 := by omega
theorem o36_219 {x0 x1 x2 : Int} (h0 : 0 ≤ x1) (h1 : x1 ≤ 99) (h2 : x2 = x1 / 4) (h3 : x0 = x1 % 4) : 0 ≤ x0 := by omega
theorem o36_220 {x0 x1 x2 : Int} (h0 : 0 ≤ x1) (h1 : x1 ≤ 99) (h2 : x2 = x1 / 4) (h3 : x0 = x1 % 4) : x0 ≤ 3 := by omega
theorem o36_221 {x0 : Int} (h0 : x0 = 0) : x0 ≤ 0 := by omega
theorem o36_222 {x0 x1 : Int} (h0 : 0 ≤ x0) (h1 : x0 ≤ 1000000000) (h2 : (x0 = 1000000000 ∨ (0 ≤ x0 ∧ x0 ≤ 2))) (h3 : x1 = 1000000000) (h4 : x0 = x1) : x0 = 1000000000 := by omega
theorem o36_223 {x0 x1 : Int} (h0 : 0 ≤ x0) (h1 : x0 ≤ 1000000000) (h2 : (x0 = 1000000000 ∨ (0 ≤ x0 ∧ x0 ≤ 2))) (h3 : x1 = 1000000000) (h4 : ¬ x0 = x1) : ¬ x0 = 1000000000 := by omega
theorem o36_224 {x0 x1 : Int} (h0 : 0 ≤ x0) (h1 : x0 ≤ 59) (h2 : x1 = 1) (h3 : -2147483648 ≤ x0) (h4 : x0 ≤ 2147483647) (h5 : -2147483648 ≤ x1) (h6 : x1 ≤ 2147483647) : -2147483648 ≤ x0 + x1 := by omega
theorem o36_225 {x0 x1 : Int} (h0 : 0 ≤ x0) (h1 : x0 ≤ 59) (h2 : x1 = 1) (h3 : -2147483648 ≤ x0) (h4 : x0 ≤ 2147483647) (h5 : -2147483648 ≤ x1) (h6 : x1 ≤ 2147483647) : x0 + x1 ≤ 2147483647 := by omega
theorem o36_226 {x0 x1 x2 : Int} (h0 : 0 ≤ x1) (h1 : x1 ≤ 59) (h2 : x2 = 1) (h3 : x0 = x1 + x2) (h4 : -2147483648 ≤ x0) (h5 : x0 ≤ 2147483647) (h6 : -2147483648 ≤ x1) (h7 : x1 ≤ 2147483647) (h8 : -2147483648 ≤ x2) (h9 : x2 ≤ 2147483647) : -2147483648 ≤ 100 * x0 := by omega
theorem o36_227 {x0 x1 x2 : Int} (h0 : 0 ≤ x1) (h1 : x1 ≤ 59) (h2 : x2 = 1) (h3 : x0 = x1 + x2) (h4 : -2147483648 ≤ x0) (h5 : x0 ≤ 2147483647) (h6 : -2147483648 ≤ x1) (h7 : x1 ≤ 2147483647) (h8 : -2147483648 ≤ x2) (h9 : x2 ≤ 2147483647) : 100 * x0 ≤ 2147483647 := by omega
theorem o36_228 {x0 x1 x2 : Int} (h0 : 0 ≤ x0) (h1 : x0 ≤ 99) (h2 : x1 = x0 / 4) (h3 : x2 = x0 % 4) : 0 ≤ x0 := by omega
theorem o36_229 {x0 x1 x2 x3 : Int} (h0 : 0 ≤ x0) (h1 : x0 ≤ 99) (h2 : x1 = x0 / 4) (h3 : x2 = x0 % 4) (h4 : x3 = x0 / 4) : 0 ≤ x0 := by omega
theorem o36_230 {x0 x1 x2 x3 x4 : Int} (h0 : 0 ≤ x1) (h1 : x1 ≤ 99) (h2 : x2 = x1 / 4) (h3 : x3 = x1 % 4) (h4 : x4 = x1 / 4) (h5 : x0 = x1 % 4) : 0 ≤ x0 := by omega
theorem o36_231 {x0 x1 x2 x3 x4 : Int} (h0 : 0 ≤ x1) (h1 : x1 ≤ 99) (h2 : x2 = x1 / 4) (h3 : x3 = x1 % 4) (h4 : x4 = x1 / 4) (h5 : x0 = x1 % 4) : x0 ≤ 3 := by omega
theorem o36_232 {x0 x1 x2 x3 x4 : Int} (h0 : 0 ≤ x1) (h1 : x1 ≤ 99) (h2 : x2 = x1 / 4) (h3 : x3 = x1 % 4) (h4 : x0 = x1 / 4) (h5 : x4 = x1 % 4) : 0 ≤ x0 := by omega
theorem o36_233 {x0 x1 x2 x3 x4 : Int} (h0 : 0 ≤ x1) (h1 : x1 ≤ 99) (h2 : x2 = x1 / 4) (h3 : x3 = x1 % 4) (h4 : x0 = x1 / 4) (h5 : x4 = x1 % 4) : x0 ≤ 24 := by omega
theorem o36_234 {x0 x1 x2 x3 x4 : Int} (h0 : 0 ≤ x2) (h1 : x2 ≤ 99) (h2 : x1 = x2 / 4) (h3 : x3 = x2 % 4) (h4 : x0 = x2 / 4) (h5 : x4 = x2 % 4) : x0 = x1 := by omega
theorem o36_235 {x0 x1 x2 x3 x4 : Int} (h0 : 0 ≤ x1) (h1 : x1 ≤ 99) (h2 : x0 = x1 / 4) (h3 : x2 = x1 % 4) (h4 : x3 = x1 / 4) (h5 : x4 = x1 % 4) : x0 ≤ 24 := by omega
theorem o36_236 {x0 x1 x2 x3 x4 : Int} (h0 : 0 ≤ x2) (h1 : x2 ≤ 99) (h2 : x3 = x2 / 4) (h3 : x1 = x2 % 4) (h4 : x4 = x2 / 4) (h5 : x0 = x2 % 4) : x0 = x1 := by omega
theorem o36_237 {x0 x1 x2 x3 x4 x5 : Int} (h0 : 0 ≤ x2) (h1 : x2 ≤ 59) (h2 : x3 = 1) (h3 : x4 = x2 + x3) (h4 : x0 = 100 * x4) (h5 : (-1) ≤ x5) (h6 : x5 ≤ 24) (h7 : 0 ≤ x5) (h8 : x1 = 4 * x5) (h9 : -2147483648 ≤ x0) (h10 : x0 ≤ 2147483647) (h11 : -2147483648 ≤ x1) (h12 : x1 ≤ 2147483647) (h13 : -2147483648 ≤ x2) (h14 : x2 ≤ 2147483647) (h15 : -2147483648 ≤ x3) (h16 : x3 ≤ 2147483647) (h17 : -2147483648 ≤ x4) (h18 : x4 ≤ 2147483647) (h19 : -2147483648 ≤ x5) (h20 : x5 ≤ 2147483647) : -2147483648 ≤ x0 + x1 := by omega
theorem o36_238 {x0 x1 x2 x3 x4 x5 : Int} (h0 : 0 ≤ x2) (h1 : x2 ≤ 59) (h2 : x3 = 1) (h3 : x4 = x2 + x3) (h4 : x0 = 100 * x4) (h5 : (-1) ≤ x5) (h6 : x5 ≤ 24) (h7 : 0 ≤ x5) (h8 : x1 = 4 * x5) (h9 : -2147483648 ≤ x0) (h10 : x0 ≤ 2147483647) (h11 : -2147483648 ≤ x1) (h12 : x1 ≤ 2147483647) (h13 : -2147483648 ≤ x2) (h14 : x2 ≤ 2147483647) (h15 : -2147483648 ≤ x3) (h16 : x3 ≤ 2147483647) (h17 : -2147483648 ≤ x4) (h18 : x4 ≤ 2147483647) (h19 : -2147483648 ≤ x5) (h20 : x5 ≤ 2147483647) : x0 + x1 ≤ 2147483647 := by omega
theorem o36_239 {x0 x1 x2 x3 x4 : Int} (h0 : 0 ≤ x0) (h1 : x0 ≤ 99) (h2 : x1 = x0 / 4) (h3 : x2 = x0 % 4) (h4 : x3 = x0 / 4) (h5 : x4 = x0 % 4) : 0 ≤ x0 := by omega
theorem o36_240 {x0 x1 x2 x3 x4 x5 : Int} (h0 : 0 ≤ x1) (h1 : x1 ≤ 99) (h2 : x2 = x1 / 4) (h3 : x3 = x1 % 4) (h4 : x4 = x1 / 4) (h5 : x5 = x1 % 4) (h6 : x0 = x1 % 4) : 0 ≤ x0 := by omega
theorem o36_241 {x0 x1 x2 x3 x4 x5 : Int} (h0 : 0 ≤ x1) (h1 : x1 ≤ 99) (h2 : x2 = x1 / 4) (h3 : x3 = x1 % 4) (h4 : x4 = x1 / 4) (h5 : x5 = x1 % 4) (h6 : x0 = x1 % 4) : x0 ≤ 3 := by omega
theorem o36_242 {x0 x1 x2 x3 x4 x5 x6 x7 : Int} (h0 : 0 ≤ x2) (h1 : x2 ≤ 59) (h2 : x3 = 1) (h3 : x4 = x2 + x3) (h4 : x5 = 100 * x4) (h5 : (-1) ≤ x6) (h6 : x6 ≤ 24) (h7 : 0 ≤ x6) (h8 : x7 = 4 * x6) (h9 : x0 = x5 + x7) (h10 : 0 ≤ x1) (h11 : x1 ≤ 3) (h12 : -2147483648 ≤ x0) (h13 : x0 ≤ 2147483647) (h14 : -2147483648 ≤ x1) (h15 : x1 ≤ 2147483647) (h16 : -2147483648 ≤ x2) (h17 : x2 ≤ 2147483647) (h18 : -2147483648 ≤ x3) (h19 : x3 ≤ 2147483647) (h20 : -2147483648 ≤ x4) (h21 : x4 ≤ 2147483647) (h22 : -2147483648 ≤ x5) (h23 : x5 ≤ 2147483647) (h24 : -2147483648 ≤ x6) (h25 : x6 ≤ 2147483647) (h26 : -2147483648 ≤ x7) (h27 : x7 ≤ 2147483647) : -2147483648 ≤ x0 + x1 := by omega
theorem o36_243 {x0 x1 x2 x3 x4 x5 x6 x7 : Int} (h0 : 0 ≤ x2) (h1 : x2 ≤ 59) (h2 : x3 = 1) (h3 : x4 = x2 + x3) (h4 : x5 = 100 * x4) (h5 : (-1) ≤ x6) (h6 : x6 ≤ 24) (h7 : 0 ≤ x6) (h8 : x7 = 4 * x6) (h9 : x0 = x5 + x7) (h10 : 0 ≤ x1) (h11 : x1 ≤ 3) (h12 : -2147483648 ≤ x0) (h13 : x0 ≤ 2147483647) (h14 : -2147483648 ≤ x1) (h15 : x1 ≤ 2147483647) (h16 : -2147483648 ≤ x2) (h17 : x2 ≤ 2147483647) (h18 : -2147483648 ≤ x3) (h19 : x3 ≤ 2147483647) (h20 : -2147483648 ≤ x4) (h21 : x4 ≤ 2147483647) (h22 : -2147483648 ≤ x5) (h23 : x5 ≤ 2147483647) (h24 : -2147483648 ≤ x6) (h25 : x6 ≤ 2147483647) (h26 : -2147483648 ≤ x7) (h27 : x7 ≤ 2147483647) : x0 + x1 ≤ 2147483647 := by omega
theorem o36_244 {x0 x1 x2 x3 x4 x5 x6 x7 x8 : Int} (h0 : 0 ≤ x1) (h1 : x1 ≤ 59) (h2 : x2 = 1) (h3 : x3 = x1 + x2) (h4 : x4 = 100 * x3) (h5 : (-1) ≤ x5) (h6 : x5 ≤ 24) (h7 : 0 ≤ x5) (h8 : x6 = 4 * x5) (h9 : x7 = x4 + x6) (h10 : 0 ≤ x8) (h11 : x8 ≤ 3) (h12 : x0 = x7 + x8) : 0 ≤ x0 := by omega
theorem o36_245 {x0 x1 x2 x3 x4 x5 x6 x7 x8 : Int} (h0 : 0 ≤ x1) (h1 : x1 ≤ 59) (h2 : x2 = 1) (h3 : x3 = x1 + x2) (h4 : x4 = 100 * x3) (h5 : (-1) ≤ x5) (h6 : x5 ≤ 24) (h7 : 0 ≤ x5) (h8 : x6 = 4 * x5) (h9 : x7 = x4 + x6) (h10 : 0 ≤ x8) (h11 : x8 ≤ 3) (h12 : x0 = x7 + x8) : x0 < (6100 : Nat) := by omega
theorem o36_246 {x0 x1 : Int} (h0 : 0 ≤ x0) (h1 : x0 ≤ 60) (h2 : x1 = 1) (h3 : -2147483648 ≤ x0) (h4 : x0 ≤ 2147483647) (h5 : -2147483648 ≤ x1) (h6 : x1 ≤ 2147483647) : -2147483648 ≤ x0 - x1 := by omega
theorem o36_247 {x0 x1 : Int} (h0 : 0 ≤ x0) (h1 : x0 ≤ 60) (h2 : x1 = 1) (h3 : -2147483648 ≤ x0) (h4 : x0 ≤ 2147483647) (h5 : -2147483648 ≤ x1) (h6 : x1 ≤ 2147483647) : x0 - x1 ≤ 2147483647 := by omega
theorem o36_248 {x0 : Int} (h0 : (-1) ≤ x0) (h1 : x0 ≤ 59) (h2 : x0 - (-1) < 0) : False := by omega
theorem o36_249 {x0 : Int} {x1 : Nat} (h0 : (-1) ≤ x0) (h1 : x0 ≤ 59) (h2 : x0 - (-1) < ((x1 + 1 : Nat) : Int)) (h3 : 0 ≤ x0) (h4 : -2147483648 ≤ x0) (h5 : x0 ≤ 2147483647) : -2147483648 ≤ x0 + (-1) := by omega
theorem o36_250 {x0 : Int} {x1 : Nat} (h0 : (-1) ≤ x0) (h1 : x0 ≤ 59) (h2 : x0 - (-1) < ((x1 + 1 : Nat) : Int)) (h3 : 0 ≤ x0) (h4 : -2147483648 ≤ x0) (h5 : x0 ≤ 2147483647) : x0 + (-1) ≤ 2147483647 := by omega
theorem o36_251 {x0 x2 : Int} {x1 : Nat} (h0 : (-1) ≤ x2) (h1 : x2 ≤ 59) (h2 : x2 - (-1) < ((x1 + 1 : Nat) : Int)) (h3 : 0 ≤ x2) (h4 : x0 = x2 + (-1)) : x0 - (-1) < (x1 : Int) := by omega
theorem o36_252 {x0 x1 : Int} {x2 : Nat} (h0 : (-1) ≤ x1) (h1 : x1 ≤ 59) (h2 : x1 - (-1) < ((x2 + 1 : Nat) : Int)) (h3 : 0 ≤ x1) (h4 : x0 = x1 + (-1)) : (-1) ≤ x0 := by omega
theorem o36_253 {x0 x1 : Int} {x2 : Nat} (h0 : (-1) ≤ x1) (h1 : x1 ≤ 59) (h2 : x1 - (-1) < ((x2 + 1 : Nat) : Int)) (h3 : 0 ≤ x1) (h4 : x0 = x1 + (-1)) : x0 ≤ 59 := by omega
theorem o36_254 {x0 : Int} {x1 : Nat} (h0 : (-1) ≤ x0) (h1 : x0 ≤ 59) (h2 : x0 - (-1) < ((x1 + 1 : Nat) : Int)) (h3 : 0 ≤ x0) (h4 : -2147483648 ≤ x0) (h5 : x0 ≤ 2147483647) : -2147483648 ≤ 100 * x0 := by omega
theorem o36_255 {x0 : Int} {x1 : Nat} (h0 : (-1) ≤ x0) (h1 : x0 ≤ 59) (h2 : x0 - (-1) < ((x1 + 1 : Nat) : Int)) (h3 : 0 ≤ x0) (h4 : -2147483648 ≤ x0) (h5 : x0 ≤ 2147483647) : 100 * x0 ≤ 2147483647 := by omega
theorem o36_256 {x0 x1 x2 x5 x6 : Int} {x3 x4 : Nat} (h0 : (-1) ≤ x2) (h1 : x2 ≤ 59) (h2 : x2 - (-1) < ((x3 + 1 : Nat) : Int)) (h3 : 0 ≤ x2) (h4 : 0 ≤ x1) (h5 : x1 ≤ 100) (h6 : 100 - x1 < ((x4 + 1 : Nat) : Int)) (h7 : 0 ≤ x5) (h8 : x5 ≤ 25) (h9 : x6 = 4 * x5) (h10 : x1 < x6) (h11 : x0 = 100 * x2) (h12 : -2147483648 ≤ x0) (h13 : x0 ≤ 2147483647) (h14 : -2147483648 ≤ x1) (h15 : x1 ≤ 2147483647) (h16 : -2147483648 ≤ x2) (h17 : x2 ≤ 2147483647) (h18 : -2147483648 ≤ x5) (h19 : x5 ≤ 2147483647) (h20 : -2147483648 ≤ x6) (h21 : x6 ≤ 2147483647) : -2147483648 ≤ x0 + x1 := by omega
theorem o36_257 {x0 x1 x2 x5 x6 : Int} {x3 x4 : Nat} (h0 : (-1) ≤ x2) (h1 : x2 ≤ 59) (h2 : x2 - (-1) < ((x3 + 1 : Nat) : Int)) (h3 : 0 ≤ x2) (h4 : 0 ≤ x1) (h5 : x1 ≤ 100) (h6 : 100 - x1 < ((x4 + 1 : Nat) : Int)) (h7 : 0 ≤ x5) (h8 : x5 ≤ 25) (h9 : x6 = 4 * x5) (h10 : x1 < x6) (h11 : x0 = 100 * x2) (h12 : -2147483648 ≤ x0) (h13 : x0 ≤ 2147483647) (h14 : -2147483648 ≤ x1) (h15 : x1 ≤ 2147483647) (h16 : -2147483648 ≤ x2) (h17 : x2 ≤ 2147483647) (h18 : -2147483648 ≤ x5) (h19 : x5 ≤ 2147483647) (h20 : -2147483648 ≤ x6) (h21 : x6 ≤ 2147483647) : x0 + x1 ≤ 2147483647 := by omega
theorem o36_258 {x0 x2 x4 x5 x6 x7 : Int} {x1 x3 : Nat} (h0 : (-1) ≤ x0) (h1 : x0 ≤ 59) (h2 : x0 - (-1) < ((x1 + 1 : Nat) : Int)) (h3 : 0 ≤ x0) (h4 : 0 ≤ x2) (h5 : x2 ≤ 100) (h6 : 100 - x2 < ((x3 + 1 : Nat) : Int)) (h7 : 0 ≤ x4) (h8 : x4 ≤ 25) (h9 : x5 = 4 * x4) (h10 : x2 < x5) (h11 : x6 = 100 * x0) (h12 : x7 = x6 + x2) : 0 ≤ x0 := by omega
theorem o36_259 {x0 x2 x4 x5 x6 x7 : Int} {x1 x3 : Nat} (h0 : (-1) ≤ x0) (h1 : x0 ≤ 59) (h2 : x0 - (-1) < ((x1 + 1 : Nat) : Int)) (h3 : 0 ≤ x0) (h4 : 0 ≤ x2) (h5 : x2 ≤ 100) (h6 : 100 - x2 < ((x3 + 1 : Nat) : Int)) (h7 : 0 ≤ x4) (h8 : x4 ≤ 25) (h9 : x5 = 4 * x4) (h10 : x2 < x5) (h11 : x6 = 100 * x0) (h12 : x7 = x6 + x2) : x0 ≤ 59 := by omega
theorem o36_260 {x0 x1 x4 x5 x6 x7 : Int} {x2 x3 : Nat} (h0 : (-1) ≤ x1) (h1 : x1 ≤ 59) (h2 : x1 - (-1) < ((x2 + 1 : Nat) : Int)) (h3 : 0 ≤ x1) (h4 : 0 ≤ x0) (h5 : x0 ≤ 100) (h6 : 100 - x0 < ((x3 + 1 : Nat) : Int)) (h7 : 0 ≤ x4) (h8 : x4 ≤ 25) (h9 : x5 = 4 * x4) (h10 : x0 < x5) (h11 : x6 = 100 * x1) (h12 : x7 = x6 + x0) : 0 ≤ x0 := by omega
theorem o36_261 {x0 x1 x4 x5 x6 x7 : Int} {x2 x3 : Nat} (h0 : (-1) ≤ x1) (h1 : x1 ≤ 59) (h2 : x1 - (-1) < ((x2 + 1 : Nat) : Int)) (h3 : 0 ≤ x1) (h4 : 0 ≤ x0) (h5 : x0 ≤ 100) (h6 : 100 - x0 < ((x3 + 1 : Nat) : Int)) (h7 : 0 ≤ x4) (h8 : x4 ≤ 25) (h9 : x5 = 4 * x4) (h10 : x0 < x5) (h11 : x6 = 100 * x1) (h12 : x7 = x6 + x0) : x0 ≤ 99 := by omega
theorem o36_262 {x0 x1 x3 x5 x6 x7 : Int} {x2 x4 : Nat} (h0 : (-1) ≤ x1) (h1 : x1 ≤ 59) (h2 : x1 - (-1) < ((x2 + 1 : Nat) : Int)) (h3 : 0 ≤ x1) (h4 : 0 ≤ x3) (h5 : x3 ≤ 100) (h6 : 100 - x3 < ((x4 + 1 : Nat) : Int)) (h7 : 0 ≤ x5) (h8 : x5 ≤ 25) (h9 : x6 = 4 * x5) (h10 : x3 < x6) (h11 : x7 = 100 * x1) (h12 : x0 = x7 + x3) : 0 ≤ x0 := by omega
theorem o36_263 {x0 x1 x3 x5 x6 x7 : Int} {x2 x4 : Nat} (h0 : (-1) ≤ x1) (h1 : x1 ≤ 59) (h2 : x1 - (-1) < ((x2 + 1 : Nat) : Int)) (h3 : 0 ≤ x1) (h4 : 0 ≤ x3) (h5 : x3 ≤ 100) (h6 : 100 - x3 < ((x4 + 1 : Nat) : Int)) (h7 : 0 ≤ x5) (h8 : x5 ≤ 25) (h9 : x6 = 4 * x5) (h10 : x3 < x6) (h11 : x7 = 100 * x1) (h12 : x0 = x7 + x3) : x0 < (6100 : Nat) := by omega
theorem o36_264 {x0 x1 x4 x5 x6 x7 : Int} {x2 x3 : Nat} (h0 : (-1) ≤ x1) (h1 : x1 ≤ 59) (h2 : x1 - (-1) < ((x2 + 1 : Nat) : Int)) (h3 : 0 ≤ x1) (h4 : 0 ≤ x0) (h5 : x0 ≤ 100) (h6 : 100 - x0 < ((x3 + 1 : Nat) : Int)) (h7 : 0 ≤ x4) (h8 : x4 ≤ 25) (h9 : x5 = 4 * x4) (h10 : x0 < x5) (h11 : x6 = 100 * x1) (h12 : x7 = x6 + x0) (h13 : -2147483648 ≤ x0) (h14 : x0 ≤ 2147483647) (h15 : -2147483648 ≤ x1) (h16 : x1 ≤ 2147483647) (h17 : -2147483648 ≤ x4) (h18 : x4 ≤ 2147483647) (h19 : -2147483648 ≤ x5) (h20 : x5 ≤ 2147483647) (h21 : -2147483648 ≤ x6) (h22 : x6 ≤ 2147483647) (h23 : -2147483648 ≤ x7) (h24 : x7 ≤ 2147483647) : -2147483648 ≤ x0 + 1 := by omega
theorem o36_265 {x0 x1 x4 x5 x6 x7 : Int} {x2 x3 : Nat} (h0 : (-1) ≤ x1) (h1 : x1 ≤ 59) (h2 : x1 - (-1) < ((x2 + 1 : Nat) : Int)) (h3 : 0 ≤ x1) (h4 : 0 ≤ x0) (h5 : x0 ≤ 100) (h6 : 100 - x0 < ((x3 + 1 : Nat) : Int)) (h7 : 0 ≤ x4) (h8 : x4 ≤ 25) (h9 : x5 = 4 * x4) (h10 : x0 < x5) (h11 : x6 = 100 * x1) (h12 : x7 = x6 + x0) (h13 : -2147483648 ≤ x0) (h14 : x0 ≤ 2147483647) (h15 : -2147483648 ≤ x1) (h16 : x1 ≤ 2147483647) (h17 : -2147483648 ≤ x4) (h18 : x4 ≤ 2147483647) (h19 : -2147483648 ≤ x5) (h20 : x5 ≤ 2147483647) (h21 : -2147483648 ≤ x6) (h22 : x6 ≤ 2147483647) (h23 : -2147483648 ≤ x7) (h24 : x7 ≤ 2147483647) : x0 + 1 ≤ 2147483647 := by omega
theorem o36_266 {x0 x2 x4 x5 x6 x7 x8 : Int} {x1 x3 : Nat} (h0 : (-1) ≤ x2) (h1 : x2 ≤ 59) (h2 : x2 - (-1) < ((x3 + 1 : Nat) : Int)) (h3 : 0 ≤ x2) (h4 : 0 ≤ x4) (h5 : x4 ≤ 100) (h6 : 100 - x4 < ((x1 + 1 : Nat) : Int)) (h7 : 0 ≤ x5) (h8 : x5 ≤ 25) (h9 : x6 = 4 * x5) (h10 : x4 < x6) (h11 : x7 = 100 * x2) (h12 : x8 = x7 + x4) (h13 : x0 = x4 + 1) : 100 - x0 < (x1 : Int) := by omega
theorem o36_267 {x0 x1 x3 x5 x6 x7 x8 : Int} {x2 x4 : Nat} (h0 : (-1) ≤ x1) (h1 : x1 ≤ 59) (h2 : x1 - (-1) < ((x2 + 1 : Nat) : Int)) (h3 : 0 ≤ x1) (h4 : 0 ≤ x3) (h5 : x3 ≤ 100) (h6 : 100 - x3 < ((x4 + 1 : Nat) : Int)) (h7 : 0 ≤ x5) (h8 : x5 ≤ 25) (h9 : x6 = 4 * x5) (h10 : x3 < x6) (h11 : x7 = 100 * x1) (h12 : x8 = x7 + x3) (h13 : x0 = x3 + 1) : 0 ≤ x0 := by omega
theorem o36_268 {x0 x1 x3 x5 x6 x7 x8 : Int} {x2 x4 : Nat} (h0 : (-1) ≤ x1) (h1 : x1 ≤ 59) (h2 : x1 - (-1) < ((x2 + 1 : Nat) : Int)) (h3 : 0 ≤ x1) (h4 : 0 ≤ x3) (h5 : x3 ≤ 100) (h6 : 100 - x3 < ((x4 + 1 : Nat) : Int)) (h7 : 0 ≤ x5) (h8 : x5 ≤ 25) (h9 : x6 = 4 * x5) (h10 : x3 < x6) (h11 : x7 = 100 * x1) (h12 : x8 = x7 + x3) (h13 : x0 = x3 + 1) : x0 ≤ 100 := by omega
theorem o36_269 {x0 x1 x2 : Int} (h0 : 0 ≤ x1) (h1 : x1 ≤ 60) (h2 : x2 = 1) (h3 : x0 = x1 - x2) : x0 - (-1) < (((x0 - (-1) + 1).toNat : Nat) : Int) := by omega
theorem o36_270 {x0 x1 x2 : Int} (h0 : 0 ≤ x1) (h1 : x1 ≤ 60) (h2 : x2 = 1) (h3 : x0 = x1 - x2) : (-1) ≤ x0 := by omega
theorem o36_271 {x0 x1 x2 : Int} (h0 : 0 ≤ x1) (h1 : x1 ≤ 60) (h2 : x2 = 1) (h3 : x0 = x1 - x2) : x0 ≤ 59 := by omega
theorem o36_272 {x0 x1 x2 x4 x5 : Int} {x3 : Nat} (h0 : 0 ≤ x2) (h1 : x2 ≤ 60) (h2 : 0 ≤ x1) (h3 : x1 ≤ 100) (h4 : 100 - x1 < ((x3 + 1 : Nat) : Int)) (h5 : 0 ≤ x4) (h6 : x4 ≤ 25) (h7 : x5 = 4 * x4) (h8 : x1 < x5) (h9 : x0 = 100 * x2) (h10 : -2147483648 ≤ x0) (h11 : x0 ≤ 2147483647) (h12 : -2147483648 ≤ x1) (h13 : x1 ≤ 2147483647) (h14 : -2147483648 ≤ x2) (h15 : x2 ≤ 2147483647) (h16 : -2147483648 ≤ x4) (h17 : x4 ≤ 2147483647) (h18 : -2147483648 ≤ x5) (h19 : x5 ≤ 2147483647) : -2147483648 ≤ x0 + x1 := by omega
theorem o36_273 {x0 x1 x2 x4 x5 : Int} {x3 : Nat} (h0 : 0 ≤ x2) (h1 : x2 ≤ 60) (h2 : 0 ≤ x1) (h3 : x1 ≤ 100) (h4 : 100 - x1 < ((x3 + 1 : Nat) : Int)) (h5 : 0 ≤ x4) (h6 : x4 ≤ 25) (h7 : x5 = 4 * x4) (h8 : x1 < x5) (h9 : x0 = 100 * x2) (h10 : -2147483648 ≤ x0) (h11 : x0 ≤ 2147483647) (h12 : -2147483648 ≤ x1) (h13 : x1 ≤ 2147483647) (h14 : -2147483648 ≤ x2) (h15 : x2 ≤ 2147483647) (h16 : -2147483648 ≤ x4) (h17 : x4 ≤ 2147483647) (h18 : -2147483648 ≤ x5) (h19 : x5 ≤ 2147483647) : x0 + x1 ≤ 2147483647 := by omega
theorem o36_274 {x0 x1 x3 x4 x5 x6 : Int} {x2 : Nat} (h0 : 0 ≤ x1) (h1 : x1 ≤ 60) (h2 : 0 ≤ x0) (h3 : x0 ≤ 100) (h4 : 100 - x0 < ((x2 + 1 : Nat) : Int)) (h5 : 0 ≤ x3) (h6 : x3 ≤ 25) (h7 : x4 = 4 * x3) (h8 : x0 < x4) (h9 : x5 = 100 * x1) (h10 : x6 = x5 + x0) : 0 ≤ x0 := by omega
theorem o36_275 {x0 x1 x2 x4 x5 x6 x7 x8 : Int} {x3 : Nat} (h0 : 0 ≤ x1) (h1 : x1 ≤ 60) (h2 : 0 ≤ x2) (h3 : x2 ≤ 100) (h4 : 100 - x2 < ((x3 + 1 : Nat) : Int)) (h5 : 0 ≤ x4) (h6 : x4 ≤ 25) (h7 : x5 = 4 * x4) (h8 : x2 < x5) (h9 : x6 = 100 * x1) (h10 : x0 = x6 + x2) (h11 : x7 = x2 / 4) (h12 : ¬ x7 = x8) : 0 ≤ x0 := by omega
theorem o36_276 {x0 x1 x2 x4 x5 x6 x7 x8 : Int} {x3 : Nat} (h0 : 0 ≤ x1) (h1 : x1 ≤ 60) (h2 : 0 ≤ x2) (h3 : x2 ≤ 100) (h4 : 100 - x2 < ((x3 + 1 : Nat) : Int)) (h5 : 0 ≤ x4) (h6 : x4 ≤ 25) (h7 : x5 = 4 * x4) (h8 : x2 < x5) (h9 : x6 = 100 * x1) (h10 : x0 = x6 + x2) (h11 : x7 = x2 / 4) (h12 : ¬ x7 = x8) : x0 < (6100 : Nat) := by omega
theorem o36_277 {x0 x1 x3 x4 x5 x6 x7 x8 : Int} {x2 : Nat} (h0 : 0 ≤ x1) (h1 : x1 ≤ 60) (h2 : 0 ≤ x0) (h3 : x0 ≤ 100) (h4 : 100 - x0 < ((x2 + 1 : Nat) : Int)) (h5 : 0 ≤ x3) (h6 : x3 ≤ 25) (h7 : x4 = 4 * x3) (h8 : x0 < x4) (h9 : x5 = 100 * x1) (h10 : x6 = x5 + x0) (h11 : x7 = x0 / 4) (h12 : ¬ x7 = x8) (h13 : -2147483648 ≤ x0) (h14 : x0 ≤ 2147483647) (h15 : -2147483648 ≤ x1) (h16 : x1 ≤ 2147483647) (h17 : -2147483648 ≤ x3) (h18 : x3 ≤ 2147483647) (h19 : -2147483648 ≤ x4) (h20 : x4 ≤ 2147483647) (h21 : -2147483648 ≤ x5) (h22 : x5 ≤ 2147483647) (h23 : -2147483648 ≤ x6) (h24 : x6 ≤ 2147483647) (h25 : -2147483648 ≤ x7) (h26 : x7 ≤ 2147483647) (h27 : -2147483648 ≤ x8) (h28 : x8 ≤ 2147483647) : -2147483648 ≤ x0 + 1 := by omega
theorem o36_278 {x0 x1 x3 x4 x5 x6 x7 x8 : Int} {x2 : Nat} (h0 : 0 ≤ x1) (h1 : x1 ≤ 60) (h2 : 0 ≤ x0) (h3 : x0 ≤ 100) (h4 : 100 - x0 < ((x2 + 1 : Nat) : Int)) (h5 : 0 ≤ x3) (h6 : x3 ≤ 25) (h7 : x4 = 4 * x3) (h8 : x0 < x4) (h9 : x5 = 100 * x1) (h10 : x6 = x5 + x0) (h11 : x7 = x0 / 4) (h12 : ¬ x7 = x8) (h13 : -2147483648 ≤ x0) (h14 : x0 ≤ 2147483647) (h15 : -2147483648 ≤ x1) (h16 : x1 ≤ 2147483647) (h17 : -2147483648 ≤ x3) (h18 : x3 ≤ 2147483647) (h19 : -2147483648 ≤ x4) (h20 : x4 ≤ 2147483647) (h21 : -2147483648 ≤ x5) (h22 : x5 ≤ 2147483647) (h23 : -2147483648 ≤ x6) (h24 : x6 ≤ 2147483647) (h25 : -2147483648 ≤ x7) (h26 : x7 ≤ 2147483647) (h27 : -2147483648 ≤ x8) (h28 : x8 ≤ 2147483647) : x0 + 1 ≤ 2147483647 := by omega
theorem o36_279 {x0 x2 x3 x4 x5 x6 x7 x8 x9 : Int} {x1 : Nat} (h0 : 0 ≤ x2) (h1 : x2 ≤ 60) (h2 : 0 ≤ x3) (h3 : x3 ≤ 100) (h4 : 100 - x3 < ((x1 + 1 : Nat) : Int)) (h5 : 0 ≤ x4) (h6 : x4 ≤ 25) (h7 : x5 = 4 * x4) (h8 : x3 < x5) (h9 : x6 = 100 * x2) (h10 : x7 = x6 + x3) (h11 : x8 = x3 / 4) (h12 : ¬ x8 = x9) (h13 : x0 = x3 + 1) : 100 - x0 < (x1 : Int) := by omega
theorem o36_280 {x0 x1 x2 x4 x5 x6 x7 x8 x9 : Int} {x3 : Nat} (h0 : 0 ≤ x1) (h1 : x1 ≤ 60) (h2 : 0 ≤ x2) (h3 : x2 ≤ 100) (h4 : 100 - x2 < ((x3 + 1 : Nat) : Int)) (h5 : 0 ≤ x4) (h6 : x4 ≤ 25) (h7 : x5 = 4 * x4) (h8 : x2 < x5) (h9 : x6 = 100 * x1) (h10 : x7 = x6 + x2) (h11 : x8 = x2 / 4) (h12 : ¬ x8 = x9) (h13 : x0 = x2 + 1) : 0 ≤ x0 := by omega
theorem o36_281 {x0 x1 x2 x4 x5 x6 x7 x8 x9 : Int} {x3 : Nat} (h0 : 0 ≤ x1) (h1 : x1 ≤ 60) (h2 : 0 ≤ x2) (h3 : x2 ≤ 100) (h4 : 100 - x2 < ((x3 + 1 : Nat) : Int)) (h5 : 0 ≤ x4) (h6 : x4 ≤ 25) (h7 : x5 = 4 * x4) (h8 : x2 < x5) (h9 : x6 = 100 * x1) (h10 : x7 = x6 + x2) (h11 : x8 = x2 / 4) (h12 : ¬ x8 = x9) (h13 : x0 = x2 + 1) : x0 ≤ 100 := by omega
theorem o36_282 {x0 x1 x2 x4 x5 x6 x7 x8 : Int} {x3 : Nat} (h0 : 0 ≤ x1) (h1 : x1 ≤ 60) (h2 : 0 ≤ x2) (h3 : x2 ≤ 100) (h4 : 100 - x2 < ((x3 + 1 : Nat) : Int)) (h5 : 0 ≤ x4) (h6 : x4 ≤ 25) (h7 : x5 = 4 * x4) (h8 : x2 < x5) (h9 : x6 = 100 * x1) (h10 : x0 = x6 + x2) (h11 : x7 = x2 / 4) (h12 : x7 = x8) : 0 ≤ x0 := by omega
theorem o36_283 {x0 x1 x2 x4 x5 x6 x7 x8 : Int} {x3 : Nat} (h0 : 0 ≤ x1) (h1 : x1 ≤ 60) (h2 : 0 ≤ x2) (h3 : x2 ≤ 100) (h4 : 100 - x2 < ((x3 + 1 : Nat) : Int)) (h5 : 0 ≤ x4) (h6 : x4 ≤ 25) (h7 : x5 = 4 * x4) (h8 : x2 < x5) (h9 : x6 = 100 * x1) (h10 : x0 = x6 + x2) (h11 : x7 = x2 / 4) (h12 : x7 = x8) : x0 < (6100 : Nat) := by omega
theorem o36_284 {x0 x1 x3 x4 x5 x6 x7 x8 : Int} {x2 : Nat} (h0 : 0 ≤ x1) (h1 : x1 ≤ 60) (h2 : 0 ≤ x0) (h3 : x0 ≤ 100) (h4 : 100 - x0 < ((x2 + 1 : Nat) : Int)) (h5 : 0 ≤ x3) (h6 : x3 ≤ 25) (h7 : x4 = 4 * x3) (h8 : x0 < x4) (h9 : x5 = 100 * x1) (h10 : x6 = x5 + x0) (h11 : x7 = x0 / 4) (h12 : x7 = x8) (h13 : -2147483648 ≤ x0) (h14 : x0 ≤ 2147483647) (h15 : -2147483648 ≤ x1) (h16 : x1 ≤ 2147483647) (h17 : -2147483648 ≤ x3) (h18 : x3 ≤ 2147483647) (h19 : -2147483648 ≤ x4) (h20 : x4 ≤ 2147483647) (h21 : -2147483648 ≤ x5) (h22 : x5 ≤ 2147483647) (h23 : -2147483648 ≤ x6) (h24 : x6 ≤ 2147483647) (h25 : -2147483648 ≤ x7) (h26 : x7 ≤ 2147483647) (h27 : -2147483648 ≤ x8) (h28 : x8 ≤ 2147483647) : -2147483648 ≤ x0 + 1 := by omega
theorem o36_285 {x0 x1 x3 x4 x5 x6 x7 x8 : Int} {x2 : Nat} (h0 : 0 ≤ x1) (h1 : x1 ≤ 60) (h2 : 0 ≤ x0) (h3 : x0 ≤ 100) (h4 : 100 - x0 < ((x2 + 1 : Nat) : Int)) (h5 : 0 ≤ x3) (h6 : x3 ≤ 25) (h7 : x4 = 4 * x3) (h8 : x0 < x4) (h9 : x5 = 100 * x1) (h10 : x6 = x5 + x0) (h11 : x7 = x0 / 4) (h12 : x7 = x8) (h13 : -2147483648 ≤ x0) (h14 : x0 ≤ 2147483647) (h15 : -2147483648 ≤ x1) (h16 : x1 ≤ 2147483647) (h17 : -2147483648 ≤ x3) (h18 : x3 ≤ 2147483647) (h19 : -2147483648 ≤ x4) (h20 : x4 ≤ 2147483647) (h21 : -2147483648 ≤ x5) (h22 : x5 ≤ 2147483647) (h23 : -2147483648 ≤ x6) (h24 : x6 ≤ 2147483647) (h25 : -2147483648 ≤ x7) (h26 : x7 ≤ 2147483647) (h27 : -2147483648 ≤ x8) (h28 : x8 ≤ 2147483647) : x0 + 1 ≤ 2147483647 := by omega
theorem o36_286 {x0 x2 x3 x4 x5 x6 x7 x8 x9 : Int} {x1 : Nat} (h0 : 0 ≤ x2) (h1 : x2 ≤ 60) (h2 : 0 ≤ x3) (h3 : x3 ≤ 100) (h4 : 100 - x3 < ((x1 + 1 : Nat) : Int)) (h5 : 0 ≤ x4) (h6 : x4 ≤ 25) (h7 : x5 = 4 * x4) (h8 : x3 < x5) (h9 : x6 = 100 * x2) (h10 : x7 = x6 + x3) (h11 : x8 = x3 / 4) (h12 : x8 = x9) (h13 : x0 = x3 + 1) : 100 - x0 < (x1 : Int) := by omega
theorem o36_287 {x0 x1 x2 x4 x5 x6 x7 x8 x9 : Int} {x3 : Nat} (h0 : 0 ≤ x1) (h1 : x1 ≤ 60) (h2 : 0 ≤ x2) (h3 : x2 ≤ 100) (h4 : 100 - x2 < ((x3 + 1 : Nat) : Int)) (h5 : 0 ≤ x4) (h6 : x4 ≤ 25) (h7 : x5 = 4 * x4) (h8 : x2 < x5) (h9 : x6 = 100 * x1) (h10 : x7 = x6 + x2) (h11 : x8 = x2 / 4) (h12 : x8 = x9) (h13 : x0 = x2 + 1) : 0 ≤ x0 := by omega
theorem o36_288 {x0 x1 x2 x4 x5 x6 x7 x8 x9 : Int} {x3 : Nat} (h0 : 0 ≤ x1) (h1 : x1 ≤ 60) (h2 : 0 ≤ x2) (h3 : x2 ≤ 100) (h4 : 100 - x2 < ((x3 + 1 : Nat) : Int)) (h5 : 0 ≤ x4) (h6 : x4 ≤ 25) (h7 : x5 = 4 * x4) (h8 : x2 < x5) (h9 : x6 = 100 * x1) (h10 : x7 = x6 + x2) (h11 : x8 = x2 / 4) (h12 : x8 = x9) (h13 : x0 = x2 + 1) : x0 ≤ 100 := by omega
theorem o36_289 {x0 x2 : Int} {x1 : Nat} (h0 : 0 ≤ x0) (h1 : x0 ≤ 4) (h2 : 4 - x0 < ((x1 + 1 : Nat) : Int)) (h3 : x2 = 4) (h4 : x2 ≤ x0) : x0 = 4 := by omega
theorem o36_290 {x0 x1 x2 x3 x5 x6 x7 : Int} {x4 : Nat} (h0 : 0 ≤ x2) (h1 : x2 ≤ 60) (h2 : 0 ≤ x3) (h3 : x3 ≤ 24) (h4 : 0 ≤ x1) (h5 : x1 ≤ 4) (h6 : 4 - x1 < ((x4 + 1 : Nat) : Int)) (h7 : x5 = 4) (h8 : x1 < x5) (h9 : x6 = 100 * x2) (h10 : x7 = 4 * x3) (h11 : x0 = x6 + x7) (h12 : -2147483648 ≤ x0) (h13 : x0 ≤ 2147483647) (h14 : -2147483648 ≤ x1) (h15 : x1 ≤ 2147483647) (h16 : -2147483648 ≤ x2) (h17 : x2 ≤ 2147483647) (h18 : -2147483648 ≤ x3) (h19 : x3 ≤ 2147483647) (h20 : -2147483648 ≤ x5) (h21 : x5 ≤ 2147483647) (h22 : -2147483648 ≤ x6) (h23 : x6 ≤ 2147483647) (h24 : -2147483648 ≤ x7) (h25 : x7 ≤ 2147483647) : -2147483648 ≤ x0 + x1 := by omega
theorem o36_291 {x0 x1 x2 x3 x5 x6 x7 : Int} {x4 : Nat} (h0 : 0 ≤ x2) (h1 : x2 ≤ 60) (h2 : 0 ≤ x3) (h3 : x3 ≤ 24) (h4 : 0 ≤ x1) (h5 : x1 ≤ 4) (h6 : 4 - x1 < ((x4 + 1 : Nat) : Int)) (h7 : x5 = 4) (h8 : x1 < x5) (h9 : x6 = 100 * x2) (h10 : x7 = 4 * x3) (h11 : x0 = x6 + x7) (h12 : -2147483648 ≤ x0) (h13 : x0 ≤ 2147483647) (h14 : -2147483648 ≤ x1) (h15 : x1 ≤ 2147483647) (h16 : -2147483648 ≤ x2) (h17 : x2 ≤ 2147483647) (h18 : -2147483648 ≤ x3) (h19 : x3 ≤ 2147483647) (h20 : -2147483648 ≤ x5) (h21 : x5 ≤ 2147483647) (h22 : -2147483648 ≤ x6) (h23 : x6 ≤ 2147483647) (h24 : -2147483648 ≤ x7) (h25 : x7 ≤ 2147483647) : x0 + x1 ≤ 2147483647 := by omega
theorem o36_292 {x0 x1 x2 x3 x5 x6 x7 x8 : Int} {x4 : Nat} (h0 : 0 ≤ x1) (h1 : x1 ≤ 60) (h2 : 0 ≤ x2) (h3 : x2 ≤ 24) (h4 : 0 ≤ x3) (h5 : x3 ≤ 4) (h6 : 4 - x3 < ((x4 + 1 : Nat) : Int)) (h7 : x5 = 4) (h8 : x3 < x5) (h9 : x6 = 100 * x1) (h10 : x7 = 4 * x2) (h11 : x8 = x6 + x7) (h12 : x0 = x8 + x3) : 0 ≤ x0 := by omega
theorem o36_293 {x0 x1 x2 x3 x5 x6 x7 x8 : Int} {x4 : Nat} (h0 : 0 ≤ x1) (h1 : x1 ≤ 60) (h2 : 0 ≤ x2) (h3 : x2 ≤ 24) (h4 : 0 ≤ x3) (h5 : x3 ≤ 4) (h6 : 4 - x3 < ((x4 + 1 : Nat) : Int)) (h7 : x5 = 4) (h8 : x3 < x5) (h9 : x6 = 100 * x1) (h10 : x7 = 4 * x2) (h11 : x8 = x6 + x7) (h12 : x0 = x8 + x3) : x0 < (6100 : Nat) := by omega
theorem o36_294 {x0 x1 x2 x4 x5 x6 x7 x8 : Int} {x3 : Nat} (h0 : 0 ≤ x1) (h1 : x1 ≤ 60) (h2 : 0 ≤ x2) (h3 : x2 ≤ 24) (h4 : 0 ≤ x0) (h5 : x0 ≤ 4) (h6 : 4 - x0 < ((x3 + 1 : Nat) : Int)) (h7 : x4 = 4) (h8 : x0 < x4) (h9 : x5 = 100 * x1) (h10 : x6 = 4 * x2) (h11 : x7 = x5 + x6) (h12 : x8 = x7 + x0) (h13 : -2147483648 ≤ x0) (h14 : x0 ≤ 2147483647) (h15 : -2147483648 ≤ x1) (h16 : x1 ≤ 2147483647) (h17 : -2147483648 ≤ x2) (h18 : x2 ≤ 2147483647) (h19 : -2147483648 ≤ x4) (h20 : x4 ≤ 2147483647) (h21 : -2147483648 ≤ x5) (h22 : x5 ≤ 2147483647) (h23 : -2147483648 ≤ x6) (h24 : x6 ≤ 2147483647) (h25 : -2147483648 ≤ x7) (h26 : x7 ≤ 2147483647) (h27 : -2147483648 ≤ x8) (h28 : x8 ≤ 2147483647) : -2147483648 ≤ x0 + 1 := by omega
theorem o36_295 {x0 x1 x2 x4 x5 x6 x7 x8 : Int} {x3 : Nat} (h0 : 0 ≤ x1) (h1 : x1 ≤ 60) (h2 : 0 ≤ x2) (h3 : x2 ≤ 24) (h4 : 0 ≤ x0) (h5 : x0 ≤ 4) (h6 : 4 - x0 < ((x3 + 1 : Nat) : Int)) (h7 : x4 = 4) (h8 : x0 < x4) (h9 : x5 = 100 * x1) (h10 : x6 = 4 * x2) (h11 : x7 = x5 + x6) (h12 : x8 = x7 + x0) (h13 : -2147483648 ≤ x0) (h14 : x0 ≤ 2147483647) (h15 : -2147483648 ≤ x1) (h16 : x1 ≤ 2147483647) (h17 : -2147483648 ≤ x2) (h18 : x2 ≤ 2147483647) (h19 : -2147483648 ≤ x4) (h20 : x4 ≤ 2147483647) (h21 : -2147483648 ≤ x5) (h22 : x5 ≤ 2147483647) (h23 : -2147483648 ≤ x6) (h24 : x6 ≤ 2147483647) (h25 : -2147483648 ≤ x7) (h26 : x7 ≤ 2147483647) (h27 : -2147483648 ≤ x8) (h28 : x8 ≤ 2147483647) : x0 + 1 ≤ 2147483647 := by omega
theorem o36_296 {x0 x2 x3 x4 x5 x6 x7 x8 x9 : Int} {x1 : Nat} (h0 : 0 ≤ x2) (h1 : x2 ≤ 60) (h2 : 0 ≤ x3) (h3 : x3 ≤ 24) (h4 : 0 ≤ x4) (h5 : x4 ≤ 4) (h6 : 4 - x4 < ((x1 + 1 : Nat) : Int)) (h7 : x5 = 4) (h8 : x4 < x5) (h9 : x6 = 100 * x2) (h10 : x7 = 4 * x3) (h11 : x8 = x6 + x7) (h12 : x9 = x8 + x4) (h13 : x0 = x4 + 1) : 4 - x0 < (x1 : Int) := by omega
theorem o36_297 {x0 x1 x2 x3 x5 x6 x7 x8 x9 : Int} {x4 : Nat} (h0 : 0 ≤ x1) (h1 : x1 ≤ 60) (h2 : 0 ≤ x2) (h3 : x2 ≤ 24) (h4 : 0 ≤ x3) (h5 : x3 ≤ 4) (h6 : 4 - x3 < ((x4 + 1 : Nat) : Int)) (h7 : x5 = 4) (h8 : x3 < x5) (h9 : x6 = 100 * x1) (h10 : x7 = 4 * x2) (h11 : x8 = x6 + x7) (h12 : x9 = x8 + x3) (h13 : x0 = x3 + 1) : 0 ≤ x0 := by omega
theorem o36_298 {x0 x1 x2 x3 x5 x6 x7 x8 x9 : Int} {x4 : Nat} (h0 : 0 ≤ x1) (h1 : x1 ≤ 60) (h2 : 0 ≤ x2) (h3 : x2 ≤ 24) (h4 : 0 ≤ x3) (h5 : x3 ≤ 4) (h6 : 4 - x3 < ((x4 + 1 : Nat) : Int)) (h7 : x5 = 4) (h8 : x3 < x5) (h9 : x6 = 100 * x1) (h10 : x7 = 4 * x2) (h11 : x8 = x6 + x7) (h12 : x9 = x8 + x3) (h13 : x0 = x3 + 1) : x0 ≤ 4 := by omega
theorem o36_299 {x0 x1 x2 x3 x5 x6 x7 x8 x9 : Int} {x4 : Nat} (h0 : 0 ≤ x1) (h1 : x1 ≤ 60) (h2 : 0 ≤ x2) (h3 : x2 ≤ 24) (h4 : 0 ≤ x3) (h5 : x3 ≤ 4) (h6 : 4 - x3 < ((x4 + 1 : Nat) : Int)) (h7 : x5 = 4) (h8 : x3 < x5) (h9 : x6 = 100 * x1) (h10 : x7 = 4 * x2) (h11 : x8 = x6 + x7) (h12 : x0 = x8 + x3) (h13 : x9 = x3 + 1) : (x0).toNat = 100 * (x1).toNat + 4 * (x2).toNat + (x3).toNat := by omega
theorem o36_300 {x0 x1 x2 x4 x5 x6 x7 x8 x9 : Int} {x3 : Nat} (h0 : 0 ≤ x1) (h1 : x1 ≤ 60) (h2 : 0 ≤ x2) (h3 : x2 ≤ 24) (h4 : 0 ≤ x0) (h5 : x0 ≤ 4) (h6 : 4 - x0 < ((x3 + 1 : Nat) : Int)) (h7 : x4 = 4) (h8 : x0 < x4) (h9 : x5 = 100 * x1) (h10 : x6 = 4 * x2) (h11 : x7 = x5 + x6) (h12 : x8 = x7 + x0) (h13 : x9 = x0 + 1) : 0 ≤ x0 := by omega
theorem o36_301 {x0 x1 x2 : Int} (h0 : (x0 = x1 ∨ x0 = x2)) (h1 : x0 ≤ x1 ∧ x0 ≤ x2) : (x0 = x1 ∨ x0 = x2) ∧ x0 ≤ x1 ∧ x0 ≤ x2 := by omega
theorem o36_302 {x0 x1 : Int} (h0 : 0 ≤ x1) (h1 : x1 ≤ 60) (h2 : 0 ≤ x0) (h3 : x0 ≤ 61) (h4 : x0 ≤ x1 + 1) (h5 : 61 - x0 < 0) : False := by omega
theorem o36_303 {x0 x1 : Int} {x2 : Nat} (h0 : 0 ≤ x1) (h1 : x1 ≤ 60) (h2 : 0 ≤ x0) (h3 : x0 ≤ 61) (h4 : x0 ≤ x1 + 1) (h5 : 61 - x0 < ((x2 + 1 : Nat) : Int)) (h6 : x1 < x0) : x0 ≤ x1 + 1 := by omega
theorem o36_304 {x0 x1 : Int} {x2 : Nat} (h0 : 0 ≤ x1) (h1 : x1 ≤ 60) (h2 : 0 ≤ x0) (h3 : x0 ≤ 61) (h4 : x0 ≤ x1 + 1) (h5 : 61 - x0 < ((x2 + 1 : Nat) : Int)) (h6 : x0 ≤ x1) : 0 ≤ x0 := by omega
theorem o36_305 {x0 x1 : Int} {x2 : Nat} (h0 : 0 ≤ x1) (h1 : x1 ≤ 60) (h2 : 0 ≤ x0) (h3 : x0 ≤ 61) (h4 : x0 ≤ x1 + 1) (h5 : 61 - x0 < ((x2 + 1 : Nat) : Int)) (h6 : x0 ≤ x1) : x0 ≤ 60 := by omega
theorem o36_306 {x0 x1 : Int} {x2 : Nat} (h0 : 0 ≤ x1) (h1 : x1 ≤ 60) (h2 : 0 ≤ x0) (h3 : x0 ≤ 61) (h4 : x0 ≤ x1 + 1) (h5 : 61 - x0 < ((x2 + 1 : Nat) : Int)) (h6 : x0 ≤ x1) (h7 : -2147483648 ≤ x0) (h8 : x0 ≤ 2147483647) (h9 : -2147483648 ≤ x1) (h10 : x1 ≤ 2147483647) : -2147483648 ≤ x0 + 1 := by omega
theorem o36_307 {x0 x1 : Int} {x2 : Nat} (h0 : 0 ≤ x1) (h1 : x1 ≤ 60) (h2 : 0 ≤ x0) (h3 : x0 ≤ 61) (h4 : x0 ≤ x1 + 1) (h5 : 61 - x0 < ((x2 + 1 : Nat) : Int)) (h6 : x0 ≤ x1) (h7 : -2147483648 ≤ x0) (h8 : x0 ≤ 2147483647) (h9 : -2147483648 ≤ x1) (h10 : x1 ≤ 2147483647) : x0 + 1 ≤ 2147483647 := by omega
theorem o36_308 {x0 x2 x3 : Int} {x1 : Nat} (h0 : 0 ≤ x2) (h1 : x2 ≤ 60) (h2 : 0 ≤ x3) (h3 : x3 ≤ 61) (h4 : x3 ≤ x2 + 1) (h5 : 61 - x3 < ((x1 + 1 : Nat) : Int)) (h6 : x3 ≤ x2) (h7 : x0 = x3 + 1) : 61 - x0 < (x1 : Int) := by omega
theorem o36_309 {x0 x1 x2 : Int} {x3 : Nat} (h0 : 0 ≤ x1) (h1 : x1 ≤ 60) (h2 : 0 ≤ x2) (h3 : x2 ≤ 61) (h4 : x2 ≤ x1 + 1) (h5 : 61 - x2 < ((x3 + 1 : Nat) : Int)) (h6 : x2 ≤ x1) (h7 : x0 = x2 + 1) : 0 ≤ x0 := by omega
theorem o36_310 {x0 x1 x2 : Int} {x3 : Nat} (h0 : 0 ≤ x1) (h1 : x1 ≤ 60) (h2 : 0 ≤ x2) (h3 : x2 ≤ 61) (h4 : x2 ≤ x1 + 1) (h5 : 61 - x2 < ((x3 + 1 : Nat) : Int)) (h6 : x2 ≤ x1) (h7 : x0 = x2 + 1) : x0 ≤ 61 := by omega
theorem o36_311 {x0 x1 x2 : Int} {x3 : Nat} (h0 : 0 ≤ x1) (h1 : x1 ≤ 60) (h2 : 0 ≤ x2) (h3 : x2 ≤ 61) (h4 : x2 ≤ x1 + 1) (h5 : 61 - x2 < ((x3 + 1 : Nat) : Int)) (h6 : x2 ≤ x1) (h7 : x0 = x2 + 1) : x0 ≤ x1 + 1 := by omega
theorem o36_312 {x0 x1 x3 : Int} {x2 : Nat} (h0 : 0 ≤ x1) (h1 : x1 ≤ 60) (h2 : 0 ≤ x0) (h3 : x0 ≤ 61) (h4 : x0 ≤ x1 + 1) (h5 : 61 - x0 < ((x2 + 1 : Nat) : Int)) (h6 : x0 ≤ x1) (h7 : x3 = x0 + 1) : 0 ≤ x0 := by omega
theorem o36_313 {x0 x1 x2 : Int} (h0 : (x0 = x1 ∨ x0 = x2)) (h1 : x0 ≤ x1 ∧ x0 ≤ x2) : x0 = x1 ∨ x0 = x2 := by omega
theorem o36_314 {x0 x1 : Int} (h0 : 0 ≤ x1) (h1 : x1 ≤ 60) (h2 : x0 = 0) : x0 ≤ x1 + 1 := by omega
theorem o36_315 {x0 : Int} (h0 : 0 ≤ x0) (h1 : x0 ≤ 60) : 0 ≤ x0 := by omega
theorem o36_316 {x0 : Int} (h0 : 0 ≤ x0) (h1 : x0 ≤ 60) : x0 ≤ 60 := by omega
theorem o36_317 {x0 x1 : Int} (h0 : 0 ≤ x1) (h1 : x1 ≤ 4) (h2 : x0 = 36) (h3 : -2147483648 ≤ x0) (h4 : x0 ≤ 2147483647) (h5 : -2147483648 ≤ x1) (h6 : x1 ≤ 2147483647) : -2147483648 ≤ x0 + x1 := by omega
theorem o36_318 {x0 x1 : Int} (h0 : 0 ≤ x1) (h1 : x1 ≤ 4) (h2 : x0 = 36) (h3 : -2147483648 ≤ x0) (h4 : x0 ≤ 2147483647) (h5 : -2147483648 ≤ x1) (h6 : x1 ≤ 2147483647) : x0 + x1 ≤ 2147483647 := by omega
theorem o36_319 {x0 x1 x2 : Int} (h0 : 0 ≤ x1) (h1 : x1 ≤ 4) (h2 : x2 = 36) (h3 : x0 = x2 + x1) : 0 ≤ x0 := by omega
theorem o36_320 {x0 x1 x2 : Int} (h0 : 0 ≤ x1) (h1 : x1 ≤ 4) (h2 : x2 = 36) (h3 : x0 = x2 + x1) : x0 < (5322 : Nat) := by omega
theorem o36_321 : ∀ p, p < 41 → 36 ≤ p → 0 ≤ (elAll p).1 ∧ (elAll p).2 ≤ 24 := by decide +kernel
theorem o36_322 {x0 x1 x2 : Int} (h0 : 0 ≤ x1) (h1 : x1 ≤ 4) (h2 : x2 = 36) (h3 : x0 = x2 + x1) : (x0).toNat < 41 := by omega
theorem o36_323 {x0 x1 x2 : Int} (h0 : 0 ≤ x1) (h1 : x1 ≤ 4) (h2 : x2 = 36) (h3 : x0 = x2 + x1) : 36 ≤ (x0).toNat := by omega
theorem o36_324 {x0 x1 x2 x3 : Int} (h0 : 0 ≤ x1) (h1 : x1 ≤ 4) (h2 : x2 = 36) (h3 : x3 = x2 + x1) (h4 : x0 = 41) (h5 : -2147483648 ≤ x0) (h6 : x0 ≤ 2147483647) (h7 : -2147483648 ≤ x1) (h8 : x1 ≤ 2147483647) (h9 : -2147483648 ≤ x2) (h10 : x2 ≤ 2147483647) (h11 : -2147483648 ≤ x3) (h12 : x3 ≤ 2147483647) : -2147483648 ≤ x0 + x1 := by omega
theorem o36_325 {x0 x1 x2 x3 : Int} (h0 : 0 ≤ x1) (h1 : x1 ≤ 4) (h2 : x2 = 36) (h3 : x3 = x2 + x1) (h4 : x0 = 41) (h5 : -2147483648 ≤ x0) (h6 : x0 ≤ 2147483647) (h7 : -2147483648 ≤ x1) (h8 : x1 ≤ 2147483647) (h9 : -2147483648 ≤ x2) (h10 : x2 ≤ 2147483647) (h11 : -2147483648 ≤ x3) (h12 : x3 ≤ 2147483647) : x0 + x1 ≤ 2147483647 := by omega
theorem o36_326 {x0 x1 x2 x3 x4 : Int} (h0 : 0 ≤ x1) (h1 : x1 ≤ 4) (h2 : x2 = 36) (h3 : x3 = x2 + x1) (h4 : x4 = 41) (h5 : x0 = x4 + x1) : 0 ≤ x0 := by omega
theorem o36_327 {x0 x1 x2 x3 x4 : Int} (h0 : 0 ≤ x1) (h1 : x1 ≤ 4) (h2 : x2 = 36) (h3 : x3 = x2 + x1) (h4 : x4 = 41) (h5 : x0 = x4 + x1) : x0 < (5322 : Nat) := by omega
theorem o36_328 : ∀ p, p < 46 → 41 ≤ p → 0 ≤ (elAll p).1 ∧ (elAll p).2 ≤ 3 := by decide +kernel
theorem o36_329 {x0 x1 x2 x3 x4 : Int} (h0 : 0 ≤ x1) (h1 : x1 ≤ 4) (h2 : x2 = 36) (h3 : x3 = x2 + x1) (h4 : x4 = 41) (h5 : x0 = x4 + x1) : (x0).toNat < 46 := by omega
theorem o36_330 {x0 x1 x2 x3 x4 : Int} (h0 : 0 ≤ x1) (h1 : x1 ≤ 4) (h2 : x2 = 36) (h3 : x3 = x2 + x1) (h4 : x4 = 41) (h5 : x0 = x4 + x1) : 41 ≤ (x0).toNat := by omega
theorem o36_331 {x0 : Int} (h0 : x0 = 60) : x0 = 60 := by omega
theorem o36_332 {x0 x2 : Int} {x1 : Nat} (h0 : 0 ≤ x0) (h1 : x0 ≤ 61) (h2 : 61 - x0 < ((x1 + 1 : Nat) : Int)) (h3 : x2 = 60) (h4 : x2 < x0) : 60 < x0 := by omega
theorem o36_333 {x0 x2 : Int} {x1 : Nat} (h0 : 0 ≤ x0) (h1 : x0 ≤ 61) (h2 : 61 - x0 < ((x1 + 1 : Nat) : Int)) (h3 : x2 = 60) (h4 : x0 ≤ x2) : ¬ 60 < x0 := by omega
theorem o36_334 {x0 : Int} (h0 : x0 = (-1)) : (-1) ≤ x0 := by omega
theorem o36_335 {x0 : Int} (h0 : x0 = (-1)) : x0 ≤ 60 := by omega
theorem o36_336 {x0 x2 : Int} {x1 : Nat} (h0 : 0 ≤ x0) (h1 : x0 ≤ 61) (h2 : 61 - x0 < ((x1 + 1 : Nat) : Int)) (h3 : x2 = 60) (h4 : x0 ≤ x2) : 0 ≤ x0 := by omega
theorem o36_337 {x0 x2 : Int} {x1 : Nat} (h0 : 0 ≤ x0) (h1 : x0 ≤ 61) (h2 : 61 - x0 < ((x1 + 1 : Nat) : Int)) (h3 : x2 = 60) (h4 : x0 ≤ x2) : x0 ≤ 60 := by omega
theorem o36_338 {x0 x2 : Int} {x1 : Nat} (h0 : 0 ≤ x0) (h1 : x0 ≤ 61) (h2 : 61 - x0 < ((x1 + 1 : Nat) : Int)) (h3 : x2 = 60) (h4 : x0 ≤ x2) (h5 : -2147483648 ≤ x0) (h6 : x0 ≤ 2147483647) (h7 : -2147483648 ≤ x2) (h8 : x2 ≤ 2147483647) : -2147483648 ≤ x0 + 1 := by omega
theorem o36_339 {x0 x2 : Int} {x1 : Nat} (h0 : 0 ≤ x0) (h1 : x0 ≤ 61) (h2 : 61 - x0 < ((x1 + 1 : Nat) : Int)) (h3 : x2 = 60) (h4 : x0 ≤ x2) (h5 : -2147483648 ≤ x0) (h6 : x0 ≤ 2147483647) (h7 : -2147483648 ≤ x2) (h8 : x2 ≤ 2147483647) : x0 + 1 ≤ 2147483647 := by omega
theorem o36_340 {x0 x2 x3 : Int} {x1 : Nat} (h0 : 0 ≤ x2) (h1 : x2 ≤ 61) (h2 : 61 - x2 < ((x1 + 1 : Nat) : Int)) (h3 : x3 = 60) (h4 : x2 ≤ x3) (h5 : x0 = x2 + 1) : 61 - x0 < (x1 : Int) := by omega
theorem o36_341 {x0 x1 x3 : Int} {x2 : Nat} (h0 : 0 ≤ x1) (h1 : x1 ≤ 61) (h2 : 61 - x1 < ((x2 + 1 : Nat) : Int)) (h3 : x3 = 60) (h4 : x1 ≤ x3) (h5 : x0 = x1 + 1) : 0 ≤ x0 := by omega
theorem o36_342 {x0 x1 x3 : Int} {x2 : Nat} (h0 : 0 ≤ x1) (h1 : x1 ≤ 61) (h2 : 61 - x1 < ((x2 + 1 : Nat) : Int)) (h3 : x3 = 60) (h4 : x1 ≤ x3) (h5 : x0 = x1 + 1) : x0 ≤ 61 := by omega
theorem o36_343 {x0 x1 : Int} (h0 : x0 < x1) : x0 < x1 := by omega
theorem o36_344 {x0 x2 : Int} {x1 : Nat} (h0 : 0 ≤ x0) (h1 : x0 ≤ 61) (h2 : 61 - x0 < ((x1 + 1 : Nat) : Int)) (h3 : x2 = 60) (h4 : x0 ≤ x2) : (-1) ≤ x0 := by omega
theorem o36_345 {x0 : Int} (h0 : 0 ≤ x0) (h1 : x0 ≤ 4) : 0 ≤ x0 := by omega
theorem o36_346 {x0 : Int} (h0 : 0 ≤ x0) (h1 : x0 ≤ 4) : x0 ≤ 4 := by omega
theorem o36_347 {x0 : Int} (h0 : x0 = 60) : 0 ≤ x0 := by omega
theorem o36_348 {x0 : Int} (h0 : x0 = 60) : x0 ≤ 60 := by omega
theorem o36_349 {x0 : Int} (h0 : x0 = 0) : x0 ≤ 1 := by omega
theorem o36_350 {x0 : Int} (h0 : (-1) ≤ x0) (h1 : x0 ≤ 60) : (-1) ≤ x0 := by omega
theorem o36_351 {x0 : Int} (h0 : (-1) ≤ x0) (h1 : x0 ≤ 60) : x0 ≤ 60 := by omega
theorem o36_352 {x0 : Int} (h0 : x0 = (-3)) : (-3) ≤ x0 := by omega
theorem o36_353 {x0 : Int} (h0 : x0 = (-3)) : x0 ≤ 60 := by omega
theorem o36_354 {x0 x1 x2 : Int} (h0 : 0 ≤ x1) (h1 : x1 ≤ 1) (h2 : (x1 = 0 ∨ (0 ≤ x0 ∧ x0 ≤ 4 ∧ 0 ≤ x2 ∧ x2 ≤ 24))) (h3 : ¬ x1 = 0) : 0 ≤ x0 := by omega
theorem o36_355 {x0 x1 x2 : Int} (h0 : 0 ≤ x1) (h1 : x1 ≤ 1) (h2 : (x1 = 0 ∨ (0 ≤ x0 ∧ x0 ≤ 4 ∧ 0 ≤ x2 ∧ x2 ≤ 24))) (h3 : ¬ x1 = 0) : x0 ≤ 4 := by omega
theorem o36_356 {x0 x1 x2 : Int} (h0 : 0 ≤ x1) (h1 : x1 ≤ 1) (h2 : (x1 = 0 ∨ (0 ≤ x2 ∧ x2 ≤ 4 ∧ 0 ≤ x0 ∧ x0 ≤ 24))) (h3 : ¬ x1 = 0) : 0 ≤ x0 := by omega
theorem o36_357 {x0 x1 x2 : Int} (h0 : 0 ≤ x1) (h1 : x1 ≤ 1) (h2 : (x1 = 0 ∨ (0 ≤ x2 ∧ x2 ≤ 4 ∧ 0 ≤ x0 ∧ x0 ≤ 24))) (h3 : ¬ x1 = 0) : x0 ≤ 24 := by omega
theorem o36_358 {x0 x1 x2 : Int} (h0 : 0 ≤ x0) (h1 : x0 ≤ 1) (h2 : (x0 = 0 ∨ (0 ≤ x1 ∧ x1 ≤ 4 ∧ 0 ≤ x2 ∧ x2 ≤ 24))) (h3 : ¬ x0 = 0) : ¬ x0 = 0 := by omega
theorem o36_359 {x0 : Int} (h0 : (-1) ≤ x0) (h1 : x0 ≤ 60) : (-3) ≤ x0 := by omega
theorem o36_360 {x0 : Int} (h0 : x0 = (-2)) : (-3) ≤ x0 := by omega
theorem o36_361 {x0 : Int} (h0 : x0 = (-2)) : x0 ≤ 60 := by omega
theorem o36_362 {x0 : Int} (h0 : 0 ≤ x0) (h1 : x0 ≤ 99) : x0 ≤ 99 := by omega
theorem o36_363 {x0 x1 : Int} {x2 : Nat} (h0 : 0 ≤ x1) (h1 : x1 ≤ 60) (h2 : 0 ≤ x0) (h3 : x0 ≤ 60) (h4 : 60 - x0 < ((x2 + 1 : Nat) : Int)) (h5 : x0 < x1) (h6 : -2147483648 ≤ x0) (h7 : x0 ≤ 2147483647) (h8 : -2147483648 ≤ x1) (h9 : x1 ≤ 2147483647) : -2147483648 ≤ x0 + 1 := by omega
theorem o36_364 {x0 x1 : Int} {x2 : Nat} (h0 : 0 ≤ x1) (h1 : x1 ≤ 60) (h2 : 0 ≤ x0) (h3 : x0 ≤ 60) (h4 : 60 - x0 < ((x2 + 1 : Nat) : Int)) (h5 : x0 < x1) (h6 : -2147483648 ≤ x0) (h7 : x0 ≤ 2147483647) (h8 : -2147483648 ≤ x1) (h9 : x1 ≤ 2147483647) : x0 + 1 ≤ 2147483647 := by omega
theorem o36_365 {x0 x2 x3 : Int} {x1 : Nat} (h0 : 0 ≤ x2) (h1 : x2 ≤ 60) (h2 : 0 ≤ x3) (h3 : x3 ≤ 60) (h4 : 60 - x3 < ((x1 + 1 : Nat) : Int)) (h5 : x3 < x2) (h6 : x0 = x3 + 1) : 60 - x0 < (x1 : Int) := by omega
theorem o36_366 {x0 x1 x2 : Int} {x3 : Nat} (h0 : 0 ≤ x1) (h1 : x1 ≤ 60) (h2 : 0 ≤ x2) (h3 : x2 ≤ 60) (h4 : 60 - x2 < ((x3 + 1 : Nat) : Int)) (h5 : x2 < x1) (h6 : x0 = x2 + 1) : 0 ≤ x0 := by omega
theorem o36_367 {x0 x1 x2 : Int} {x3 : Nat} (h0 : 0 ≤ x1) (h1 : x1 ≤ 60) (h2 : 0 ≤ x2) (h3 : x2 ≤ 60) (h4 : 60 - x2 < ((x3 + 1 : Nat) : Int)) (h5 : x2 < x1) (h6 : x0 = x2 + 1) : x0 ≤ 60 := by omega
theorem o36_368 {x0 x1 : Int} {x2 : Nat} (h0 : 0 ≤ x1) (h1 : x1 ≤ 60) (h2 : 0 ≤ x0) (h3 : x0 ≤ 60) (h4 : 60 - x0 < ((x2 + 1 : Nat) : Int)) (h5 : x0 < x1) : 0 ≤ x0 := by omega
theorem o36_369 {x0 x1 : Int} {x2 : Nat} (h0 : 0 ≤ x1) (h1 : x1 ≤ 60) (h2 : 0 ≤ x0) (h3 : x0 ≤ 60) (h4 : 60 - x0 < ((x2 + 1 : Nat) : Int)) (h5 : x0 < x1) : x0 ≤ 60 := by omega
theorem o36_370 {x0 x1 x2 x3 : Int} (h0 : 0 ≤ x1) (h1 : x1 ≤ 99) (h2 : x2 = x1 / 4) (h3 : x3 = x1 % 4) (h4 : x0 = x1 % 4) : 0 ≤ x0 := by omega
theorem o36_371 {x0 x1 x2 x3 : Int} (h0 : 0 ≤ x1) (h1 : x1 ≤ 99) (h2 : x2 = x1 / 4) (h3 : x3 = x1 % 4) (h4 : x0 = x1 % 4) : x0 ≤ 3 := by omega
theorem o36_372 {x0 x1 x2 x3 : Int} (h0 : 0 ≤ x0) (h1 : x0 ≤ 99) (h2 : x1 = x0 / 4) (h3 : x2 = x0 % 4) (h4 : x3 = x0 % 4) : 0 ≤ x0 := by omega
theorem o36_373 {x0 x1 x2 x3 x4 : Int} (h0 : 0 ≤ x1) (h1 : x1 ≤ 99) (h2 : x2 = x1 / 4) (h3 : x3 = x1 % 4) (h4 : x4 = x1 % 4) (h5 : x0 = x1 / 4) : 0 ≤ x0 := by omega
theorem o36_374 {x0 x1 x2 x3 x4 : Int} (h0 : 0 ≤ x1) (h1 : x1 ≤ 99) (h2 : x2 = x1 / 4) (h3 : x3 = x1 % 4) (h4 : x4 = x1 % 4) (h5 : x0 = x1 / 4) : x0 ≤ 24 := by omega
theorem o36_375 {x0 x1 x2 x3 x4 : Int} (h0 : 0 ≤ x2) (h1 : x2 ≤ 99) (h2 : x1 = x2 / 4) (h3 : x3 = x2 % 4) (h4 : x4 = x2 % 4) (h5 : x0 = x2 / 4) : x0 = x1 := by omega
theorem o36_376 {x0 x1 x2 x3 x4 : Int} (h0 : 0 ≤ x1) (h1 : x1 ≤ 99) (h2 : x0 = x1 / 4) (h3 : x2 = x1 % 4) (h4 : x3 = x1 % 4) (h5 : x4 = x1 / 4) : x0 ≤ 24 := by omega
theorem o36_377 {x0 x1 x2 x3 x4 : Int} (h0 : 0 ≤ x2) (h1 : x2 ≤ 99) (h2 : x3 = x2 / 4) (h3 : x1 = x2 % 4) (h4 : x0 = x2 % 4) (h5 : x4 = x2 / 4) : x0 = x1 := by omega
theorem o36_378 {x0 x1 x2 : Int} (h0 : 0 ≤ x1) (h1 : x1 ≤ 3) (h2 : (-1) ≤ x2) (h3 : x2 ≤ 24) (h4 : 0 ≤ x2) (h5 : x0 = 4 * x2) (h6 : -2147483648 ≤ x0) (h7 : x0 ≤ 2147483647) (h8 : -2147483648 ≤ x1) (h9 : x1 ≤ 2147483647) (h10 : -2147483648 ≤ x2) (h11 : x2 ≤ 2147483647) : -2147483648 ≤ x0 + x1 := by omega
theorem o36_379 {x0 x1 x2 : Int} (h0 : 0 ≤ x1) (h1 : x1 ≤ 3) (h2 : (-1) ≤ x2) (h3 : x2 ≤ 24) (h4 : 0 ≤ x2) (h5 : x0 = 4 * x2) (h6 : -2147483648 ≤ x0) (h7 : x0 ≤ 2147483647) (h8 : -2147483648 ≤ x1) (h9 : x1 ≤ 2147483647) (h10 : -2147483648 ≤ x2) (h11 : x2 ≤ 2147483647) : x0 + x1 ≤ 2147483647 := by omega
theorem o36_380 {x0 x1 x2 : Int} {x3 : Nat} (h0 : 0 ≤ x2) (h1 : x2 ≤ 60) (h2 : 0 ≤ x0) (h3 : x0 ≤ 60) (h4 : 60 - x0 < ((x3 + 1 : Nat) : Int)) (h5 : x0 < x2) (h6 : x1 = 1) (h7 : -2147483648 ≤ x0) (h8 : x0 ≤ 2147483647) (h9 : -2147483648 ≤ x1) (h10 : x1 ≤ 2147483647) (h11 : -2147483648 ≤ x2) (h12 : x2 ≤ 2147483647) : -2147483648 ≤ x0 + x1 := by omega
theorem o36_381 {x0 x1 x2 : Int} {x3 : Nat} (h0 : 0 ≤ x2) (h1 : x2 ≤ 60) (h2 : 0 ≤ x0) (h3 : x0 ≤ 60) (h4 : 60 - x0 < ((x3 + 1 : Nat) : Int)) (h5 : x0 < x2) (h6 : x1 = 1) (h7 : -2147483648 ≤ x0) (h8 : x0 ≤ 2147483647) (h9 : -2147483648 ≤ x1) (h10 : x1 ≤ 2147483647) (h11 : -2147483648 ≤ x2) (h12 : x2 ≤ 2147483647) : x0 + x1 ≤ 2147483647 := by omega
theorem o36_382 {x0 x1 x2 x4 : Int} {x3 : Nat} (h0 : 0 ≤ x1) (h1 : x1 ≤ 60) (h2 : 0 ≤ x2) (h3 : x2 ≤ 60) (h4 : 60 - x2 < ((x3 + 1 : Nat) : Int)) (h5 : x2 < x1) (h6 : x4 = 1) (h7 : x0 = x2 + x4) (h8 : -2147483648 ≤ x0) (h9 : x0 ≤ 2147483647) (h10 : -2147483648 ≤ x1) (h11 : x1 ≤ 2147483647) (h12 : -2147483648 ≤ x2) (h13 : x2 ≤ 2147483647) (h14 : -2147483648 ≤ x4) (h15 : x4 ≤ 2147483647) : -2147483648 ≤ 100 * x0 := by omega
theorem o36_383 {x0 x1 x2 x4 : Int} {x3 : Nat} (h0 : 0 ≤ x1) (h1 : x1 ≤ 60) (h2 : 0 ≤ x2) (h3 : x2 ≤ 60) (h4 : 60 - x2 < ((x3 + 1 : Nat) : Int)) (h5 : x2 < x1) (h6 : x4 = 1) (h7 : x0 = x2 + x4) (h8 : -2147483648 ≤ x0) (h9 : x0 ≤ 2147483647) (h10 : -2147483648 ≤ x1) (h11 : x1 ≤ 2147483647) (h12 : -2147483648 ≤ x2) (h13 : x2 ≤ 2147483647) (h14 : -2147483648 ≤ x4) (h15 : x4 ≤ 2147483647) : 100 * x0 ≤ 2147483647 := by omega
theorem o36_384 {x0 x1 x2 x3 x5 x6 x7 x8 x9 : Int} {x4 : Nat} (h0 : 0 ≤ x2) (h1 : x2 ≤ 60) (h2 : 0 ≤ x3) (h3 : x3 ≤ 60) (h4 : 60 - x3 < ((x4 + 1 : Nat) : Int)) (h5 : x3 < x2) (h6 : 0 ≤ x5) (h7 : x5 ≤ 3) (h8 : (-1) ≤ x6) (h9 : x6 ≤ 24) (h10 : 0 ≤ x6) (h11 : x7 = 4 * x6) (h12 : x1 = x7 + x5) (h13 : x8 = 1) (h14 : x9 = x3 + x8) (h15 : x0 = 100 * x9) (h16 : -2147483648 ≤ x0) (h17 : x0 ≤ 2147483647) (h18 : -2147483648 ≤ x1) (h19 : x1 ≤ 2147483647) (h20 : -2147483648 ≤ x2) (h21 : x2 ≤ 2147483647) (h22 : -2147483648 ≤ x3) (h23 : x3 ≤ 2147483647) (h24 : -2147483648 ≤ x5) (h25 : x5 ≤ 2147483647) (h26 : -2147483648 ≤ x6) (h27 : x6 ≤ 2147483647) (h28 : -2147483648 ≤ x7) (h29 : x7 ≤ 2147483647) (h30 : -2147483648 ≤ x8) (h31 : x8 ≤ 2147483647) (h32 : -2147483648 ≤ x9) (h33 : x9 ≤ 2147483647) : -2147483648 ≤ x0 + x1 := by omega
theorem o36_385 {x0 x1 x2 x3 x5 x6 x7 x8 x9 : Int} {x4 : Nat} (h0 : 0 ≤ x2) (h1 : x2 ≤ 60) (h2 : 0 ≤ x3) (h3 : x3 ≤ 60) (h4 : 60 - x3 < ((x4 + 1 : Nat) : Int)) (h5 : x3 < x2) (h6 : 0 ≤ x5) (h7 : x5 ≤ 3) (h8 : (-1) ≤ x6) (h9 : x6 ≤ 24) (h10 : 0 ≤ x6) (h11 : x7 = 4 * x6) (h12 : x1 = x7 + x5) (h13 : x8 = 1) (h14 : x9 = x3 + x8) (h15 : x0 = 100 * x9) (h16 : -2147483648 ≤ x0) (h17 : x0 ≤ 2147483647) (h18 : -2147483648 ≤ x1) (h19 : x1 ≤ 2147483647) (h20 : -2147483648 ≤ x2) (h21 : x2 ≤ 2147483647) (h22 : -2147483648 ≤ x3) (h23 : x3 ≤ 2147483647) (h24 : -2147483648 ≤ x5) (h25 : x5 ≤ 2147483647) (h26 : -2147483648 ≤ x6) (h27 : x6 ≤ 2147483647) (h28 : -2147483648 ≤ x7) (h29 : x7 ≤ 2147483647) (h30 : -2147483648 ≤ x8) (h31 : x8 ≤ 2147483647) (h32 : -2147483648 ≤ x9) (h33 : x9 ≤ 2147483647) : x0 + x1 ≤ 2147483647 := by omega
theorem o36_386 {x0 x1 x2 x4 x5 x6 x7 x8 x9 x10 : Int} {x3 : Nat} (h0 : 0 ≤ x1) (h1 : x1 ≤ 60) (h2 : 0 ≤ x2) (h3 : x2 ≤ 60) (h4 : 60 - x2 < ((x3 + 1 : Nat) : Int)) (h5 : x2 < x1) (h6 : 0 ≤ x4) (h7 : x4 ≤ 3) (h8 : (-1) ≤ x5) (h9 : x5 ≤ 24) (h10 : 0 ≤ x5) (h11 : x6 = 4 * x5) (h12 : x7 = x6 + x4) (h13 : x8 = 1) (h14 : x9 = x2 + x8) (h15 : x10 = 100 * x9) (h16 : x0 = x10 + x7) : 0 ≤ x0 := by omega
theorem o36_387 {x0 x1 x2 x4 x5 x6 x7 x8 x9 x10 : Int} {x3 : Nat} (h0 : 0 ≤ x1) (h1 : x1 ≤ 60) (h2 : 0 ≤ x2) (h3 : x2 ≤ 60) (h4 : 60 - x2 < ((x3 + 1 : Nat) : Int)) (h5 : x2 < x1) (h6 : 0 ≤ x4) (h7 : x4 ≤ 3) (h8 : (-1) ≤ x5) (h9 : x5 ≤ 24) (h10 : 0 ≤ x5) (h11 : x6 = 4 * x5) (h12 : x7 = x6 + x4) (h13 : x8 = 1) (h14 : x9 = x2 + x8) (h15 : x10 = 100 * x9) (h16 : x0 = x10 + x7) : x0 < (6100 : Nat) := by omega
theorem o36_388 {x0 x1 x3 x4 x5 x6 x7 x8 x9 x10 : Int} {x2 : Nat} (h0 : 0 ≤ x1) (h1 : x1 ≤ 60) (h2 : 0 ≤ x0) (h3 : x0 ≤ 60) (h4 : 60 - x0 < ((x2 + 1 : Nat) : Int)) (h5 : x0 < x1) (h6 : 0 ≤ x3) (h7 : x3 ≤ 3) (h8 : (-1) ≤ x4) (h9 : x4 ≤ 24) (h10 : 0 ≤ x4) (h11 : x5 = 4 * x4) (h12 : x6 = x5 + x3) (h13 : x7 = 1) (h14 : x8 = x0 + x7) (h15 : x9 = 100 * x8) (h16 : x10 = x9 + x6) : 0 ≤ x0 := by omega
theorem o36_389 {x0 x1 x3 x4 x5 x6 x7 x8 x9 x10 : Int} {x2 : Nat} (h0 : 0 ≤ x1) (h1 : x1 ≤ 60) (h2 : 0 ≤ x0) (h3 : x0 ≤ 60) (h4 : 60 - x0 < ((x2 + 1 : Nat) : Int)) (h5 : x0 < x1) (h6 : 0 ≤ x3) (h7 : x3 ≤ 3) (h8 : (-1) ≤ x4) (h9 : x4 ≤ 24) (h10 : 0 ≤ x4) (h11 : x5 = 4 * x4) (h12 : x6 = x5 + x3) (h13 : x7 = 1) (h14 : x8 = x0 + x7) (h15 : x9 = 100 * x8) (h16 : x10 = x9 + x6) : x0 < (60 : Nat) := by omega
theorem o36_390 {x0 x1 x3 x4 x5 x6 x7 x8 x9 x10 : Int} {x2 : Nat} (h0 : 0 ≤ x1) (h1 : x1 ≤ 60) (h2 : 0 ≤ x0) (h3 : x0 ≤ 60) (h4 : 60 - x0 < ((x2 + 1 : Nat) : Int)) (h5 : x0 < x1) (h6 : 0 ≤ x3) (h7 : x3 ≤ 3) (h8 : (-1) ≤ x4) (h9 : x4 ≤ 24) (h10 : 0 ≤ x4) (h11 : x5 = 4 * x4) (h12 : x6 = x5 + x3) (h13 : x7 = 1) (h14 : x8 = x0 + x7) (h15 : x9 = 100 * x8) (h16 : x10 = x9 + x6) (h17 : -2147483648 ≤ x0) (h18 : x0 ≤ 2147483647) (h19 : -2147483648 ≤ x1) (h20 : x1 ≤ 2147483647) (h21 : -2147483648 ≤ x3) (h22 : x3 ≤ 2147483647) (h23 : -2147483648 ≤ x4) (h24 : x4 ≤ 2147483647) (h25 : -2147483648 ≤ x5) (h26 : x5 ≤ 2147483647) (h27 : -2147483648 ≤ x6) (h28 : x6 ≤ 2147483647) (h29 : -2147483648 ≤ x7) (h30 : x7 ≤ 2147483647) (h31 : -2147483648 ≤ x8) (h32 : x8 ≤ 2147483647) (h33 : -2147483648 ≤ x9) (h34 : x9 ≤ 2147483647) (h35 : -2147483648 ≤ x10) (h36 : x10 ≤ 2147483647) : -2147483648 ≤ x0 + 1 := by omega
theorem o36_391 {x0 x1 x3 x4 x5 x6 x7 x8 x9 x10 : Int} {x2 : Nat} (h0 : 0 ≤ x1) (h1 : x1 ≤ 60) (h2 : 0 ≤ x0) (h3 : x0 ≤ 60) (h4 : 60 - x0 < ((x2 + 1 : Nat) : Int)) (h5 : x0 < x1) (h6 : 0 ≤ x3) (h7 : x3 ≤ 3) (h8 : (-1) ≤ x4) (h9 : x4 ≤ 24) (h10 : 0 ≤ x4) (h11 : x5 = 4 * x4) (h12 : x6 = x5 + x3) (h13 : x7 = 1) (h14 : x8 = x0 + x7) (h15 : x9 = 100 * x8) (h16 : x10 = x9 + x6) (h17 : -2147483648 ≤ x0) (h18 : x0 ≤ 2147483647) (h19 : -2147483648 ≤ x1) (h20 : x1 ≤ 2147483647) (h21 : -2147483648 ≤ x3) (h22 : x3 ≤ 2147483647) (h23 : -2147483648 ≤ x4) (h24 : x4 ≤ 2147483647) (h25 : -2147483648 ≤ x5) (h26 : x5 ≤ 2147483647) (h27 : -2147483648 ≤ x6) (h28 : x6 ≤ 2147483647) (h29 : -2147483648 ≤ x7) (h30 : x7 ≤ 2147483647) (h31 : -2147483648 ≤ x8) (h32 : x8 ≤ 2147483647) (h33 : -2147483648 ≤ x9) (h34 : x9 ≤ 2147483647) (h35 : -2147483648 ≤ x10) (h36 : x10 ≤ 2147483647) : x0 + 1 ≤ 2147483647 := by omega
theorem o36_392 {x0 x2 x3 x4 x5 x6 x7 x8 x9 x10 x11 : Int} {x1 : Nat} (h0 : 0 ≤ x2) (h1 : x2 ≤ 60) (h2 : 0 ≤ x3) (h3 : x3 ≤ 60) (h4 : 60 - x3 < ((x1 + 1 : Nat) : Int)) (h5 : x3 < x2) (h6 : 0 ≤ x4) (h7 : x4 ≤ 3) (h8 : (-1) ≤ x5) (h9 : x5 ≤ 24) (h10 : 0 ≤ x5) (h11 : x6 = 4 * x5) (h12 : x7 = x6 + x4) (h13 : x8 = 1) (h14 : x9 = x3 + x8) (h15 : x10 = 100 * x9) (h16 : x11 = x10 + x7) (h17 : x0 = x3 + 1) : 60 - x0 < (x1 : Int) := by omega
theorem o36_393 {x0 x1 x2 x4 x5 x6 x7 x8 x9 x10 x11 : Int} {x3 : Nat} (h0 : 0 ≤ x1) (h1 : x1 ≤ 60) (h2 : 0 ≤ x2) (h3 : x2 ≤ 60) (h4 : 60 - x2 < ((x3 + 1 : Nat) : Int)) (h5 : x2 < x1) (h6 : 0 ≤ x4) (h7 : x4 ≤ 3) (h8 : (-1) ≤ x5) (h9 : x5 ≤ 24) (h10 : 0 ≤ x5) (h11 : x6 = 4 * x5) (h12 : x7 = x6 + x4) (h13 : x8 = 1) (h14 : x9 = x2 + x8) (h15 : x10 = 100 * x9) (h16 : x11 = x10 + x7) (h17 : x0 = x2 + 1) : 0 ≤ x0 := by omega
theorem o36_394 {x0 x1 x2 x4 x5 x6 x7 x8 x9 x10 x11 : Int} {x3 : Nat} (h0 : 0 ≤ x1) (h1 : x1 ≤ 60) (h2 : 0 ≤ x2) (h3 : x2 ≤ 60) (h4 : 60 - x2 < ((x3 + 1 : Nat) : Int)) (h5 : x2 < x1) (h6 : 0 ≤ x4) (h7 : x4 ≤ 3) (h8 : (-1) ≤ x5) (h9 : x5 ≤ 24) (h10 : 0 ≤ x5) (h11 : x6 = 4 * x5) (h12 : x7 = x6 + x4) (h13 : x8 = 1) (h14 : x9 = x2 + x8) (h15 : x10 = 100 * x9) (h16 : x11 = x10 + x7) (h17 : x0 = x2 + 1) : x0 ≤ 60 := by omega
theorem o36_395 {x0 x1 x2 x4 x5 x6 x7 x8 x9 x10 x11 : Int} {x3 : Nat} (h0 : 0 ≤ x1) (h1 : x1 ≤ 60) (h2 : 0 ≤ x2) (h3 : x2 ≤ 60) (h4 : 60 - x2 < ((x3 + 1 : Nat) : Int)) (h5 : x2 < x1) (h6 : 0 ≤ x4) (h7 : x4 ≤ 3) (h8 : (-1) ≤ x5) (h9 : x5 ≤ 24) (h10 : 0 ≤ x5) (h11 : x6 = 4 * x5) (h12 : x0 = x6 + x4) (h13 : x7 = 1) (h14 : x8 = x2 + x7) (h15 : x9 = 100 * x8) (h16 : x10 = x9 + x0) (h17 : x11 = x2 + 1) : 0 ≤ x0 := by omega
theorem o36_396 {x0 x1 x2 x4 x5 x6 x7 x8 x9 x10 x11 : Int} {x3 : Nat} (h0 : 0 ≤ x1) (h1 : x1 ≤ 60) (h2 : 0 ≤ x2) (h3 : x2 ≤ 60) (h4 : 60 - x2 < ((x3 + 1 : Nat) : Int)) (h5 : x2 < x1) (h6 : 0 ≤ x4) (h7 : x4 ≤ 3) (h8 : (-1) ≤ x5) (h9 : x5 ≤ 24) (h10 : 0 ≤ x5) (h11 : x6 = 4 * x5) (h12 : x0 = x6 + x4) (h13 : x7 = 1) (h14 : x8 = x2 + x7) (h15 : x9 = 100 * x8) (h16 : x10 = x9 + x0) (h17 : x11 = x2 + 1) : x0 ≤ 99 := by omega
theorem o36_397 {x0 x1 x2 x3 : Int} (h0 : 0 ≤ x1) (h1 : x1 ≤ 24) (h2 : 0 ≤ x2) (h3 : x2 ≤ 3) (h4 : x3 = 4 * x1) (h5 : x0 = x3 + x2) : x0 ≤ 99 := by omega
theorem o36_398 {x0 x1 : Int} (h0 : (-1) ≤ x0) (h1 : x0 ≤ 60) (h2 : x1 = (-1)) (h3 : x0 = x1) : x0 = (-1) := by omega
theorem o36_399 {x0 x1 : Int} (h0 : (-1) ≤ x0) (h1 : x0 ≤ 60) (h2 : x1 = (-1)) (h3 : ¬ x0 = x1) : ¬ x0 = (-1) := by omega
theorem o36_400 {x0 x1 : Int} (h0 : (-1) ≤ x0) (h1 : x0 ≤ 60) (h2 : x1 = (-1)) (h3 : x0 = x1) : (-1) ≤ x0 := by omega
theorem o36_401 {x0 x1 : Int} (h0 : (-1) ≤ x0) (h1 : x0 ≤ 60) (h2 : x1 = (-1)) (h3 : x0 = x1) : x0 ≤ 60 := by omega
theorem o36_402 {x0 x1 : Int} (h0 : (-1) ≤ x0) (h1 : x0 ≤ 60) (h2 : x1 = (-1)) (h3 : ¬ x0 = x1) : 0 ≤ x0 := by omega
theorem o36_403 {x0 x1 : Int} (h0 : (-1) ≤ x0) (h1 : x0 ≤ 60) (h2 : x1 = (-1)) (h3 : ¬ x0 = x1) : x0 ≤ 60 := by omega
theorem o36_404 {x0 x1 : Int} (h0 : (-1) ≤ x0) (h1 : x0 ≤ 60) (h2 : x1 = (-1)) (h3 : ¬ x0 = x1) : (-1) ≤ x0 := by omega
theorem o36_405 {x0 : Int} (h0 : x0 = (-3)) : x0 ≤ 3 := by omega
theorem o36_406 {x0 : Int} (h0 : x0 = (-1)) : (-3) ≤ x0 := by omega
theorem o36_407 {x0 : Int} (h0 : x0 = (-1)) : x0 ≤ 3 := by omega
theorem o36_408 {x0 x1 : Int} (h0 : 0 ≤ x0) (h1 : (-1) ≤ x1) (h2 : x1 ≤ 60) (h3 : x0 < x1) : 0 ≤ x0 := by omega
theorem o36_409 {x0 x1 : Int} (h0 : 0 ≤ x0) (h1 : (-1) ≤ x1) (h2 : x1 ≤ 60) (h3 : x0 < x1) : x0 < (60 : Nat) := by omega
theorem o36_410 {x0 : Int} (h0 : 0 ≤ x0) (h1 : x0 ≤ 3) : (-3) ≤ x0 := by omega
theorem o36_411 {x0 : Int} (h0 : x0 = (-2)) : x0 ≤ 3 := by omega
theorem o36_412 {x0 x1 x2 x3 x4 : Int} (h0 : x1 = x0) (h1 : x2 = 0) (h2 : x3 = 60) (h3 : 0 ≤ x4) (h4 : x4 ≤ 1) (h5 : ((x4 = 0 ∧ (x1 < x2 ∨ x3 < x1)) ∨ (x4 = 1 ∧ x2 ≤ x1 ∧ x1 ≤ x3))) (h6 : ¬ x4 = 0) : 0 ≤ x0 := by omega
theorem o36_413 {x0 x1 x2 x3 x4 : Int} (h0 : x1 = x0) (h1 : x2 = 0) (h2 : x3 = 60) (h3 : 0 ≤ x4) (h4 : x4 ≤ 1) (h5 : ((x4 = 0 ∧ (x1 < x2 ∨ x3 < x1)) ∨ (x4 = 1 ∧ x2 ≤ x1 ∧ x1 ≤ x3))) (h6 : ¬ x4 = 0) : x0 ≤ 60 := by omega
theorem o36_414 {x0 : Int} (h0 : x0 = 1) : 0 ≤ x0 := by omega
theorem o36_415 {x0 : Int} (h0 : x0 = 1) : x0 ≤ 1 := by omega
theorem o36_416 {x0 : Int} (h0 : 0 ≤ x0) (h1 : x0 ≤ 19) : 0 ≤ x0 := by omega
theorem o36_417 {x0 : Int} (h0 : 0 ≤ x0) (h1 : x0 ≤ 19) : x0 ≤ 60 := by omega
theorem o36_418 {x0 : Int} (h0 : 0 ≤ x0) (h1 : x0 ≤ 41) (h2 : 41 - x0 < 0) : False := by omega
theorem o36_419 {x0 x1 x2 : Int} {x3 : Nat} (h0 : 0 ≤ x1) (h1 : x1 ≤ 1000000000) (h2 : (x1 = 1000000000 ∨ (0 ≤ x1 ∧ x1 ≤ 2))) (h3 : x2 = 1000000000) (h4 : ¬ x1 = x2) (h5 : 0 ≤ x0) (h6 : x0 ≤ 41) (h7 : 41 - x0 < ((x3 + 1 : Nat) : Int)) (h8 : -2147483648 ≤ x0) (h9 : x0 ≤ 2147483647) (h10 : -2147483648 ≤ x1) (h11 : x1 ≤ 2147483647) (h12 : -2147483648 ≤ x2) (h13 : x2 ≤ 2147483647) : -2147483648 ≤ x0 + x1 := by omega
theorem o36_420 {x0 x1 x2 : Int} {x3 : Nat} (h0 : 0 ≤ x1) (h1 : x1 ≤ 1000000000) (h2 : (x1 = 1000000000 ∨ (0 ≤ x1 ∧ x1 ≤ 2))) (h3 : x2 = 1000000000) (h4 : ¬ x1 = x2) (h5 : 0 ≤ x0) (h6 : x0 ≤ 41) (h7 : 41 - x0 < ((x3 + 1 : Nat) : Int)) (h8 : -2147483648 ≤ x0) (h9 : x0 ≤ 2147483647) (h10 : -2147483648 ≤ x1) (h11 : x1 ≤ 2147483647) (h12 : -2147483648 ≤ x2) (h13 : x2 ≤ 2147483647) : x0 + x1 ≤ 2147483647 := by omega
theorem o36_421 {x0 : Int} (h0 : x0 = 41) : x0 = 41 := by omega
theorem o36_422 {x0 x1 x2 x3 : Int} (h0 : 0 ≤ x1) (h1 : x1 ≤ 3) (h2 : (-1) ≤ x2) (h3 : x2 ≤ 24) (h4 : 0 ≤ x2) (h5 : x3 = 4 * x2) (h6 : x0 = x3 + x1) (h7 : -2147483648 ≤ x0) (h8 : x0 ≤ 2147483647) (h9 : -2147483648 ≤ x1) (h10 : x1 ≤ 2147483647) (h11 : -2147483648 ≤ x2) (h12 : x2 ≤ 2147483647) (h13 : -2147483648 ≤ x3) (h14 : x3 ≤ 2147483647) : -2147483648 ≤ 41 * x0 := by omega
theorem o36_423 {x0 x1 x2 x3 : Int} (h0 : 0 ≤ x1) (h1 : x1 ≤ 3) (h2 : (-1) ≤ x2) (h3 : x2 ≤ 24) (h4 : 0 ≤ x2) (h5 : x3 = 4 * x2) (h6 : x0 = x3 + x1) (h7 : -2147483648 ≤ x0) (h8 : x0 ≤ 2147483647) (h9 : -2147483648 ≤ x1) (h10 : x1 ≤ 2147483647) (h11 : -2147483648 ≤ x2) (h12 : x2 ≤ 2147483647) (h13 : -2147483648 ≤ x3) (h14 : x3 ≤ 2147483647) : 41 * x0 ≤ 2147483647 := by omega
theorem o36_424 {x0 x1 x2 x3 x4 x5 x6 x7 x8 x10 : Int} {x9 : Nat} (h0 : 0 ≤ x2) (h1 : x2 ≤ 40) (h2 : 0 ≤ x3) (h3 : x3 ≤ 1000000000) (h4 : (x3 = 1000000000 ∨ (0 ≤ x3 ∧ x3 ≤ 2))) (h5 : x4 = 1000000000) (h6 : ¬ x3 = x4) (h7 : 0 ≤ x5) (h8 : x5 ≤ 3) (h9 : (-1) ≤ x6) (h10 : x6 ≤ 24) (h11 : 0 ≤ x6) (h12 : x7 = 4 * x6) (h13 : x8 = x7 + x5) (h14 : 0 ≤ x1) (h15 : x1 ≤ 41) (h16 : 41 - x1 < ((x9 + 1 : Nat) : Int)) (h17 : x10 = x1 + x3) (h18 : x10 ≤ x2) (h19 : x0 = 41 * x8) (h20 : -2147483648 ≤ x0) (h21 : x0 ≤ 2147483647) (h22 : -2147483648 ≤ x1) (h23 : x1 ≤ 2147483647) (h24 : -2147483648 ≤ x2) (h25 : x2 ≤ 2147483647) (h26 : -2147483648 ≤ x3) (h27 : x3 ≤ 2147483647) (h28 : -2147483648 ≤ x4) (h29 : x4 ≤ 2147483647) (h30 : -2147483648 ≤ x5) (h31 : x5 ≤ 2147483647) (h32 : -2147483648 ≤ x6) (h33 : x6 ≤ 2147483647) (h34 : -2147483648 ≤ x7) (h35 : x7 ≤ 2147483647) (h36 : -2147483648 ≤ x8) (h37 : x8 ≤ 2147483647) (h38 : -2147483648 ≤ x10) (h39 : x10 ≤ 2147483647) : -2147483648 ≤ x0 + x1 := by omega
theorem o36_425 {x0 x1 x2 x3 x4 x5 x6 x7 x8 x10 : Int} {x9 : Nat} (h0 : 0 ≤ x2) (h1 : x2 ≤ 40) (h2 : 0 ≤ x3) (h3 : x3 ≤ 1000000000) (h4 : (x3 = 1000000000 ∨ (0 ≤ x3 ∧ x3 ≤ 2))) (h5 : x4 = 1000000000) (h6 : ¬ x3 = x4) (h7 : 0 ≤ x5) (h8 : x5 ≤ 3) (h9 : (-1) ≤ x6) (h10 : x6 ≤ 24) (h11 : 0 ≤ x6) (h12 : x7 = 4 * x6) (h13 : x8 = x7 + x5) (h14 : 0 ≤ x1) (h15 : x1 ≤ 41) (h16 : 41 - x1 < ((x9 + 1 : Nat) : Int)) (h17 : x10 = x1 + x3) (h18 : x10 ≤ x2) (h19 : x0 = 41 * x8) (h20 : -2147483648 ≤ x0) (h21 : x0 ≤ 2147483647) (h22 : -2147483648 ≤ x1) (h23 : x1 ≤ 2147483647) (h24 : -2147483648 ≤ x2) (h25 : x2 ≤ 2147483647) (h26 : -2147483648 ≤ x3) (h27 : x3 ≤ 2147483647) (h28 : -2147483648 ≤ x4) (h29 : x4 ≤ 2147483647) (h30 : -2147483648 ≤ x5) (h31 : x5 ≤ 2147483647) (h32 : -2147483648 ≤ x6) (h33 : x6 ≤ 2147483647) (h34 : -2147483648 ≤ x7) (h35 : x7 ≤ 2147483647) (h36 : -2147483648 ≤ x8) (h37 : x8 ≤ 2147483647) (h38 : -2147483648 ≤ x10) (h39 : x10 ≤ 2147483647) : x0 + x1 ≤ 2147483647 := by omega
theorem o36_426 {x0 x1 x2 x3 x4 x5 x6 x7 x8 x10 x11 : Int} {x9 : Nat} (h0 : 0 ≤ x2) (h1 : x2 ≤ 40) (h2 : 0 ≤ x1) (h3 : x1 ≤ 1000000000) (h4 : (x1 = 1000000000 ∨ (0 ≤ x1 ∧ x1 ≤ 2))) (h5 : x3 = 1000000000) (h6 : ¬ x1 = x3) (h7 : 0 ≤ x4) (h8 : x4 ≤ 3) (h9 : (-1) ≤ x5) (h10 : x5 ≤ 24) (h11 : 0 ≤ x5) (h12 : x6 = 4 * x5) (h13 : x7 = x6 + x4) (h14 : 0 ≤ x8) (h15 : x8 ≤ 41) (h16 : 41 - x8 < ((x9 + 1 : Nat) : Int)) (h17 : x10 = x8 + x1) (h18 : x10 ≤ x2) (h19 : x11 = 41 * x7) (h20 : x0 = x11 + x8) (h21 : -2147483648 ≤ x0) (h22 : x0 ≤ 2147483647) (h23 : -2147483648 ≤ x1) (h24 : x1 ≤ 2147483647) (h25 : -2147483648 ≤ x2) (h26 : x2 ≤ 2147483647) (h27 : -2147483648 ≤ x3) (h28 : x3 ≤ 2147483647) (h29 : -2147483648 ≤ x4) (h30 : x4 ≤ 2147483647) (h31 : -2147483648 ≤ x5) (h32 : x5 ≤ 2147483647) (h33 : -2147483648 ≤ x6) (h34 : x6 ≤ 2147483647) (h35 : -2147483648 ≤ x7) (h36 : x7 ≤ 2147483647) (h37 : -2147483648 ≤ x8) (h38 : x8 ≤ 2147483647) (h39 : -2147483648 ≤ x10) (h40 : x10 ≤ 2147483647) (h41 : -2147483648 ≤ x11) (h42 : x11 ≤ 2147483647) : -2147483648 ≤ x0 + x1 := by omega
theorem o36_427 {x0 x1 x2 x3 x4 x5 x6 x7 x8 x10 x11 : Int} {x9 : Nat} (h0 : 0 ≤ x2) (h1 : x2 ≤ 40) (h2 : 0 ≤ x1) (h3 : x1 ≤ 1000000000) (h4 : (x1 = 1000000000 ∨ (0 ≤ x1 ∧ x1 ≤ 2))) (h5 : x3 = 1000000000) (h6 : ¬ x1 = x3) (h7 : 0 ≤ x4) (h8 : x4 ≤ 3) (h9 : (-1) ≤ x5) (h10 : x5 ≤ 24) (h11 : 0 ≤ x5) (h12 : x6 = 4 * x5) (h13 : x7 = x6 + x4) (h14 : 0 ≤ x8) (h15 : x8 ≤ 41) (h16 : 41 - x8 < ((x9 + 1 : Nat) : Int)) (h17 : x10 = x8 + x1) (h18 : x10 ≤ x2) (h19 : x11 = 41 * x7) (h20 : x0 = x11 + x8) (h21 : -2147483648 ≤ x0) (h22 : x0 ≤ 2147483647) (h23 : -2147483648 ≤ x1) (h24 : x1 ≤ 2147483647) (h25 : -2147483648 ≤ x2) (h26 : x2 ≤ 2147483647) (h27 : -2147483648 ≤ x3) (h28 : x3 ≤ 2147483647) (h29 : -2147483648 ≤ x4) (h30 : x4 ≤ 2147483647) (h31 : -2147483648 ≤ x5) (h32 : x5 ≤ 2147483647) (h33 : -2147483648 ≤ x6) (h34 : x6 ≤ 2147483647) (h35 : -2147483648 ≤ x7) (h36 : x7 ≤ 2147483647) (h37 : -2147483648 ≤ x8) (h38 : x8 ≤ 2147483647) (h39 : -2147483648 ≤ x10) (h40 : x10 ≤ 2147483647) (h41 : -2147483648 ≤ x11) (h42 : x11 ≤ 2147483647) : x0 + x1 ≤ 2147483647 := by omega
theorem o36_428 {x0 x1 x2 x3 x4 x5 x6 x7 x8 x10 x11 x12 : Int} {x9 : Nat} (h0 : 0 ≤ x1) (h1 : x1 ≤ 40) (h2 : 0 ≤ x2) (h3 : x2 ≤ 1000000000) (h4 : (x2 = 1000000000 ∨ (0 ≤ x2 ∧ x2 ≤ 2))) (h5 : x3 = 1000000000) (h6 : ¬ x2 = x3) (h7 : 0 ≤ x4) (h8 : x4 ≤ 3) (h9 : (-1) ≤ x5) (h10 : x5 ≤ 24) (h11 : 0 ≤ x5) (h12 : x6 = 4 * x5) (h13 : x7 = x6 + x4) (h14 : 0 ≤ x8) (h15 : x8 ≤ 41) (h16 : 41 - x8 < ((x9 + 1 : Nat) : Int)) (h17 : x10 = x8 + x2) (h18 : x10 ≤ x1) (h19 : x11 = 41 * x7) (h20 : x12 = x11 + x8) (h21 : x0 = x12 + x2) : 0 ≤ x0 := by omega
theorem o36_429 {x0 x1 x2 x3 x4 x5 x6 x7 x8 x10 x11 x12 : Int} {x9 : Nat} (h0 : 0 ≤ x1) (h1 : x1 ≤ 40) (h2 : 0 ≤ x2) (h3 : x2 ≤ 1000000000) (h4 : (x2 = 1000000000 ∨ (0 ≤ x2 ∧ x2 ≤ 2))) (h5 : x3 = 1000000000) (h6 : ¬ x2 = x3) (h7 : 0 ≤ x4) (h8 : x4 ≤ 3) (h9 : (-1) ≤ x5) (h10 : x5 ≤ 24) (h11 : 0 ≤ x5) (h12 : x6 = 4 * x5) (h13 : x7 = x6 + x4) (h14 : 0 ≤ x8) (h15 : x8 ≤ 41) (h16 : 41 - x8 < ((x9 + 1 : Nat) : Int)) (h17 : x10 = x8 + x2) (h18 : x10 ≤ x1) (h19 : x11 = 41 * x7) (h20 : x12 = x11 + x8) (h21 : x0 = x12 + x2) : x0 < (4100 : Nat) := by omega
theorem o36_430 {x0 x1 x2 x3 x4 : Int} (h0 : 0 ≤ x0) (h1 : x0 ≤ 99) (h2 : x1 = x0 / 4) (h3 : x2 = x0 % 4) (h4 : x3 = x0 % 4) (h5 : x4 = x0 / 4) (h6 : -2147483648 ≤ x0) (h7 : x0 ≤ 2147483647) (h8 : -2147483648 ≤ x1) (h9 : x1 ≤ 2147483647) (h10 : -2147483648 ≤ x2) (h11 : x2 ≤ 2147483647) (h12 : -2147483648 ≤ x3) (h13 : x3 ≤ 2147483647) (h14 : -2147483648 ≤ x4) (h15 : x4 ≤ 2147483647) : -2147483648 ≤ 41 * x0 := by omega
theorem o36_431 {x0 x1 x2 x3 x4 : Int} (h0 : 0 ≤ x0) (h1 : x0 ≤ 99) (h2 : x1 = x0 / 4) (h3 : x2 = x0 % 4) (h4 : x3 = x0 % 4) (h5 : x4 = x0 / 4) (h6 : -2147483648 ≤ x0) (h7 : x0 ≤ 2147483647) (h8 : -2147483648 ≤ x1) (h9 : x1 ≤ 2147483647) (h10 : -2147483648 ≤ x2) (h11 : x2 ≤ 2147483647) (h12 : -2147483648 ≤ x3) (h13 : x3 ≤ 2147483647) (h14 : -2147483648 ≤ x4) (h15 : x4 ≤ 2147483647) : 41 * x0 ≤ 2147483647 := by omega
theorem o36_432 {x0 x1 x2 x3 x4 x5 x6 x7 x8 x9 x10 x11 x12 x13 x15 x16 x17 x18 : Int} {x14 : Nat} (h0 : 0 ≤ x2) (h1 : x2 ≤ 99) (h2 : 0 ≤ x3) (h3 : x3 ≤ 40) (h4 : x4 = x2 / 4) (h5 : x5 = x2 % 4) (h6 : 0 ≤ x6) (h7 : x6 ≤ 1000000000) (h8 : (x6 = 1000000000 ∨ (0 ≤ x6 ∧ x6 ≤ 2))) (h9 : x7 = 1000000000) (h10 : ¬ x6 = x7) (h11 : x8 = x2 % 4) (h12 : 0 ≤ x9) (h13 : x9 ≤ 3) (h14 : x10 = x2 / 4) (h15 : (-1) ≤ x11) (h16 : x11 ≤ 24) (h17 : 0 ≤ x11) (h18 : x12 = 4 * x11) (h19 : x13 = x12 + x9) (h20 : 0 ≤ x1) (h21 : x1 ≤ 41) (h22 : 41 - x1 < ((x14 + 1 : Nat) : Int)) (h23 : x15 = x1 + x6) (h24 : x15 ≤ x3) (h25 : x16 = 41 * x13) (h26 : x17 = x16 + x1) (h27 : x18 = x17 + x6) (h28 : x0 = 41 * x2) (h29 : -2147483648 ≤ x0) (h30 : x0 ≤ 2147483647) (h31 : -2147483648 ≤ x1) (h32 : x1 ≤ 2147483647) (h33 : -2147483648 ≤ x2) (h34 : x2 ≤ 2147483647) (h35 : -2147483648 ≤ x3) (h36 : x3 ≤ 2147483647) (h37 : -2147483648 ≤ x4) (h38 : x4 ≤ 2147483647) (h39 : -2147483648 ≤ x5) (h40 : x5 ≤ 2147483647) (h41 : -2147483648 ≤ x6) (h42 : x6 ≤ 2147483647) (h43 : -2147483648 ≤ x7) (h44 : x7 ≤ 2147483647) (h45 : -2147483648 ≤ x8) (h46 : x8 ≤ 2147483647) (h47 : -2147483648 ≤ x9) (h48 : x9 ≤ 2147483647) (h49 : -2147483648 ≤ x10) (h50 : x10 ≤ 2147483647) (h51 : -2147483648 ≤ x11) (h52 : x11 ≤ 2147483647) (h53 : -2147483648 ≤ x12) (h54 : x12 ≤ 2147483647) (h55 : -2147483648 ≤ x13) (h56 : x13 ≤ 2147483647) (h57 : -2147483648 ≤ x15) (h58 : x15 ≤ 2147483647) (h59 : -2147483648 ≤ x16) (h60 : x16 ≤ 2147483647) (h61 : -2147483648 ≤ x17) (h62 : x17 ≤ 2147483647) (h63 : -2147483648 ≤ x18) (h64 : x18 ≤ 2147483647) : -2147483648 ≤ x0 + x1 := by omega
theorem o36_433 {x0 x1 x2 x3 x4 x5 x6 x7 x8 x9 x10 x11 x12 x13 x15 x16 x17 x18 : Int} {x14 : Nat} (h0 : 0 ≤ x2) (h1 : x2 ≤ 99) (h2 : 0 ≤ x3) (h3 : x3 ≤ 40) (h4 : x4 = x2 / 4) (h5 : x5 = x2 % 4) (h6 : 0 ≤ x6) (h7 : x6 ≤ 1000000000) (h8 : (x6 = 1000000000 ∨ (0 ≤ x6 ∧ x6 ≤ 2))) (h9 : x7 = 1000000000) (h10 : ¬ x6 = x7) (h11 : x8 = x2 % 4) (h12 : 0 ≤ x9) (h13 : x9 ≤ 3) (h14 : x10 = x2 / 4) (h15 : (-1) ≤ x11) (h16 : x11 ≤ 24) (h17 : 0 ≤ x11) (h18 : x12 = 4 * x11) (h19 : x13 = x12 + x9) (h20 : 0 ≤ x1) (h21 : x1 ≤ 41) (h22 : 41 - x1 < ((x14 + 1 : Nat) : Int)) (h23 : x15 = x1 + x6) (h24 : x15 ≤ x3) (h25 : x16 = 41 * x13) (h26 : x17 = x16 + x1) (h27 : x18 = x17 + x6) (h28 : x0 = 41 * x2) (h29 : -2147483648 ≤ x0) (h30 : x0 ≤ 2147483647) (h31 : -2147483648 ≤ x1) (h32 : x1 ≤ 2147483647) (h33 : -2147483648 ≤ x2) (h34 : x2 ≤ 2147483647) (h35 : -2147483648 ≤ x3) (h36 : x3 ≤ 2147483647) (h37 : -2147483648 ≤ x4) (h38 : x4 ≤ 2147483647) (h39 : -2147483648 ≤ x5) (h40 : x5 ≤ 2147483647) (h41 : -2147483648 ≤ x6) (h42 : x6 ≤ 2147483647) (h43 : -2147483648 ≤ x7) (h44 : x7 ≤ 2147483647) (h45 : -2147483648 ≤ x8) (h46 : x8 ≤ 2147483647) (h47 : -2147483648 ≤ x9) (h48 : x9 ≤ 2147483647) (h49 : -2147483648 ≤ x10) (h50 : x10 ≤ 2147483647) (h51 : -2147483648 ≤ x11) (h52 : x11 ≤ 2147483647) (h53 : -2147483648 ≤ x12) (h54 : x12 ≤ 2147483647) (h55 : -2147483648 ≤ x13) (h56 : x13 ≤ 2147483647) (h57 : -2147483648 ≤ x15) (h58 : x15 ≤ 2147483647) (h59 : -2147483648 ≤ x16) (h60 : x16 ≤ 2147483647) (h61 : -2147483648 ≤ x17) (h62 : x17 ≤ 2147483647) (h63 : -2147483648 ≤ x18) (h64 : x18 ≤ 2147483647) : x0 + x1 ≤ 2147483647 := by omega
theorem o36_434 {x0 x1 x2 x3 x4 x5 x6 x7 x8 x9 x10 x11 x12 x13 x15 x16 x17 x18 x19 : Int} {x14 : Nat} (h0 : 0 ≤ x1) (h1 : x1 ≤ 99) (h2 : 0 ≤ x2) (h3 : x2 ≤ 40) (h4 : x3 = x1 / 4) (h5 : x4 = x1 % 4) (h6 : 0 ≤ x5) (h7 : x5 ≤ 1000000000) (h8 : (x5 = 1000000000 ∨ (0 ≤ x5 ∧ x5 ≤ 2))) (h9 : x6 = 1000000000) (h10 : ¬ x5 = x6) (h11 : x7 = x1 % 4) (h12 : 0 ≤ x8) (h13 : x8 ≤ 3) (h14 : x9 = x1 / 4) (h15 : (-1) ≤ x10) (h16 : x10 ≤ 24) (h17 : 0 ≤ x10) (h18 : x11 = 4 * x10) (h19 : x12 = x11 + x8) (h20 : 0 ≤ x13) (h21 : x13 ≤ 41) (h22 : 41 - x13 < ((x14 + 1 : Nat) : Int)) (h23 : x15 = x13 + x5) (h24 : x15 ≤ x2) (h25 : x16 = 41 * x12) (h26 : x17 = x16 + x13) (h27 : x18 = x17 + x5) (h28 : x19 = 41 * x1) (h29 : x0 = x19 + x13) : 0 ≤ x0 := by omega
theorem o36_435 {x0 x1 x2 x3 x4 x5 x6 x7 x8 x9 x10 x11 x12 x13 x15 x16 x17 x18 x19 : Int} {x14 : Nat} (h0 : 0 ≤ x1) (h1 : x1 ≤ 99) (h2 : 0 ≤ x2) (h3 : x2 ≤ 40) (h4 : x3 = x1 / 4) (h5 : x4 = x1 % 4) (h6 : 0 ≤ x5) (h7 : x5 ≤ 1000000000) (h8 : (x5 = 1000000000 ∨ (0 ≤ x5 ∧ x5 ≤ 2))) (h9 : x6 = 1000000000) (h10 : ¬ x5 = x6) (h11 : x7 = x1 % 4) (h12 : 0 ≤ x8) (h13 : x8 ≤ 3) (h14 : x9 = x1 / 4) (h15 : (-1) ≤ x10) (h16 : x10 ≤ 24) (h17 : 0 ≤ x10) (h18 : x11 = 4 * x10) (h19 : x12 = x11 + x8) (h20 : 0 ≤ x13) (h21 : x13 ≤ 41) (h22 : 41 - x13 < ((x14 + 1 : Nat) : Int)) (h23 : x15 = x13 + x5) (h24 : x15 ≤ x2) (h25 : x16 = 41 * x12) (h26 : x17 = x16 + x13) (h27 : x18 = x17 + x5) (h28 : x19 = 41 * x1) (h29 : x0 = x19 + x13) : x0 < (4100 : Nat) := by omega
theorem o36_436 {x0 x1 x2 x3 x4 x5 x6 x7 x8 x9 x10 x11 x12 x13 x15 x16 x17 x18 x19 : Int} {x14 : Nat} (h0 : 0 ≤ x1) (h1 : x1 ≤ 99) (h2 : 0 ≤ x2) (h3 : x2 ≤ 40) (h4 : x3 = x1 / 4) (h5 : x4 = x1 % 4) (h6 : 0 ≤ x5) (h7 : x5 ≤ 1000000000) (h8 : (x5 = 1000000000 ∨ (0 ≤ x5 ∧ x5 ≤ 2))) (h9 : x6 = 1000000000) (h10 : ¬ x5 = x6) (h11 : x7 = x1 % 4) (h12 : 0 ≤ x8) (h13 : x8 ≤ 3) (h14 : x9 = x1 / 4) (h15 : (-1) ≤ x10) (h16 : x10 ≤ 24) (h17 : 0 ≤ x10) (h18 : x11 = 4 * x10) (h19 : x12 = x11 + x8) (h20 : 0 ≤ x13) (h21 : x13 ≤ 41) (h22 : 41 - x13 < ((x14 + 1 : Nat) : Int)) (h23 : x15 = x13 + x5) (h24 : x15 ≤ x2) (h25 : x16 = 41 * x12) (h26 : x17 = x16 + x13) (h27 : x0 = x17 + x5) (h28 : x18 = 41 * x1) (h29 : x19 = x18 + x13) : 0 ≤ x0 := by omega
theorem o36_437 {x0 x1 x2 x3 x4 x5 x6 x7 x8 x9 x10 x11 x12 x13 x15 x16 x17 x18 x19 : Int} {x14 : Nat} (h0 : 0 ≤ x1) (h1 : x1 ≤ 99) (h2 : 0 ≤ x2) (h3 : x2 ≤ 40) (h4 : x3 = x1 / 4) (h5 : x4 = x1 % 4) (h6 : 0 ≤ x5) (h7 : x5 ≤ 1000000000) (h8 : (x5 = 1000000000 ∨ (0 ≤ x5 ∧ x5 ≤ 2))) (h9 : x6 = 1000000000) (h10 : ¬ x5 = x6) (h11 : x7 = x1 % 4) (h12 : 0 ≤ x8) (h13 : x8 ≤ 3) (h14 : x9 = x1 / 4) (h15 : (-1) ≤ x10) (h16 : x10 ≤ 24) (h17 : 0 ≤ x10) (h18 : x11 = 4 * x10) (h19 : x12 = x11 + x8) (h20 : 0 ≤ x13) (h21 : x13 ≤ 41) (h22 : 41 - x13 < ((x14 + 1 : Nat) : Int)) (h23 : x15 = x13 + x5) (h24 : x15 ≤ x2) (h25 : x16 = 41 * x12) (h26 : x17 = x16 + x13) (h27 : x0 = x17 + x5) (h28 : x18 = 41 * x1) (h29 : x19 = x18 + x13) : x0 < (4100 : Nat) := by omega
theorem o36_438 {x0 x1 x2 x3 x4 x5 x6 x7 x8 x9 x10 x11 x12 x14 x15 x16 x17 x18 x19 : Int} {x13 : Nat} (h0 : 0 ≤ x1) (h1 : x1 ≤ 99) (h2 : 0 ≤ x2) (h3 : x2 ≤ 40) (h4 : x3 = x1 / 4) (h5 : x4 = x1 % 4) (h6 : 0 ≤ x5) (h7 : x5 ≤ 1000000000) (h8 : (x5 = 1000000000 ∨ (0 ≤ x5 ∧ x5 ≤ 2))) (h9 : x6 = 1000000000) (h10 : ¬ x5 = x6) (h11 : x7 = x1 % 4) (h12 : 0 ≤ x8) (h13 : x8 ≤ 3) (h14 : x9 = x1 / 4) (h15 : (-1) ≤ x10) (h16 : x10 ≤ 24) (h17 : 0 ≤ x10) (h18 : x11 = 4 * x10) (h19 : x12 = x11 + x8) (h20 : 0 ≤ x0) (h21 : x0 ≤ 41) (h22 : 41 - x0 < ((x13 + 1 : Nat) : Int)) (h23 : x14 = x0 + x5) (h24 : x14 ≤ x2) (h25 : x15 = 41 * x12) (h26 : x16 = x15 + x0) (h27 : x17 = x16 + x5) (h28 : x18 = 41 * x1) (h29 : x19 = x18 + x0) (h30 : -2147483648 ≤ x0) (h31 : x0 ≤ 2147483647) (h32 : -2147483648 ≤ x1) (h33 : x1 ≤ 2147483647) (h34 : -2147483648 ≤ x2) (h35 : x2 ≤ 2147483647) (h36 : -2147483648 ≤ x3) (h37 : x3 ≤ 2147483647) (h38 : -2147483648 ≤ x4) (h39 : x4 ≤ 2147483647) (h40 : -2147483648 ≤ x5) (h41 : x5 ≤ 2147483647) (h42 : -2147483648 ≤ x6) (h43 : x6 ≤ 2147483647) (h44 : -2147483648 ≤ x7) (h45 : x7 ≤ 2147483647) (h46 : -2147483648 ≤ x8) (h47 : x8 ≤ 2147483647) (h48 : -2147483648 ≤ x9) (h49 : x9 ≤ 2147483647) (h50 : -2147483648 ≤ x10) (h51 : x10 ≤ 2147483647) (h52 : -2147483648 ≤ x11) (h53 : x11 ≤ 2147483647) (h54 : -2147483648 ≤ x12) (h55 : x12 ≤ 2147483647) (h56 : -2147483648 ≤ x14) (h57 : x14 ≤ 2147483647) (h58 : -2147483648 ≤ x15) (h59 : x15 ≤ 2147483647) (h60 : -2147483648 ≤ x16) (h61 : x16 ≤ 2147483647) (h62 : -2147483648 ≤ x17) (h63 : x17 ≤ 2147483647) (h64 : -2147483648 ≤ x18) (h65 : x18 ≤ 2147483647) (h66 : -2147483648 ≤ x19) (h67 : x19 ≤ 2147483647) : -2147483648 ≤ x0 + 1 := by omega
theorem o36_439 {x0 x1 x2 x3 x4 x5 x6 x7 x8 x9 x10 x11 x12 x14 x15 x16 x17 x18 x19 : Int} {x13 : Nat} (h0 : 0 ≤ x1) (h1 : x1 ≤ 99) (h2 : 0 ≤ x2) (h3 : x2 ≤ 40) (h4 : x3 = x1 / 4) (h5 : x4 = x1 % 4) (h6 : 0 ≤ x5) (h7 : x5 ≤ 1000000000) (h8 : (x5 = 1000000000 ∨ (0 ≤ x5 ∧ x5 ≤ 2))) (h9 : x6 = 1000000000) (h10 : ¬ x5 = x6) (h11 : x7 = x1 % 4) (h12 : 0 ≤ x8) (h13 : x8 ≤ 3) (h14 : x9 = x1 / 4) (h15 : (-1) ≤ x10) (h16 : x10 ≤ 24) (h17 : 0 ≤ x10) (h18 : x11 = 4 * x10) (h19 : x12 = x11 + x8) (h20 : 0 ≤ x0) (h21 : x0 ≤ 41) (h22 : 41 - x0 < ((x13 + 1 : Nat) : Int)) (h23 : x14 = x0 + x5) (h24 : x14 ≤ x2) (h25 : x15 = 41 * x12) (h26 : x16 = x15 + x0) (h27 : x17 = x16 + x5) (h28 : x18 = 41 * x1) (h29 : x19 = x18 + x0) (h30 : -2147483648 ≤ x0) (h31 : x0 ≤ 2147483647) (h32 : -2147483648 ≤ x1) (h33 : x1 ≤ 2147483647) (h34 : -2147483648 ≤ x2) (h35 : x2 ≤ 2147483647) (h36 : -2147483648 ≤ x3) (h37 : x3 ≤ 2147483647) (h38 : -2147483648 ≤ x4) (h39 : x4 ≤ 2147483647) (h40 : -2147483648 ≤ x5) (h41 : x5 ≤ 2147483647) (h42 : -2147483648 ≤ x6) (h43 : x6 ≤ 2147483647) (h44 : -2147483648 ≤ x7) (h45 : x7 ≤ 2147483647) (h46 : -2147483648 ≤ x8) (h47 : x8 ≤ 2147483647) (h48 : -2147483648 ≤ x9) (h49 : x9 ≤ 2147483647) (h50 : -2147483648 ≤ x10) (h51 : x10 ≤ 2147483647) (h52 : -2147483648 ≤ x11) (h53 : x11 ≤ 2147483647) (h54 : -2147483648 ≤ x12) (h55 : x12 ≤ 2147483647) (h56 : -2147483648 ≤ x14) (h57 : x14 ≤ 2147483647) (h58 : -2147483648 ≤ x15) (h59 : x15 ≤ 2147483647) (h60 : -2147483648 ≤ x16) (h61 : x16 ≤ 2147483647) (h62 : -2147483648 ≤ x17) (h63 : x17 ≤ 2147483647) (h64 : -2147483648 ≤ x18) (h65 : x18 ≤ 2147483647) (h66 : -2147483648 ≤ x19) (h67 : x19 ≤ 2147483647) : x0 + 1 ≤ 2147483647 := by omega
theorem o36_440 {x0 x2 x3 x4 x5 x6 x7 x8 x9 x10 x11 x12 x13 x14 x15 x16 x17 x18 x19 x20 : Int} {x1 : Nat} (h0 : 0 ≤ x2) (h1 : x2 ≤ 99) (h2 : 0 ≤ x3) (h3 : x3 ≤ 40) (h4 : x4 = x2 / 4) (h5 : x5 = x2 % 4) (h6 : 0 ≤ x6) (h7 : x6 ≤ 1000000000) (h8 : (x6 = 1000000000 ∨ (0 ≤ x6 ∧ x6 ≤ 2))) (h9 : x7 = 1000000000) (h10 : ¬ x6 = x7) (h11 : x8 = x2 % 4) (h12 : 0 ≤ x9) (h13 : x9 ≤ 3) (h14 : x10 = x2 / 4) (h15 : (-1) ≤ x11) (h16 : x11 ≤ 24) (h17 : 0 ≤ x11) (h18 : x12 = 4 * x11) (h19 : x13 = x12 + x9) (h20 : 0 ≤ x14) (h21 : x14 ≤ 41) (h22 : 41 - x14 < ((x1 + 1 : Nat) : Int)) (h23 : x15 = x14 + x6) (h24 : x15 ≤ x3) (h25 : x16 = 41 * x13) (h26 : x17 = x16 + x14) (h27 : x18 = x17 + x6) (h28 : x19 = 41 * x2) (h29 : x20 = x19 + x14) (h30 : x0 = x14 + 1) : 41 - x0 < (x1 : Int) := by omega
theorem o36_441 {x0 x1 x2 x3 x4 x5 x6 x7 x8 x9 x10 x11 x12 x13 x15 x16 x17 x18 x19 x20 : Int} {x14 : Nat} (h0 : 0 ≤ x1) (h1 : x1 ≤ 99) (h2 : 0 ≤ x2) (h3 : x2 ≤ 40) (h4 : x3 = x1 / 4) (h5 : x4 = x1 % 4) (h6 : 0 ≤ x5) (h7 : x5 ≤ 1000000000) (h8 : (x5 = 1000000000 ∨ (0 ≤ x5 ∧ x5 ≤ 2))) (h9 : x6 = 1000000000) (h10 : ¬ x5 = x6) (h11 : x7 = x1 % 4) (h12 : 0 ≤ x8) (h13 : x8 ≤ 3) (h14 : x9 = x1 / 4) (h15 : (-1) ≤ x10) (h16 : x10 ≤ 24) (h17 : 0 ≤ x10) (h18 : x11 = 4 * x10) (h19 : x12 = x11 + x8) (h20 : 0 ≤ x13) (h21 : x13 ≤ 41) (h22 : 41 - x13 < ((x14 + 1 : Nat) : Int)) (h23 : x15 = x13 + x5) (h24 : x15 ≤ x2) (h25 : x16 = 41 * x12) (h26 : x17 = x16 + x13) (h27 : x18 = x17 + x5) (h28 : x19 = 41 * x1) (h29 : x20 = x19 + x13) (h30 : x0 = x13 + 1) : 0 ≤ x0 := by omega
theorem o36_442 {x0 x1 x2 x3 x4 x5 x6 x7 x8 x9 x10 x11 x12 x13 x15 x16 x17 x18 x19 x20 : Int} {x14 : Nat} (h0 : 0 ≤ x1) (h1 : x1 ≤ 99) (h2 : 0 ≤ x2) (h3 : x2 ≤ 40) (h4 : x3 = x1 / 4) (h5 : x4 = x1 % 4) (h6 : 0 ≤ x5) (h7 : x5 ≤ 1000000000) (h8 : (x5 = 1000000000 ∨ (0 ≤ x5 ∧ x5 ≤ 2))) (h9 : x6 = 1000000000) (h10 : ¬ x5 = x6) (h11 : x7 = x1 % 4) (h12 : 0 ≤ x8) (h13 : x8 ≤ 3) (h14 : x9 = x1 / 4) (h15 : (-1) ≤ x10) (h16 : x10 ≤ 24) (h17 : 0 ≤ x10) (h18 : x11 = 4 * x10) (h19 : x12 = x11 + x8) (h20 : 0 ≤ x13) (h21 : x13 ≤ 41) (h22 : 41 - x13 < ((x14 + 1 : Nat) : Int)) (h23 : x15 = x13 + x5) (h24 : x15 ≤ x2) (h25 : x16 = 41 * x12) (h26 : x17 = x16 + x13) (h27 : x18 = x17 + x5) (h28 : x19 = 41 * x1) (h29 : x20 = x19 + x13) (h30 : x0 = x13 + 1) : x0 ≤ 41 := by omega
theorem o36_443 {x0 : Int} (h0 : x0 = 0) : 41 - x0 < (((41 - x0 + 1).toNat : Nat) : Int) := by omega
theorem o36_444 {x0 : Int} (h0 : x0 = 0) : x0 ≤ 41 := by omega
theorem o36_445 {x0 x1 x2 x3 x4 : Int} (h0 : x1 = x0) (h1 : x2 = 0) (h2 : x3 = 20) (h3 : 0 ≤ x4) (h4 : x4 ≤ 1) (h5 : ((x4 = 0 ∧ (x1 < x2 ∨ x3 < x1)) ∨ (x4 = 1 ∧ x2 ≤ x1 ∧ x1 ≤ x3))) (h6 : ¬ x4 = 0) : 0 ≤ x0 := by omega
theorem o36_446 {x0 x1 x2 x3 x4 : Int} (h0 : x1 = x0) (h1 : x2 = 0) (h2 : x3 = 20) (h3 : 0 ≤ x4) (h4 : x4 ≤ 1) (h5 : ((x4 = 0 ∧ (x1 < x2 ∨ x3 < x1)) ∨ (x4 = 1 ∧ x2 ≤ x1 ∧ x1 ≤ x3))) (h6 : ¬ x4 = 0) : x0 ≤ 60 := by omega
theorem o36_447 {x0 : Int} (h0 : 0 ≤ x0) (h1 : x0 ≤ 4100) (h2 : 4100 - x0 < 0) : False := by omega
theorem o36_448 {x0 : Int} (h0 : x0 = 4100) : x0 = 4100 := by omega
theorem o36_449 {x0 x2 : Int} {x1 : Nat} (h0 : 0 ≤ x0) (h1 : x0 ≤ 4100) (h2 : 4100 - x0 < ((x1 + 1 : Nat) : Int)) (h3 : x2 = 4100) (h4 : x2 ≤ x0) : ¬ x0 < 4100 := by omega
theorem o36_450 {x0 x2 : Int} {x1 : Nat} (h0 : 0 ≤ x0) (h1 : x0 ≤ 4100) (h2 : 4100 - x0 < ((x1 + 1 : Nat) : Int)) (h3 : x2 = 4100) (h4 : x0 < x2) : x0 < 4100 := by omega
theorem o36_451 {x0 x1 x2 x3 : Int} (h0 : 0 ≤ x2) (h1 : x2 ≤ 1) (h2 : (x2 = 0 ∨ (0 ≤ x1 ∧ x1 ≤ 4 ∧ 0 ≤ x3 ∧ x3 ≤ 24))) (h3 : ¬ x2 = 0) (h4 : x0 = 36) (h5 : -2147483648 ≤ x0) (h6 : x0 ≤ 2147483647) (h7 : -2147483648 ≤ x1) (h8 : x1 ≤ 2147483647) (h9 : -2147483648 ≤ x2) (h10 : x2 ≤ 2147483647) (h11 : -2147483648 ≤ x3) (h12 : x3 ≤ 2147483647) : -2147483648 ≤ x0 + x1 := by omega
theorem o36_452 {x0 x1 x2 x3 : Int} (h0 : 0 ≤ x2) (h1 : x2 ≤ 1) (h2 : (x2 = 0 ∨ (0 ≤ x1 ∧ x1 ≤ 4 ∧ 0 ≤ x3 ∧ x3 ≤ 24))) (h3 : ¬ x2 = 0) (h4 : x0 = 36) (h5 : -2147483648 ≤ x0) (h6 : x0 ≤ 2147483647) (h7 : -2147483648 ≤ x1) (h8 : x1 ≤ 2147483647) (h9 : -2147483648 ≤ x2) (h10 : x2 ≤ 2147483647) (h11 : -2147483648 ≤ x3) (h12 : x3 ≤ 2147483647) : x0 + x1 ≤ 2147483647 := by omega
theorem o36_453 {x0 x1 x2 x3 x4 : Int} (h0 : 0 ≤ x1) (h1 : x1 ≤ 1) (h2 : (x1 = 0 ∨ (0 ≤ x2 ∧ x2 ≤ 4 ∧ 0 ≤ x3 ∧ x3 ≤ 24))) (h3 : ¬ x1 = 0) (h4 : x4 = 36) (h5 : x0 = x4 + x2) : 0 ≤ x0 := by omega
theorem o36_454 {x0 x1 x2 x3 x4 : Int} (h0 : 0 ≤ x1) (h1 : x1 ≤ 1) (h2 : (x1 = 0 ∨ (0 ≤ x2 ∧ x2 ≤ 4 ∧ 0 ≤ x3 ∧ x3 ≤ 24))) (h3 : ¬ x1 = 0) (h4 : x4 = 36) (h5 : x0 = x4 + x2) : x0 < (5322 : Nat) := by omega
theorem o36_455 {x0 x1 x2 x3 x4 : Int} (h0 : 0 ≤ x1) (h1 : x1 ≤ 1) (h2 : (x1 = 0 ∨ (0 ≤ x2 ∧ x2 ≤ 4 ∧ 0 ≤ x3 ∧ x3 ≤ 24))) (h3 : ¬ x1 = 0) (h4 : x4 = 36) (h5 : x0 = x4 + x2) : (x0).toNat < 41 := by omega
theorem o36_456 {x0 x1 x2 x3 x4 : Int} (h0 : 0 ≤ x1) (h1 : x1 ≤ 1) (h2 : (x1 = 0 ∨ (0 ≤ x2 ∧ x2 ≤ 4 ∧ 0 ≤ x3 ∧ x3 ≤ 24))) (h3 : ¬ x1 = 0) (h4 : x4 = 36) (h5 : x0 = x4 + x2) : 36 ≤ (x0).toNat := by omega
theorem o36_457 {x0 x1 x2 x3 x4 x5 : Int} (h0 : 0 ≤ x2) (h1 : x2 ≤ 1) (h2 : (x2 = 0 ∨ (0 ≤ x1 ∧ x1 ≤ 4 ∧ 0 ≤ x3 ∧ x3 ≤ 24))) (h3 : ¬ x2 = 0) (h4 : x4 = 36) (h5 : x5 = x4 + x1) (h6 : x0 = 41) (h7 : -2147483648 ≤ x0) (h8 : x0 ≤ 2147483647) (h9 : -2147483648 ≤ x1) (h10 : x1 ≤ 2147483647) (h11 : -2147483648 ≤ x2) (h12 : x2 ≤ 2147483647) (h13 : -2147483648 ≤ x3) (h14 : x3 ≤ 2147483647) (h15 : -2147483648 ≤ x4) (h16 : x4 ≤ 2147483647) (h17 : -2147483648 ≤ x5) (h18 : x5 ≤ 2147483647) : -2147483648 ≤ x0 + x1 := by omega
theorem o36_458 {x0 x1 x2 x3 x4 x5 : Int} (h0 : 0 ≤ x2) (h1 : x2 ≤ 1) (h2 : (x2 = 0 ∨ (0 ≤ x1 ∧ x1 ≤ 4 ∧ 0 ≤ x3 ∧ x3 ≤ 24))) (h3 : ¬ x2 = 0) (h4 : x4 = 36) (h5 : x5 = x4 + x1) (h6 : x0 = 41) (h7 : -2147483648 ≤ x0) (h8 : x0 ≤ 2147483647) (h9 : -2147483648 ≤ x1) (h10 : x1 ≤ 2147483647) (h11 : -2147483648 ≤ x2) (h12 : x2 ≤ 2147483647) (h13 : -2147483648 ≤ x3) (h14 : x3 ≤ 2147483647) (h15 : -2147483648 ≤ x4) (h16 : x4 ≤ 2147483647) (h17 : -2147483648 ≤ x5) (h18 : x5 ≤ 2147483647) : x0 + x1 ≤ 2147483647 := by omega
theorem o36_459 {x0 x1 x2 x3 x4 x5 x6 : Int} (h0 : 0 ≤ x1) (h1 : x1 ≤ 1) (h2 : (x1 = 0 ∨ (0 ≤ x2 ∧ x2 ≤ 4 ∧ 0 ≤ x3 ∧ x3 ≤ 24))) (h3 : ¬ x1 = 0) (h4 : x4 = 36) (h5 : x5 = x4 + x2) (h6 : x6 = 41) (h7 : x0 = x6 + x2) : 0 ≤ x0 := by omega
theorem o36_460 {x0 x1 x2 x3 x4 x5 x6 : Int} (h0 : 0 ≤ x1) (h1 : x1 ≤ 1) (h2 : (x1 = 0 ∨ (0 ≤ x2 ∧ x2 ≤ 4 ∧ 0 ≤ x3 ∧ x3 ≤ 24))) (h3 : ¬ x1 = 0) (h4 : x4 = 36) (h5 : x5 = x4 + x2) (h6 : x6 = 41) (h7 : x0 = x6 + x2) : x0 < (5322 : Nat) := by omega
theorem o36_461 {x0 x1 x2 x3 x4 x5 x6 : Int} (h0 : 0 ≤ x1) (h1 : x1 ≤ 1) (h2 : (x1 = 0 ∨ (0 ≤ x2 ∧ x2 ≤ 4 ∧ 0 ≤ x3 ∧ x3 ≤ 24))) (h3 : ¬ x1 = 0) (h4 : x4 = 36) (h5 : x5 = x4 + x2) (h6 : x6 = 41) (h7 : x0 = x6 + x2) : (x0).toNat < 46 := by omega
theorem o36_462 {x0 x1 x2 x3 x4 x5 x6 : Int} (h0 : 0 ≤ x1) (h1 : x1 ≤ 1) (h2 : (x1 = 0 ∨ (0 ≤ x2 ∧ x2 ≤ 4 ∧ 0 ≤ x3 ∧ x3 ≤ 24))) (h3 : ¬ x1 = 0) (h4 : x4 = 36) (h5 : x5 = x4 + x2) (h6 : x6 = 41) (h7 : x0 = x6 + x2) : 41 ≤ (x0).toNat := by omega
theorem o36_463 {x0 x1 x2 : Int} (h0 : 0 ≤ x2) (h1 : x2 ≤ 24) (h2 : x0 = 4 * x2) (h3 : 0 ≤ x1) (h4 : x1 ≤ 3) (h5 : -2147483648 ≤ x0) (h6 : x0 ≤ 2147483647) (h7 : -2147483648 ≤ x1) (h8 : x1 ≤ 2147483647) (h9 : -2147483648 ≤ x2) (h10 : x2 ≤ 2147483647) : -2147483648 ≤ x0 + x1 := by omega
theorem o36_464 {x0 x1 x2 : Int} (h0 : 0 ≤ x2) (h1 : x2 ≤ 24) (h2 : x0 = 4 * x2) (h3 : 0 ≤ x1) (h4 : x1 ≤ 3) (h5 : -2147483648 ≤ x0) (h6 : x0 ≤ 2147483647) (h7 : -2147483648 ≤ x1) (h8 : x1 ≤ 2147483647) (h9 : -2147483648 ≤ x2) (h10 : x2 ≤ 2147483647) : x0 + x1 ≤ 2147483647 := by omega
theorem o36_465 {x0 x1 x2 x3 : Int} (h0 : 0 ≤ x1) (h1 : x1 ≤ 24) (h2 : x2 = 4 * x1) (h3 : 0 ≤ x3) (h4 : x3 ≤ 3) (h5 : x0 = x2 + x3) (h6 : -2147483648 ≤ x0) (h7 : x0 ≤ 2147483647) (h8 : -2147483648 ≤ x1) (h9 : x1 ≤ 2147483647) (h10 : -2147483648 ≤ x2) (h11 : x2 ≤ 2147483647) (h12 : -2147483648 ≤ x3) (h13 : x3 ≤ 2147483647) : -2147483648 ≤ 41 * x0 := by omega
theorem o36_466 {x0 x1 x2 x3 : Int} (h0 : 0 ≤ x1) (h1 : x1 ≤ 24) (h2 : x2 = 4 * x1) (h3 : 0 ≤ x3) (h4 : x3 ≤ 3) (h5 : x0 = x2 + x3) (h6 : -2147483648 ≤ x0) (h7 : x0 ≤ 2147483647) (h8 : -2147483648 ≤ x1) (h9 : x1 ≤ 2147483647) (h10 : -2147483648 ≤ x2) (h11 : x2 ≤ 2147483647) (h12 : -2147483648 ≤ x3) (h13 : x3 ≤ 2147483647) : 41 * x0 ≤ 2147483647 := by omega
theorem o36_467 {x0 x1 x2 x3 x4 : Int} (h0 : 0 ≤ x1) (h1 : x1 ≤ 24) (h2 : x2 = 4 * x1) (h3 : 0 ≤ x3) (h4 : x3 ≤ 3) (h5 : x4 = x2 + x3) (h6 : x0 = 41 * x4) : 0 ≤ x0 := by omega
theorem o36_468 {x0 x1 x2 x3 x4 : Int} (h0 : 0 ≤ x1) (h1 : x1 ≤ 24) (h2 : x2 = 4 * x1) (h3 : 0 ≤ x3) (h4 : x3 ≤ 3) (h5 : x4 = x2 + x3) (h6 : x0 = 41 * x4) : x0 < (4100 : Nat) := by omega
theorem o36_469 {x0 : Int} (h0 : 0 ≤ x0) (h1 : x0 ≤ 20) (h2 : 20 - x0 < 0) : False := by omega
theorem o36_470 {x0 x1 x2 x3 x4 x5 x6 : Int} (h0 : 0 ≤ x1) (h1 : x1 ≤ 1) (h2 : (x1 = 0 ∨ (0 ≤ x2 ∧ x2 ≤ 4 ∧ 0 ≤ x0 ∧ x0 ≤ 24))) (h3 : ¬ x1 = 0) (h4 : x3 = 36) (h5 : x4 = x3 + x2) (h6 : x5 = 41) (h7 : x6 = x5 + x2) (h8 : -2147483648 ≤ x0) (h9 : x0 ≤ 2147483647) (h10 : -2147483648 ≤ x1) (h11 : x1 ≤ 2147483647) (h12 : -2147483648 ≤ x2) (h13 : x2 ≤ 2147483647) (h14 : -2147483648 ≤ x3) (h15 : x3 ≤ 2147483647) (h16 : -2147483648 ≤ x4) (h17 : x4 ≤ 2147483647) (h18 : -2147483648 ≤ x5) (h19 : x5 ≤ 2147483647) (h20 : -2147483648 ≤ x6) (h21 : x6 ≤ 2147483647) : -2147483648 ≤ 4 * x0 := by omega
theorem o36_471 {x0 x1 x2 x3 x4 x5 x6 : Int} (h0 : 0 ≤ x1) (h1 : x1 ≤ 1) (h2 : (x1 = 0 ∨ (0 ≤ x2 ∧ x2 ≤ 4 ∧ 0 ≤ x0 ∧ x0 ≤ 24))) (h3 : ¬ x1 = 0) (h4 : x3 = 36) (h5 : x4 = x3 + x2) (h6 : x5 = 41) (h7 : x6 = x5 + x2) (h8 : -2147483648 ≤ x0) (h9 : x0 ≤ 2147483647) (h10 : -2147483648 ≤ x1) (h11 : x1 ≤ 2147483647) (h12 : -2147483648 ≤ x2) (h13 : x2 ≤ 2147483647) (h14 : -2147483648 ≤ x3) (h15 : x3 ≤ 2147483647) (h16 : -2147483648 ≤ x4) (h17 : x4 ≤ 2147483647) (h18 : -2147483648 ≤ x5) (h19 : x5 ≤ 2147483647) (h20 : -2147483648 ≤ x6) (h21 : x6 ≤ 2147483647) : 4 * x0 ≤ 2147483647 := by omega
theorem o36_472 {x0 x1 x2 x3 x4 x5 x6 x7 x8 x10 : Int} {x9 : Nat} (h0 : 0 ≤ x2) (h1 : x2 ≤ 1) (h2 : (x2 = 0 ∨ (0 ≤ x3 ∧ x3 ≤ 4 ∧ 0 ≤ x4 ∧ x4 ≤ 24))) (h3 : ¬ x2 = 0) (h4 : x5 = 36) (h5 : x6 = x5 + x3) (h6 : x7 = 41) (h7 : x8 = x7 + x3) (h8 : 0 ≤ x1) (h9 : x1 ≤ 4) (h10 : 4 - x1 < ((x9 + 1 : Nat) : Int)) (h11 : x10 = 4) (h12 : x1 < x10) (h13 : x0 = 4 * x4) (h14 : -2147483648 ≤ x0) (h15 : x0 ≤ 2147483647) (h16 : -2147483648 ≤ x1) (h17 : x1 ≤ 2147483647) (h18 : -2147483648 ≤ x2) (h19 : x2 ≤ 2147483647) (h20 : -2147483648 ≤ x3) (h21 : x3 ≤ 2147483647) (h22 : -2147483648 ≤ x4) (h23 : x4 ≤ 2147483647) (h24 : -2147483648 ≤ x5) (h25 : x5 ≤ 2147483647) (h26 : -2147483648 ≤ x6) (h27 : x6 ≤ 2147483647) (h28 : -2147483648 ≤ x7) (h29 : x7 ≤ 2147483647) (h30 : -2147483648 ≤ x8) (h31 : x8 ≤ 2147483647) (h32 : -2147483648 ≤ x10) (h33 : x10 ≤ 2147483647) : -2147483648 ≤ x0 + x1 := by omega
theorem o36_473 {x0 x1 x2 x3 x4 x5 x6 x7 x8 x10 : Int} {x9 : Nat} (h0 : 0 ≤ x2) (h1 : x2 ≤ 1) (h2 : (x2 = 0 ∨ (0 ≤ x3 ∧ x3 ≤ 4 ∧ 0 ≤ x4 ∧ x4 ≤ 24))) (h3 : ¬ x2 = 0) (h4 : x5 = 36) (h5 : x6 = x5 + x3) (h6 : x7 = 41) (h7 : x8 = x7 + x3) (h8 : 0 ≤ x1) (h9 : x1 ≤ 4) (h10 : 4 - x1 < ((x9 + 1 : Nat) : Int)) (h11 : x10 = 4) (h12 : x1 < x10) (h13 : x0 = 4 * x4) (h14 : -2147483648 ≤ x0) (h15 : x0 ≤ 2147483647) (h16 : -2147483648 ≤ x1) (h17 : x1 ≤ 2147483647) (h18 : -2147483648 ≤ x2) (h19 : x2 ≤ 2147483647) (h20 : -2147483648 ≤ x3) (h21 : x3 ≤ 2147483647) (h22 : -2147483648 ≤ x4) (h23 : x4 ≤ 2147483647) (h24 : -2147483648 ≤ x5) (h25 : x5 ≤ 2147483647) (h26 : -2147483648 ≤ x6) (h27 : x6 ≤ 2147483647) (h28 : -2147483648 ≤ x7) (h29 : x7 ≤ 2147483647) (h30 : -2147483648 ≤ x8) (h31 : x8 ≤ 2147483647) (h32 : -2147483648 ≤ x10) (h33 : x10 ≤ 2147483647) : x0 + x1 ≤ 2147483647 := by omega
theorem o36_474 {x0 x1 x2 x3 x4 x5 x6 x7 x8 x10 x11 : Int} {x9 : Nat} (h0 : 0 ≤ x1) (h1 : x1 ≤ 1) (h2 : (x1 = 0 ∨ (0 ≤ x2 ∧ x2 ≤ 4 ∧ 0 ≤ x3 ∧ x3 ≤ 24))) (h3 : ¬ x1 = 0) (h4 : x4 = 36) (h5 : x5 = x4 + x2) (h6 : x6 = 41) (h7 : x7 = x6 + x2) (h8 : 0 ≤ x8) (h9 : x8 ≤ 4) (h10 : 4 - x8 < ((x9 + 1 : Nat) : Int)) (h11 : x10 = 4) (h12 : x8 < x10) (h13 : x11 = 4 * x3) (h14 : x0 = x11 + x8) (h15 : -2147483648 ≤ x0) (h16 : x0 ≤ 2147483647) (h17 : -2147483648 ≤ x1) (h18 : x1 ≤ 2147483647) (h19 : -2147483648 ≤ x2) (h20 : x2 ≤ 2147483647) (h21 : -2147483648 ≤ x3) (h22 : x3 ≤ 2147483647) (h23 : -2147483648 ≤ x4) (h24 : x4 ≤ 2147483647) (h25 : -2147483648 ≤ x5) (h26 : x5 ≤ 2147483647) (h27 : -2147483648 ≤ x6) (h28 : x6 ≤ 2147483647) (h29 : -2147483648 ≤ x7) (h30 : x7 ≤ 2147483647) (h31 : -2147483648 ≤ x8) (h32 : x8 ≤ 2147483647) (h33 : -2147483648 ≤ x10) (h34 : x10 ≤ 2147483647) (h35 : -2147483648 ≤ x11) (h36 : x11 ≤ 2147483647) : -2147483648 ≤ 41 * x0 := by omega
theorem o36_475 {x0 x1 x2 x3 x4 x5 x6 x7 x8 x10 x11 : Int} {x9 : Nat} (h0 : 0 ≤ x1) (h1 : x1 ≤ 1) (h2 : (x1 = 0 ∨ (0 ≤ x2 ∧ x2 ≤ 4 ∧ 0 ≤ x3 ∧ x3 ≤ 24))) (h3 : ¬ x1 = 0) (h4 : x4 = 36) (h5 : x5 = x4 + x2) (h6 : x6 = 41) (h7 : x7 = x6 + x2) (h8 : 0 ≤ x8) (h9 : x8 ≤ 4) (h10 : 4 - x8 < ((x9 + 1 : Nat) : Int)) (h11 : x10 = 4) (h12 : x8 < x10) (h13 : x11 = 4 * x3) (h14 : x0 = x11 + x8) (h15 : -2147483648 ≤ x0) (h16 : x0 ≤ 2147483647) (h17 : -2147483648 ≤ x1) (h18 : x1 ≤ 2147483647) (h19 : -2147483648 ≤ x2) (h20 : x2 ≤ 2147483647) (h21 : -2147483648 ≤ x3) (h22 : x3 ≤ 2147483647) (h23 : -2147483648 ≤ x4) (h24 : x4 ≤ 2147483647) (h25 : -2147483648 ≤ x5) (h26 : x5 ≤ 2147483647) (h27 : -2147483648 ≤ x6) (h28 : x6 ≤ 2147483647) (h29 : -2147483648 ≤ x7) (h30 : x7 ≤ 2147483647) (h31 : -2147483648 ≤ x8) (h32 : x8 ≤ 2147483647) (h33 : -2147483648 ≤ x10) (h34 : x10 ≤ 2147483647) (h35 : -2147483648 ≤ x11) (h36 : x11 ≤ 2147483647) : 41 * x0 ≤ 2147483647 := by omega
theorem o36_476 {x0 x1 x2 x3 x4 x5 x6 x7 x8 x9 x10 x11 x12 x13 x14 x16 x18 x19 : Int} {x15 x17 : Nat} (h0 : 0 ≤ x2) (h1 : x2 ≤ 1) (h2 : (x2 = 0 ∨ (0 ≤ x3 ∧ x3 ≤ 4 ∧ 0 ≤ x4 ∧ x4 ≤ 24))) (h3 : ¬ x2 = 0) (h4 : x5 = x6) (h5 : x7 = 0) (h6 : x8 = 40) (h7 : 0 ≤ x9) (h8 : x9 ≤ 1) (h9 : ((x9 = 0 ∧ (x5 < x7 ∨ x8 < x5)) ∨ (x9 = 1 ∧ x7 ≤ x5 ∧ x5 ≤ x8))) (h10 : ¬ x9 = 0) (h11 : x10 = 36) (h12 : x11 = x10 + x3) (h13 : x12 = 41) (h14 : x13 = x12 + x3) (h15 : 0 ≤ x14) (h16 : x14 ≤ 4) (h17 : 4 - x14 < ((x15 + 1 : Nat) : Int)) (h18 : x16 = 4) (h19 : x14 < x16) (h20 : 0 ≤ x1) (h21 : x1 ≤ 41) (h22 : 41 - x1 < ((x17 + 1 : Nat) : Int)) (h23 : x1 ≤ x6) (h24 : x18 = 4 * x4) (h25 : x19 = x18 + x14) (h26 : x0 = 41 * x19) (h27 : -2147483648 ≤ x0) (h28 : x0 ≤ 2147483647) (h29 : -2147483648 ≤ x1) (h30 : x1 ≤ 2147483647) (h31 : -2147483648 ≤ x2) (h32 : x2 ≤ 2147483647) (h33 : -2147483648 ≤ x3) (h34 : x3 ≤ 2147483647) (h35 : -2147483648 ≤ x4) (h36 : x4 ≤ 2147483647) (h37 : -2147483648 ≤ x6) (h38 : x6 ≤ 2147483647) (h39 : -2147483648 ≤ x9) (h40 : x9 ≤ 2147483647) (h41 : -2147483648 ≤ x10) (h42 : x10 ≤ 2147483647) (h43 : -2147483648 ≤ x11) (h44 : x11 ≤ 2147483647) (h45 : -2147483648 ≤ x12) (h46 : x12 ≤ 2147483647) (h47 : -2147483648 ≤ x13) (h48 : x13 ≤ 2147483647) (h49 : -2147483648 ≤ x14) (h50 : x14 ≤ 2147483647) (h51 : -2147483648 ≤ x16) (h52 : x16 ≤ 2147483647) (h53 : -2147483648 ≤ x18) (h54 : x18 ≤ 2147483647) (h55 : -2147483648 ≤ x19) (h56 : x19 ≤ 2147483647) : -2147483648 ≤ x0 + x1 := by omega
theorem o36_477 {x0 x1 x2 x3 x4 x5 x6 x7 x8 x9 x10 x11 x12 x13 x14 x16 x18 x19 : Int} {x15 x17 : Nat} (h0 : 0 ≤ x2) (h1 : x2 ≤ 1) (h2 : (x2 = 0 ∨ (0 ≤ x3 ∧ x3 ≤ 4 ∧ 0 ≤ x4 ∧ x4 ≤ 24))) (h3 : ¬ x2 = 0) (h4 : x5 = x6) (h5 : x7 = 0) (h6 : x8 = 40) (h7 : 0 ≤ x9) (h8 : x9 ≤ 1) (h9 : ((x9 = 0 ∧ (x5 < x7 ∨ x8 < x5)) ∨ (x9 = 1 ∧ x7 ≤ x5 ∧ x5 ≤ x8))) (h10 : ¬ x9 = 0) (h11 : x10 = 36) (h12 : x11 = x10 + x3) (h13 : x12 = 41) (h14 : x13 = x12 + x3) (h15 : 0 ≤ x14) (h16 : x14 ≤ 4) (h17 : 4 - x14 < ((x15 + 1 : Nat) : Int)) (h18 : x16 = 4) (h19 : x14 < x16) (h20 : 0 ≤ x1) (h21 : x1 ≤ 41) (h22 : 41 - x1 < ((x17 + 1 : Nat) : Int)) (h23 : x1 ≤ x6) (h24 : x18 = 4 * x4) (h25 : x19 = x18 + x14) (h26 : x0 = 41 * x19) (h27 : -2147483648 ≤ x0) (h28 : x0 ≤ 2147483647) (h29 : -2147483648 ≤ x1) (h30 : x1 ≤ 2147483647) (h31 : -2147483648 ≤ x2) (h32 : x2 ≤ 2147483647) (h33 : -2147483648 ≤ x3) (h34 : x3 ≤ 2147483647) (h35 : -2147483648 ≤ x4) (h36 : x4 ≤ 2147483647) (h37 : -2147483648 ≤ x6) (h38 : x6 ≤ 2147483647) (h39 : -2147483648 ≤ x9) (h40 : x9 ≤ 2147483647) (h41 : -2147483648 ≤ x10) (h42 : x10 ≤ 2147483647) (h43 : -2147483648 ≤ x11) (h44 : x11 ≤ 2147483647) (h45 : -2147483648 ≤ x12) (h46 : x12 ≤ 2147483647) (h47 : -2147483648 ≤ x13) (h48 : x13 ≤ 2147483647) (h49 : -2147483648 ≤ x14) (h50 : x14 ≤ 2147483647) (h51 : -2147483648 ≤ x16) (h52 : x16 ≤ 2147483647) (h53 : -2147483648 ≤ x18) (h54 : x18 ≤ 2147483647) (h55 : -2147483648 ≤ x19) (h56 : x19 ≤ 2147483647) : x0 + x1 ≤ 2147483647 := by omega
theorem o36_478 {x0 x1 x2 x3 x4 x5 x6 x7 x8 x9 x10 x11 x12 x13 x15 x16 x18 x19 x20 : Int} {x14 x17 : Nat} (h0 : 0 ≤ x1) (h1 : x1 ≤ 1) (h2 : (x1 = 0 ∨ (0 ≤ x2 ∧ x2 ≤ 4 ∧ 0 ≤ x3 ∧ x3 ≤ 24))) (h3 : ¬ x1 = 0) (h4 : x4 = x5) (h5 : x6 = 0) (h6 : x7 = 40) (h7 : 0 ≤ x8) (h8 : x8 ≤ 1) (h9 : ((x8 = 0 ∧ (x4 < x6 ∨ x7 < x4)) ∨ (x8 = 1 ∧ x6 ≤ x4 ∧ x4 ≤ x7))) (h10 : ¬ x8 = 0) (h11 : x9 = 36) (h12 : x10 = x9 + x2) (h13 : x11 = 41) (h14 : x12 = x11 + x2) (h15 : 0 ≤ x13) (h16 : x13 ≤ 4) (h17 : 4 - x13 < ((x14 + 1 : Nat) : Int)) (h18 : x15 = 4) (h19 : x13 < x15) (h20 : 0 ≤ x16) (h21 : x16 ≤ 41) (h22 : 41 - x16 < ((x17 + 1 : Nat) : Int)) (h23 : x16 ≤ x5) (h24 : x18 = 4 * x3) (h25 : x19 = x18 + x13) (h26 : x20 = 41 * x19) (h27 : x0 = x20 + x16) : 0 ≤ x0 := by omega
theorem o36_479 {x0 x1 x2 x3 x4 x5 x6 x7 x8 x9 x10 x11 x12 x13 x15 x16 x18 x19 x20 : Int} {x14 x17 : Nat} (h0 : 0 ≤ x1) (h1 : x1 ≤ 1) (h2 : (x1 = 0 ∨ (0 ≤ x2 ∧ x2 ≤ 4 ∧ 0 ≤ x3 ∧ x3 ≤ 24))) (h3 : ¬ x1 = 0) (h4 : x4 = x5) (h5 : x6 = 0) (h6 : x7 = 40) (h7 : 0 ≤ x8) (h8 : x8 ≤ 1) (h9 : ((x8 = 0 ∧ (x4 < x6 ∨ x7 < x4)) ∨ (x8 = 1 ∧ x6 ≤ x4 ∧ x4 ≤ x7))) (h10 : ¬ x8 = 0) (h11 : x9 = 36) (h12 : x10 = x9 + x2) (h13 : x11 = 41) (h14 : x12 = x11 + x2) (h15 : 0 ≤ x13) (h16 : x13 ≤ 4) (h17 : 4 - x13 < ((x14 + 1 : Nat) : Int)) (h18 : x15 = 4) (h19 : x13 < x15) (h20 : 0 ≤ x16) (h21 : x16 ≤ 41) (h22 : 41 - x16 < ((x17 + 1 : Nat) : Int)) (h23 : x16 ≤ x5) (h24 : x18 = 4 * x3) (h25 : x19 = x18 + x13) (h26 : x20 = 41 * x19) (h27 : x0 = x20 + x16) : x0 < (4100 : Nat) := by omega
theorem o36_480 {x0 x1 x2 x3 x4 x5 x6 x7 x8 x9 x10 x11 x12 x13 x15 x17 x18 x19 x20 : Int} {x14 x16 : Nat} (h0 : 0 ≤ x1) (h1 : x1 ≤ 1) (h2 : (x1 = 0 ∨ (0 ≤ x2 ∧ x2 ≤ 4 ∧ 0 ≤ x3 ∧ x3 ≤ 24))) (h3 : ¬ x1 = 0) (h4 : x4 = x5) (h5 : x6 = 0) (h6 : x7 = 40) (h7 : 0 ≤ x8) (h8 : x8 ≤ 1) (h9 : ((x8 = 0 ∧ (x4 < x6 ∨ x7 < x4)) ∨ (x8 = 1 ∧ x6 ≤ x4 ∧ x4 ≤ x7))) (h10 : ¬ x8 = 0) (h11 : x9 = 36) (h12 : x10 = x9 + x2) (h13 : x11 = 41) (h14 : x12 = x11 + x2) (h15 : 0 ≤ x13) (h16 : x13 ≤ 4) (h17 : 4 - x13 < ((x14 + 1 : Nat) : Int)) (h18 : x15 = 4) (h19 : x13 < x15) (h20 : 0 ≤ x0) (h21 : x0 ≤ 41) (h22 : 41 - x0 < ((x16 + 1 : Nat) : Int)) (h23 : x0 ≤ x5) (h24 : x17 = 4 * x3) (h25 : x18 = x17 + x13) (h26 : x19 = 41 * x18) (h27 : x20 = x19 + x0) (h28 : -2147483648 ≤ x0) (h29 : x0 ≤ 2147483647) (h30 : -2147483648 ≤ x1) (h31 : x1 ≤ 2147483647) (h32 : -2147483648 ≤ x2) (h33 : x2 ≤ 2147483647) (h34 : -2147483648 ≤ x3) (h35 : x3 ≤ 2147483647) (h36 : -2147483648 ≤ x5) (h37 : x5 ≤ 2147483647) (h38 : -2147483648 ≤ x8) (h39 : x8 ≤ 2147483647) (h40 : -2147483648 ≤ x9) (h41 : x9 ≤ 2147483647) (h42 : -2147483648 ≤ x10) (h43 : x10 ≤ 2147483647) (h44 : -2147483648 ≤ x11) (h45 : x11 ≤ 2147483647) (h46 : -2147483648 ≤ x12) (h47 : x12 ≤ 2147483647) (h48 : -2147483648 ≤ x13) (h49 : x13 ≤ 2147483647) (h50 : -2147483648 ≤ x15) (h51 : x15 ≤ 2147483647) (h52 : -2147483648 ≤ x17) (h53 : x17 ≤ 2147483647) (h54 : -2147483648 ≤ x18) (h55 : x18 ≤ 2147483647) (h56 : -2147483648 ≤ x19) (h57 : x19 ≤ 2147483647) (h58 : -2147483648 ≤ x20) (h59 : x20 ≤ 2147483647) : -2147483648 ≤ x0 + 1 := by omega
theorem o36_481 {x0 x1 x2 x3 x4 x5 x6 x7 x8 x9 x10 x11 x12 x13 x15 x17 x18 x19 x20 : Int} {x14 x16 : Nat} (h0 : 0 ≤ x1) (h1 : x1 ≤ 1) (h2 : (x1 = 0 ∨ (0 ≤ x2 ∧ x2 ≤ 4 ∧ 0 ≤ x3 ∧ x3 ≤ 24))) (h3 : ¬ x1 = 0) (h4 : x4 = x5) (h5 : x6 = 0) (h6 : x7 = 40) (h7 : 0 ≤ x8) (h8 : x8 ≤ 1) (h9 : ((x8 = 0 ∧ (x4 < x6 ∨ x7 < x4)) ∨ (x8 = 1 ∧ x6 ≤ x4 ∧ x4 ≤ x7))) (h10 : ¬ x8 = 0) (h11 : x9 = 36) (h12 : x10 = x9 + x2) (h13 : x11 = 41) (h14 : x12 = x11 + x2) (h15 : 0 ≤ x13) (h16 : x13 ≤ 4) (h17 : 4 - x13 < ((x14 + 1 : Nat) : Int)) (h18 : x15 = 4) (h19 : x13 < x15) (h20 : 0 ≤ x0) (h21 : x0 ≤ 41) (h22 : 41 - x0 < ((x16 + 1 : Nat) : Int)) (h23 : x0 ≤ x5) (h24 : x17 = 4 * x3) (h25 : x18 = x17 + x13) (h26 : x19 = 41 * x18) (h27 : x20 = x19 + x0) (h28 : -2147483648 ≤ x0) (h29 : x0 ≤ 2147483647) (h30 : -2147483648 ≤ x1) (h31 : x1 ≤ 2147483647) (h32 : -2147483648 ≤ x2) (h33 : x2 ≤ 2147483647) (h34 : -2147483648 ≤ x3) (h35 : x3 ≤ 2147483647) (h36 : -2147483648 ≤ x5) (h37 : x5 ≤ 2147483647) (h38 : -2147483648 ≤ x8) (h39 : x8 ≤ 2147483647) (h40 : -2147483648 ≤ x9) (h41 : x9 ≤ 2147483647) (h42 : -2147483648 ≤ x10) (h43 : x10 ≤ 2147483647) (h44 : -2147483648 ≤ x11) (h45 : x11 ≤ 2147483647) (h46 : -2147483648 ≤ x12) (h47 : x12 ≤ 2147483647) (h48 : -2147483648 ≤ x13) (h49 : x13 ≤ 2147483647) (h50 : -2147483648 ≤ x15) (h51 : x15 ≤ 2147483647) (h52 : -2147483648 ≤ x17) (h53 : x17 ≤ 2147483647) (h54 : -2147483648 ≤ x18) (h55 : x18 ≤ 2147483647) (h56 : -2147483648 ≤ x19) (h57 : x19 ≤ 2147483647) (h58 : -2147483648 ≤ x20) (h59 : x20 ≤ 2147483647) : x0 + 1 ≤ 2147483647 := by omega
theorem o36_482 {x0 x2 x3 x4 x5 x6 x7 x8 x9 x10 x11 x12 x13 x14 x16 x17 x18 x19 x20 x21 : Int} {x1 x15 : Nat} (h0 : 0 ≤ x2) (h1 : x2 ≤ 1) (h2 : (x2 = 0 ∨ (0 ≤ x3 ∧ x3 ≤ 4 ∧ 0 ≤ x4 ∧ x4 ≤ 24))) (h3 : ¬ x2 = 0) (h4 : x5 = x6) (h5 : x7 = 0) (h6 : x8 = 40) (h7 : 0 ≤ x9) (h8 : x9 ≤ 1) (h9 : ((x9 = 0 ∧ (x5 < x7 ∨ x8 < x5)) ∨ (x9 = 1 ∧ x7 ≤ x5 ∧ x5 ≤ x8))) (h10 : ¬ x9 = 0) (h11 : x10 = 36) (h12 : x11 = x10 + x3) (h13 : x12 = 41) (h14 : x13 = x12 + x3) (h15 : 0 ≤ x14) (h16 : x14 ≤ 4) (h17 : 4 - x14 < ((x15 + 1 : Nat) : Int)) (h18 : x16 = 4) (h19 : x14 < x16) (h20 : 0 ≤ x17) (h21 : x17 ≤ 41) (h22 : 41 - x17 < ((x1 + 1 : Nat) : Int)) (h23 : x17 ≤ x6) (h24 : x18 = 4 * x4) (h25 : x19 = x18 + x14) (h26 : x20 = 41 * x19) (h27 : x21 = x20 + x17) (h28 : x0 = x17 + 1) : 41 - x0 < (x1 : Int) := by omega
theorem o36_483 {x0 x1 x2 x3 x4 x5 x6 x7 x8 x9 x10 x11 x12 x13 x15 x16 x18 x19 x20 x21 : Int} {x14 x17 : Nat} (h0 : 0 ≤ x1) (h1 : x1 ≤ 1) (h2 : (x1 = 0 ∨ (0 ≤ x2 ∧ x2 ≤ 4 ∧ 0 ≤ x3 ∧ x3 ≤ 24))) (h3 : ¬ x1 = 0) (h4 : x4 = x5) (h5 : x6 = 0) (h6 : x7 = 40) (h7 : 0 ≤ x8) (h8 : x8 ≤ 1) (h9 : ((x8 = 0 ∧ (x4 < x6 ∨ x7 < x4)) ∨ (x8 = 1 ∧ x6 ≤ x4 ∧ x4 ≤ x7))) (h10 : ¬ x8 = 0) (h11 : x9 = 36) (h12 : x10 = x9 + x2) (h13 : x11 = 41) (h14 : x12 = x11 + x2) (h15 : 0 ≤ x13) (h16 : x13 ≤ 4) (h17 : 4 - x13 < ((x14 + 1 : Nat) : Int)) (h18 : x15 = 4) (h19 : x13 < x15) (h20 : 0 ≤ x16) (h21 : x16 ≤ 41) (h22 : 41 - x16 < ((x17 + 1 : Nat) : Int)) (h23 : x16 ≤ x5) (h24 : x18 = 4 * x3) (h25 : x19 = x18 + x13) (h26 : x20 = 41 * x19) (h27 : x21 = x20 + x16) (h28 : x0 = x16 + 1) : 0 ≤ x0 := by omega
theorem o36_484 {x0 x1 x2 x3 x4 x5 x6 x7 x8 x9 x10 x11 x12 x13 x15 x16 x18 x19 x20 x21 : Int} {x14 x17 : Nat} (h0 : 0 ≤ x1) (h1 : x1 ≤ 1) (h2 : (x1 = 0 ∨ (0 ≤ x2 ∧ x2 ≤ 4 ∧ 0 ≤ x3 ∧ x3 ≤ 24))) (h3 : ¬ x1 = 0) (h4 : x4 = x5) (h5 : x6 = 0) (h6 : x7 = 40) (h7 : 0 ≤ x8) (h8 : x8 ≤ 1) (h9 : ((x8 = 0 ∧ (x4 < x6 ∨ x7 < x4)) ∨ (x8 = 1 ∧ x6 ≤ x4 ∧ x4 ≤ x7))) (h10 : ¬ x8 = 0) (h11 : x9 = 36) (h12 : x10 = x9 + x2) (h13 : x11 = 41) (h14 : x12 = x11 + x2) (h15 : 0 ≤ x13) (h16 : x13 ≤ 4) (h17 : 4 - x13 < ((x14 + 1 : Nat) : Int)) (h18 : x15 = 4) (h19 : x13 < x15) (h20 : 0 ≤ x16) (h21 : x16 ≤ 41) (h22 : 41 - x16 < ((x17 + 1 : Nat) : Int)) (h23 : x16 ≤ x5) (h24 : x18 = 4 * x3) (h25 : x19 = x18 + x13) (h26 : x20 = 41 * x19) (h27 : x21 = x20 + x16) (h28 : x0 = x16 + 1) : x0 ≤ 41 := by omega
theorem o36_485 {x0 x1 x2 x3 x4 x5 : Int} {x6 : Nat} (h0 : x1 = x2) (h1 : x3 = 0) (h2 : x4 = 20) (h3 : 0 ≤ x5) (h4 : x5 ≤ 1) (h5 : ((x5 = 0 ∧ (x1 < x3 ∨ x4 < x1)) ∨ (x5 = 1 ∧ x3 ≤ x1 ∧ x1 ≤ x4))) (h6 : ¬ x5 = 0) (h7 : 0 ≤ x0) (h8 : x0 ≤ 20) (h9 : 20 - x0 < ((x6 + 1 : Nat) : Int)) (h10 : x0 < x2) (h11 : -2147483648 ≤ x0) (h12 : x0 ≤ 2147483647) (h13 : -2147483648 ≤ x2) (h14 : x2 ≤ 2147483647) (h15 : -2147483648 ≤ x5) (h16 : x5 ≤ 2147483647) : -2147483648 ≤ x0 + 1 := by omega
theorem o36_486 {x0 x1 x2 x3 x4 x5 : Int} {x6 : Nat} (h0 : x1 = x2) (h1 : x3 = 0) (h2 : x4 = 20) (h3 : 0 ≤ x5) (h4 : x5 ≤ 1) (h5 : ((x5 = 0 ∧ (x1 < x3 ∨ x4 < x1)) ∨ (x5 = 1 ∧ x3 ≤ x1 ∧ x1 ≤ x4))) (h6 : ¬ x5 = 0) (h7 : 0 ≤ x0) (h8 : x0 ≤ 20) (h9 : 20 - x0 < ((x6 + 1 : Nat) : Int)) (h10 : x0 < x2) (h11 : -2147483648 ≤ x0) (h12 : x0 ≤ 2147483647) (h13 : -2147483648 ≤ x2) (h14 : x2 ≤ 2147483647) (h15 : -2147483648 ≤ x5) (h16 : x5 ≤ 2147483647) : x0 + 1 ≤ 2147483647 := by omega
theorem o36_487 {x0 x2 x3 x4 x5 x6 x7 : Int} {x1 : Nat} (h0 : x2 = x3) (h1 : x4 = 0) (h2 : x5 = 20) (h3 : 0 ≤ x6) (h4 : x6 ≤ 1) (h5 : ((x6 = 0 ∧ (x2 < x4 ∨ x5 < x2)) ∨ (x6 = 1 ∧ x4 ≤ x2 ∧ x2 ≤ x5))) (h6 : ¬ x6 = 0) (h7 : 0 ≤ x7) (h8 : x7 ≤ 20) (h9 : 20 - x7 < ((x1 + 1 : Nat) : Int)) (h10 : x7 < x3) (h11 : x0 = x7 + 1) : 20 - x0 < (x1 : Int) := by omega
theorem o36_488 {x0 x1 x2 x3 x4 x5 x6 : Int} {x7 : Nat} (h0 : x1 = x2) (h1 : x3 = 0) (h2 : x4 = 20) (h3 : 0 ≤ x5) (h4 : x5 ≤ 1) (h5 : ((x5 = 0 ∧ (x1 < x3 ∨ x4 < x1)) ∨ (x5 = 1 ∧ x3 ≤ x1 ∧ x1 ≤ x4))) (h6 : ¬ x5 = 0) (h7 : 0 ≤ x6) (h8 : x6 ≤ 20) (h9 : 20 - x6 < ((x7 + 1 : Nat) : Int)) (h10 : x6 < x2) (h11 : x0 = x6 + 1) : 0 ≤ x0 := by omega
theorem o36_489 {x0 x1 x2 x3 x4 x5 x6 : Int} {x7 : Nat} (h0 : x1 = x2) (h1 : x3 = 0) (h2 : x4 = 20) (h3 : 0 ≤ x5) (h4 : x5 ≤ 1) (h5 : ((x5 = 0 ∧ (x1 < x3 ∨ x4 < x1)) ∨ (x5 = 1 ∧ x3 ≤ x1 ∧ x1 ≤ x4))) (h6 : ¬ x5 = 0) (h7 : 0 ≤ x6) (h8 : x6 ≤ 20) (h9 : 20 - x6 < ((x7 + 1 : Nat) : Int)) (h10 : x6 < x2) (h11 : x0 = x6 + 1) : x0 ≤ 20 := by omega
theorem o36_490 {x0 x2 : Int} {x1 : Nat} (h0 : 0 ≤ x0) (h1 : x0 ≤ 4100) (h2 : 4100 - x0 < ((x1 + 1 : Nat) : Int)) (h3 : x2 = 4100) (h4 : x0 < x2) : 0 ≤ x0 := by omega
theorem o36_491 {x0 x2 : Int} {x1 : Nat} (h0 : 0 ≤ x0) (h1 : x0 ≤ 4100) (h2 : 4100 - x0 < ((x1 + 1 : Nat) : Int)) (h3 : x2 = 4100) (h4 : x0 < x2) : x0 < (4100 : Nat) := by omega
theorem o36_492 {x0 x2 : Int} {x1 : Nat} (h0 : 0 ≤ x0) (h1 : x0 ≤ 4100) (h2 : 4100 - x0 < ((x1 + 1 : Nat) : Int)) (h3 : x2 = 4100) (h4 : x0 < x2) (h5 : -2147483648 ≤ x0) (h6 : x0 ≤ 2147483647) (h7 : -2147483648 ≤ x2) (h8 : x2 ≤ 2147483647) : -2147483648 ≤ x0 + 1 := by omega
theorem o36_493 {x0 x2 : Int} {x1 : Nat} (h0 : 0 ≤ x0) (h1 : x0 ≤ 4100) (h2 : 4100 - x0 < ((x1 + 1 : Nat) : Int)) (h3 : x2 = 4100) (h4 : x0 < x2) (h5 : -2147483648 ≤ x0) (h6 : x0 ≤ 2147483647) (h7 : -2147483648 ≤ x2) (h8 : x2 ≤ 2147483647) : x0 + 1 ≤ 2147483647 := by omega
theorem o36_494 {x0 x2 x3 : Int} {x1 : Nat} (h0 : 0 ≤ x2) (h1 : x2 ≤ 4100) (h2 : 4100 - x2 < ((x1 + 1 : Nat) : Int)) (h3 : x3 = 4100) (h4 : x2 < x3) (h5 : x0 = x2 + 1) : 4100 - x0 < (x1 : Int) := by omega
theorem o36_495 {x0 x1 x3 : Int} {x2 : Nat} (h0 : 0 ≤ x1) (h1 : x1 ≤ 4100) (h2 : 4100 - x1 < ((x2 + 1 : Nat) : Int)) (h3 : x3 = 4100) (h4 : x1 < x3) (h5 : x0 = x1 + 1) : 0 ≤ x0 := by omega
theorem o36_496 {x0 x1 x3 : Int} {x2 : Nat} (h0 : 0 ≤ x1) (h1 : x1 ≤ 4100) (h2 : 4100 - x1 < ((x2 + 1 : Nat) : Int)) (h3 : x3 = 4100) (h4 : x1 < x3) (h5 : x0 = x1 + 1) : x0 ≤ 4100 := by omega
theorem o36_497 {x0 : Int} (h0 : x0 = 0) : 4100 - x0 < (((4100 - x0 + 1).toNat : Nat) : Int) := by omega
theorem o36_498 {x0 : Int} (h0 : x0 = 0) : x0 ≤ 4100 := by omega
theorem o36_499 {x0 x1 x2 x3 x4 x5 : Int} {x6 : Nat} (h0 : x1 = x2) (h1 : x3 = 0) (h2 : x4 = 20) (h3 : 0 ≤ x5) (h4 : x5 ≤ 1) (h5 : ((x5 = 0 ∧ (x1 < x3 ∨ x4 < x1)) ∨ (x5 = 1 ∧ x3 ≤ x1 ∧ x1 ≤ x4))) (h6 : ¬ x5 = 0) (h7 : 0 ≤ x0) (h8 : x0 ≤ 20) (h9 : 20 - x0 < ((x6 + 1 : Nat) : Int)) (h10 : x0 < x2) : 0 ≤ x0 := by omega
theorem o36_500 {x0 x1 x2 x3 x4 x5 : Int} {x6 : Nat} (h0 : x1 = x2) (h1 : x3 = 0) (h2 : x4 = 20) (h3 : 0 ≤ x5) (h4 : x5 ≤ 1) (h5 : ((x5 = 0 ∧ (x1 < x3 ∨ x4 < x1)) ∨ (x5 = 1 ∧ x3 ≤ x1 ∧ x1 ≤ x4))) (h6 : ¬ x5 = 0) (h7 : 0 ≤ x0) (h8 : x0 ≤ 20) (h9 : 20 - x0 < ((x6 + 1 : Nat) : Int)) (h10 : x0 < x2) : x0 ≤ 19 := by omega
theorem o36_501 {x0 x2 x3 : Int} {x1 : Nat} (h0 : 0 ≤ x0) (h1 : x0 ≤ 100) (h2 : 100 - x0 < ((x1 + 1 : Nat) : Int)) (h3 : 0 ≤ x2) (h4 : x2 ≤ 25) (h5 : x3 = 4 * x2) (h6 : x0 < x3) : 0 ≤ x0 := by omega
theorem o36_502 {x0 x2 x3 : Int} {x1 : Nat} (h0 : 0 ≤ x0) (h1 : x0 ≤ 100) (h2 : 100 - x0 < ((x1 + 1 : Nat) : Int)) (h3 : 0 ≤ x2) (h4 : x2 ≤ 25) (h5 : x3 = 4 * x2) (h6 : x0 < x3) : x0 ≤ 99 := by omega
theorem o36_503 {x0 x1 x2 x3 x4 : Int} (h0 : x1 = x0) (h1 : x2 = 0) (h2 : x3 = 40) (h3 : 0 ≤ x4) (h4 : x4 ≤ 1) (h5 : ((x4 = 0 ∧ (x1 < x2 ∨ x3 < x1)) ∨ (x4 = 1 ∧ x2 ≤ x1 ∧ x1 ≤ x3))) (h6 : ¬ x4 = 0) : 0 ≤ x0 := by omega
theorem o36_504 {x0 x1 x2 x3 x4 : Int} (h0 : x1 = x0) (h1 : x2 = 0) (h2 : x3 = 40) (h3 : 0 ≤ x4) (h4 : x4 ≤ 1) (h5 : ((x4 = 0 ∧ (x1 < x2 ∨ x3 < x1)) ∨ (x4 = 1 ∧ x2 ≤ x1 ∧ x1 ≤ x3))) (h6 : ¬ x4 = 0) : x0 ≤ 40 := by omega
theorem o36_505 {x0 x1 x2 x3 x4 x5 x6 : Int} (h0 : 0 ≤ x0) (h1 : x0 ≤ 1) (h2 : (x0 = 0 ∨ (0 ≤ x1 ∧ x1 ≤ 4 ∧ 0 ≤ x2 ∧ x2 ≤ 24))) (h3 : ¬ x0 = 0) (h4 : x3 = 36) (h5 : x4 = x3 + x1) (h6 : x5 = 41) (h7 : x6 = x5 + x1) : ¬ x0 = 0 := by omega
theorem o36_506 {x0 x2 x3 : Int} {x1 : Nat} (h0 : 0 ≤ x0) (h1 : x0 ≤ 100) (h2 : 100 - x0 < ((x1 + 1 : Nat) : Int)) (h3 : 0 ≤ x2) (h4 : x2 ≤ 25) (h5 : x3 = 4 * x2) (h6 : x0 < x3) (h7 : -2147483648 ≤ x0) (h8 : x0 ≤ 2147483647) (h9 : -2147483648 ≤ x2) (h10 : x2 ≤ 2147483647) (h11 : -2147483648 ≤ x3) (h12 : x3 ≤ 2147483647) : -2147483648 ≤ x0 + 1 := by omega
theorem o36_507 {x0 x2 x3 : Int} {x1 : Nat} (h0 : 0 ≤ x0) (h1 : x0 ≤ 100) (h2 : 100 - x0 < ((x1 + 1 : Nat) : Int)) (h3 : 0 ≤ x2) (h4 : x2 ≤ 25) (h5 : x3 = 4 * x2) (h6 : x0 < x3) (h7 : -2147483648 ≤ x0) (h8 : x0 ≤ 2147483647) (h9 : -2147483648 ≤ x2) (h10 : x2 ≤ 2147483647) (h11 : -2147483648 ≤ x3) (h12 : x3 ≤ 2147483647) : x0 + 1 ≤ 2147483647 := by omega
theorem o36_508 {x0 x2 x3 x4 : Int} {x1 : Nat} (h0 : 0 ≤ x2) (h1 : x2 ≤ 100) (h2 : 100 - x2 < ((x1 + 1 : Nat) : Int)) (h3 : 0 ≤ x3) (h4 : x3 ≤ 25) (h5 : x4 = 4 * x3) (h6 : x2 < x4) (h7 : x0 = x2 + 1) : 100 - x0 < (x1 : Int) := by omega
theorem o36_509 {x0 x1 x3 x4 : Int} {x2 : Nat} (h0 : 0 ≤ x1) (h1 : x1 ≤ 100) (h2 : 100 - x1 < ((x2 + 1 : Nat) : Int)) (h3 : 0 ≤ x3) (h4 : x3 ≤ 25) (h5 : x4 = 4 * x3) (h6 : x1 < x4) (h7 : x0 = x1 + 1) : 0 ≤ x0 := by omega
theorem o36_510 {x0 x1 x3 x4 : Int} {x2 : Nat} (h0 : 0 ≤ x1) (h1 : x1 ≤ 100) (h2 : 100 - x1 < ((x2 + 1 : Nat) : Int)) (h3 : 0 ≤ x3) (h4 : x3 ≤ 25) (h5 : x4 = 4 * x3) (h6 : x1 < x4) (h7 : x0 = x1 + 1) : x0 ≤ 100 := by omega
theorem o36_511 {x0 : Int} (h0 : x0 = 0) : 20 - x0 < (((20 - x0 + 1).toNat : Nat) : Int) := by omega
theorem o36_512 {x0 : Int} (h0 : x0 = 0) : x0 ≤ 20 := by omega
theorem o36_513 {x0 x1 x2 : Int} (h0 : x1 = x0) (h1 : 0 ≤ x2) (h2 : x2 ≤ 1) (h3 : (x2 = 0 ∨ (0 ≤ x1 ∧ x1 ≤ 4))) (h4 : ¬ x2 = 0) : 0 ≤ x0 := by omega
theorem o36_514 {x0 x1 x2 : Int} (h0 : x1 = x0) (h1 : 0 ≤ x2) (h2 : x2 ≤ 1) (h3 : (x2 = 0 ∨ (0 ≤ x1 ∧ x1 ≤ 4))) (h4 : ¬ x2 = 0) : x0 ≤ 4 := by omega
theorem o36_515 {x0 x1 x2 : Int} (h0 : x1 = x2) (h1 : 0 ≤ x0) (h2 : x0 ≤ 1) (h3 : (x0 = 0 ∨ (0 ≤ x1 ∧ x1 ≤ 4))) (h4 : ¬ x0 = 0) : ¬ x0 = 0 := by omega
theorem o36_516 {x0 x2 : Int} {x1 : Nat} (h0 : 0 ≤ x0) (h1 : x0 ≤ 25) (h2 : 25 - x0 < ((x1 + 1 : Nat) : Int)) (h3 : 0 ≤ x2) (h4 : x2 ≤ 25) (h5 : x0 < x2) : 0 ≤ x0 := by omega
theorem o36_517 {x0 x2 : Int} {x1 : Nat} (h0 : 0 ≤ x0) (h1 : x0 ≤ 25) (h2 : 25 - x0 < ((x1 + 1 : Nat) : Int)) (h3 : 0 ≤ x2) (h4 : x2 ≤ 25) (h5 : x0 < x2) : x0 ≤ 24 := by omega
theorem o36_518 {x0 x2 : Int} {x1 : Nat} (h0 : 0 ≤ x0) (h1 : x0 ≤ 25) (h2 : 25 - x0 < ((x1 + 1 : Nat) : Int)) (h3 : 0 ≤ x2) (h4 : x2 ≤ 25) (h5 : x0 < x2) (h6 : -2147483648 ≤ x0) (h7 : x0 ≤ 2147483647) (h8 : -2147483648 ≤ x2) (h9 : x2 ≤ 2147483647) : -2147483648 ≤ x0 + 1 := by omega
theorem o36_519 {x0 x2 : Int} {x1 : Nat} (h0 : 0 ≤ x0) (h1 : x0 ≤ 25) (h2 : 25 - x0 < ((x1 + 1 : Nat) : Int)) (h3 : 0 ≤ x2) (h4 : x2 ≤ 25) (h5 : x0 < x2) (h6 : -2147483648 ≤ x0) (h7 : x0 ≤ 2147483647) (h8 : -2147483648 ≤ x2) (h9 : x2 ≤ 2147483647) : x0 + 1 ≤ 2147483647 := by omega
theorem o36_520 {x0 x2 x3 : Int} {x1 : Nat} (h0 : 0 ≤ x2) (h1 : x2 ≤ 25) (h2 : 25 - x2 < ((x1 + 1 : Nat) : Int)) (h3 : 0 ≤ x3) (h4 : x3 ≤ 25) (h5 : x2 < x3) (h6 : x0 = x2 + 1) : 25 - x0 < (x1 : Int) := by omega
theorem o36_521 {x0 x1 x3 : Int} {x2 : Nat} (h0 : 0 ≤ x1) (h1 : x1 ≤ 25) (h2 : 25 - x1 < ((x2 + 1 : Nat) : Int)) (h3 : 0 ≤ x3) (h4 : x3 ≤ 25) (h5 : x1 < x3) (h6 : x0 = x1 + 1) : 0 ≤ x0 := by omega
theorem o36_522 {x0 x1 x3 : Int} {x2 : Nat} (h0 : 0 ≤ x1) (h1 : x1 ≤ 25) (h2 : 25 - x1 < ((x2 + 1 : Nat) : Int)) (h3 : 0 ≤ x3) (h4 : x3 ≤ 25) (h5 : x1 < x3) (h6 : x0 = x1 + 1) : x0 ≤ 25 := by omega
theorem o36_523 {x0 : Int} (h0 : 0 ≤ x0) : (-2) ≤ x0 := by omega
theorem o36_524 {x0 : Int} (h0 : 0 ≤ x0) : 0 ≤ x0 := by omega
theorem o36_525 {x0 x1 x2 : Int} (h0 : 0 ≤ x0) (h1 : x1 = 1000000000) (h2 : ¬ x2 = x1) (h3 : x2 ≤ x0) : 0 ≤ x0 := by omega
theorem o36_526 {x0 x1 x2 : Int} (h0 : 0 ≤ x1) (h1 : x2 = 1000000000) (h2 : ¬ x0 = x2) (h3 : x1 < x0) : 0 ≤ x0 := by omega
theorem o36_527 {x0 : Int} (h0 : x0 = (-2)) : (-2) ≤ x0 := by omega
theorem o36_528 {x0 x1 : Int} (h0 : 0 ≤ x1) (h1 : x1 ≤ 1) (h2 : (x1 = 0 ∨ (0 ≤ x0 ∧ x0 ≤ 3))) (h3 : ¬ x1 = 0) : 0 ≤ x0 := by omega
theorem o36_529 {x0 x1 : Int} (h0 : 0 ≤ x1) (h1 : x1 ≤ 1) (h2 : (x1 = 0 ∨ (0 ≤ x0 ∧ x0 ≤ 3))) (h3 : ¬ x1 = 0) : x0 ≤ 3 := by omega
theorem o36_530 {x0 : Int} (h0 : x0 = 2) : 0 ≤ x0 := by omega
theorem o36_531 {x0 : Int} (h0 : x0 = 2) : x0 ≤ 3 := by omega
theorem o36_532 {x0 x1 x2 : Int} (h0 : x1 = x0) (h1 : 0 ≤ x2) (h2 : x2 ≤ 1) (h3 : (x2 = 0 ∨ (0 ≤ x1 ∧ x1 ≤ 24))) (h4 : ¬ x2 = 0) : 0 ≤ x0 := by omega
theorem o36_533 {x0 x1 x2 : Int} (h0 : x1 = x0) (h1 : 0 ≤ x2) (h2 : x2 ≤ 1) (h3 : (x2 = 0 ∨ (0 ≤ x1 ∧ x1 ≤ 24))) (h4 : ¬ x2 = 0) : x0 ≤ 24 := by omega
theorem o36_534 {x0 x1 x2 : Int} (h0 : x1 = x2) (h1 : 0 ≤ x0) (h2 : x0 ≤ 1) (h3 : (x0 = 0 ∨ (0 ≤ x1 ∧ x1 ≤ 24))) (h4 : ¬ x0 = 0) : ¬ x0 = 0 := by omega
theorem o36_535 {x0 x2 : Int} {x1 : Nat} (h0 : 0 ≤ x0) (h1 : x0 ≤ 100) (h2 : 100 - x0 < ((x1 + 1 : Nat) : Int)) (h3 : x2 = 100) (h4 : x2 ≤ x0) : ¬ x0 < 100 := by omega
theorem o36_536 {x0 x2 : Int} {x1 : Nat} (h0 : 0 ≤ x0) (h1 : x0 ≤ 100) (h2 : 100 - x0 < ((x1 + 1 : Nat) : Int)) (h3 : x2 = 100) (h4 : x0 < x2) : x0 < 100 := by omega
theorem o36_537 {x0 : Int} (h0 : 1 ≤ x0) (h1 : x0 ≤ 61) (h2 : 61 - x0 < 0) : False := by omega
theorem o36_538 {x0 x2 : Int} {x1 : Nat} (h0 : 1 ≤ x0) (h1 : x0 ≤ 61) (h2 : 61 - x0 < ((x1 + 1 : Nat) : Int)) (h3 : x2 = 60) (h4 : x2 < x0) : 60 < x0 := by omega
theorem o36_539 {x0 x2 : Int} {x1 : Nat} (h0 : 1 ≤ x0) (h1 : x0 ≤ 61) (h2 : 61 - x0 < ((x1 + 1 : Nat) : Int)) (h3 : x2 = 60) (h4 : x0 ≤ x2) : ¬ 60 < x0 := by omega
theorem o36_540 {x0 : Int} (h0 : x0 = (-1)) : (-2) ≤ x0 := by omega
theorem o36_541 {x0 x2 : Int} {x1 : Nat} (h0 : 1 ≤ x0) (h1 : x0 ≤ 61) (h2 : 61 - x0 < ((x1 + 1 : Nat) : Int)) (h3 : x2 = 60) (h4 : x0 ≤ x2) (h5 : -2147483648 ≤ x0) (h6 : x0 ≤ 2147483647) (h7 : -2147483648 ≤ x2) (h8 : x2 ≤ 2147483647) : -2147483648 ≤ x0 + 1 := by omega
theorem o36_542 {x0 x2 : Int} {x1 : Nat} (h0 : 1 ≤ x0) (h1 : x0 ≤ 61) (h2 : 61 - x0 < ((x1 + 1 : Nat) : Int)) (h3 : x2 = 60) (h4 : x0 ≤ x2) (h5 : -2147483648 ≤ x0) (h6 : x0 ≤ 2147483647) (h7 : -2147483648 ≤ x2) (h8 : x2 ≤ 2147483647) : x0 + 1 ≤ 2147483647 := by omega
theorem o36_543 {x0 x2 x3 : Int} {x1 : Nat} (h0 : 1 ≤ x2) (h1 : x2 ≤ 61) (h2 : 61 - x2 < ((x1 + 1 : Nat) : Int)) (h3 : x3 = 60) (h4 : x2 ≤ x3) (h5 : x0 = x2 + 1) : 61 - x0 < (x1 : Int) := by omega
theorem o36_544 {x0 x1 x3 : Int} {x2 : Nat} (h0 : 1 ≤ x1) (h1 : x1 ≤ 61) (h2 : 61 - x1 < ((x2 + 1 : Nat) : Int)) (h3 : x3 = 60) (h4 : x1 ≤ x3) (h5 : x0 = x1 + 1) : 1 ≤ x0 := by omega
theorem o36_545 {x0 x1 x3 : Int} {x2 : Nat} (h0 : 1 ≤ x1) (h1 : x1 ≤ 61) (h2 : 61 - x1 < ((x2 + 1 : Nat) : Int)) (h3 : x3 = 60) (h4 : x1 ≤ x3) (h5 : x0 = x1 + 1) : x0 ≤ 61 := by omega
theorem o36_546 {x0 x1 : Int} (h0 : (-1) ≤ x0) (h1 : x0 ≤ 24) (h2 : x1 = (-1)) (h3 : ¬ x0 = x1) (h4 : -2147483648 ≤ x0) (h5 : x0 ≤ 2147483647) (h6 : -2147483648 ≤ x1) (h7 : x1 ≤ 2147483647) : -2147483648 ≤ 4 * x0 := by omega
theorem o36_547 {x0 x1 : Int} (h0 : (-1) ≤ x0) (h1 : x0 ≤ 24) (h2 : x1 = (-1)) (h3 : ¬ x0 = x1) (h4 : -2147483648 ≤ x0) (h5 : x0 ≤ 2147483647) (h6 : -2147483648 ≤ x1) (h7 : x1 ≤ 2147483647) : 4 * x0 ≤ 2147483647 := by omega
theorem o36_548 {x0 x1 x2 x3 x5 : Int} {x4 : Nat} (h0 : (-1) ≤ x2) (h1 : x2 ≤ 24) (h2 : x3 = (-1)) (h3 : ¬ x2 = x3) (h4 : 0 ≤ x1) (h5 : x1 ≤ 4) (h6 : 4 - x1 < ((x4 + 1 : Nat) : Int)) (h7 : x5 = 4) (h8 : x1 < x5) (h9 : x0 = 4 * x2) (h10 : -2147483648 ≤ x0) (h11 : x0 ≤ 2147483647) (h12 : -2147483648 ≤ x1) (h13 : x1 ≤ 2147483647) (h14 : -2147483648 ≤ x2) (h15 : x2 ≤ 2147483647) (h16 : -2147483648 ≤ x3) (h17 : x3 ≤ 2147483647) (h18 : -2147483648 ≤ x5) (h19 : x5 ≤ 2147483647) : -2147483648 ≤ x0 + x1 := by omega
theorem o36_549 {x0 x1 x2 x3 x5 : Int} {x4 : Nat} (h0 : (-1) ≤ x2) (h1 : x2 ≤ 24) (h2 : x3 = (-1)) (h3 : ¬ x2 = x3) (h4 : 0 ≤ x1) (h5 : x1 ≤ 4) (h6 : 4 - x1 < ((x4 + 1 : Nat) : Int)) (h7 : x5 = 4) (h8 : x1 < x5) (h9 : x0 = 4 * x2) (h10 : -2147483648 ≤ x0) (h11 : x0 ≤ 2147483647) (h12 : -2147483648 ≤ x1) (h13 : x1 ≤ 2147483647) (h14 : -2147483648 ≤ x2) (h15 : x2 ≤ 2147483647) (h16 : -2147483648 ≤ x3) (h17 : x3 ≤ 2147483647) (h18 : -2147483648 ≤ x5) (h19 : x5 ≤ 2147483647) : x0 + x1 ≤ 2147483647 := by omega
theorem o36_550 {x0 x1 x2 x3 x5 x6 : Int} {x4 : Nat} (h0 : (-1) ≤ x1) (h1 : x1 ≤ 24) (h2 : x2 = (-1)) (h3 : ¬ x1 = x2) (h4 : 0 ≤ x3) (h5 : x3 ≤ 4) (h6 : 4 - x3 < ((x4 + 1 : Nat) : Int)) (h7 : x5 = 4) (h8 : x3 < x5) (h9 : x6 = 4 * x1) (h10 : x0 = x6 + x3) : 0 ≤ x0 := by omega
theorem o36_551 {x0 x1 x2 x3 x5 x6 : Int} {x4 : Nat} (h0 : (-1) ≤ x1) (h1 : x1 ≤ 24) (h2 : x2 = (-1)) (h3 : ¬ x1 = x2) (h4 : 0 ≤ x3) (h5 : x3 ≤ 4) (h6 : 4 - x3 < ((x4 + 1 : Nat) : Int)) (h7 : x5 = 4) (h8 : x3 < x5) (h9 : x6 = 4 * x1) (h10 : x0 = x6 + x3) : x0 < (100 : Nat) := by omega
theorem o36_552 {x0 x1 x2 x4 x5 x6 : Int} {x3 : Nat} (h0 : (-1) ≤ x1) (h1 : x1 ≤ 24) (h2 : x2 = (-1)) (h3 : ¬ x1 = x2) (h4 : 0 ≤ x0) (h5 : x0 ≤ 4) (h6 : 4 - x0 < ((x3 + 1 : Nat) : Int)) (h7 : x4 = 4) (h8 : x0 < x4) (h9 : x5 = 4 * x1) (h10 : x6 = x5 + x0) (h11 : -2147483648 ≤ x0) (h12 : x0 ≤ 2147483647) (h13 : -2147483648 ≤ x1) (h14 : x1 ≤ 2147483647) (h15 : -2147483648 ≤ x2) (h16 : x2 ≤ 2147483647) (h17 : -2147483648 ≤ x4) (h18 : x4 ≤ 2147483647) (h19 : -2147483648 ≤ x5) (h20 : x5 ≤ 2147483647) (h21 : -2147483648 ≤ x6) (h22 : x6 ≤ 2147483647) : -2147483648 ≤ x0 + 1 := by omega
theorem o36_553 {x0 x1 x2 x4 x5 x6 : Int} {x3 : Nat} (h0 : (-1) ≤ x1) (h1 : x1 ≤ 24) (h2 : x2 = (-1)) (h3 : ¬ x1 = x2) (h4 : 0 ≤ x0) (h5 : x0 ≤ 4) (h6 : 4 - x0 < ((x3 + 1 : Nat) : Int)) (h7 : x4 = 4) (h8 : x0 < x4) (h9 : x5 = 4 * x1) (h10 : x6 = x5 + x0) (h11 : -2147483648 ≤ x0) (h12 : x0 ≤ 2147483647) (h13 : -2147483648 ≤ x1) (h14 : x1 ≤ 2147483647) (h15 : -2147483648 ≤ x2) (h16 : x2 ≤ 2147483647) (h17 : -2147483648 ≤ x4) (h18 : x4 ≤ 2147483647) (h19 : -2147483648 ≤ x5) (h20 : x5 ≤ 2147483647) (h21 : -2147483648 ≤ x6) (h22 : x6 ≤ 2147483647) : x0 + 1 ≤ 2147483647 := by omega
theorem o36_554 {x0 x2 x3 x4 x5 x6 x7 : Int} {x1 : Nat} (h0 : (-1) ≤ x2) (h1 : x2 ≤ 24) (h2 : x3 = (-1)) (h3 : ¬ x2 = x3) (h4 : 0 ≤ x4) (h5 : x4 ≤ 4) (h6 : 4 - x4 < ((x1 + 1 : Nat) : Int)) (h7 : x5 = 4) (h8 : x4 < x5) (h9 : x6 = 4 * x2) (h10 : x7 = x6 + x4) (h11 : x0 = x4 + 1) : 4 - x0 < (x1 : Int) := by omega
theorem o36_555 {x0 x1 x2 x3 x5 x6 x7 : Int} {x4 : Nat} (h0 : (-1) ≤ x1) (h1 : x1 ≤ 24) (h2 : x2 = (-1)) (h3 : ¬ x1 = x2) (h4 : 0 ≤ x3) (h5 : x3 ≤ 4) (h6 : 4 - x3 < ((x4 + 1 : Nat) : Int)) (h7 : x5 = 4) (h8 : x3 < x5) (h9 : x6 = 4 * x1) (h10 : x7 = x6 + x3) (h11 : x0 = x3 + 1) : 0 ≤ x0 := by omega
theorem o36_556 {x0 x1 x2 x3 x5 x6 x7 : Int} {x4 : Nat} (h0 : (-1) ≤ x1) (h1 : x1 ≤ 24) (h2 : x2 = (-1)) (h3 : ¬ x1 = x2) (h4 : 0 ≤ x3) (h5 : x3 ≤ 4) (h6 : 4 - x3 < ((x4 + 1 : Nat) : Int)) (h7 : x5 = 4) (h8 : x3 < x5) (h9 : x6 = 4 * x1) (h10 : x7 = x6 + x3) (h11 : x0 = x3 + 1) : x0 ≤ 4 := by omega
theorem o36_557 {x0 x2 : Int} {x1 : Nat} (h0 : 1 ≤ x0) (h1 : x0 ≤ 61) (h2 : 61 - x0 < ((x1 + 1 : Nat) : Int)) (h3 : x2 = 60) (h4 : x0 ≤ x2) : (-2) ≤ x0 := by omega
theorem o36_558 {x0 x2 : Int} {x1 : Nat} (h0 : 1 ≤ x0) (h1 : x0 ≤ 61) (h2 : 61 - x0 < ((x1 + 1 : Nat) : Int)) (h3 : x2 = 60) (h4 : x0 ≤ x2) : x0 ≤ 60 := by omega
theorem o36_559 {x0 x2 : Int} {x1 : Nat} (h0 : 0 ≤ x0) (h1 : x0 ≤ 100) (h2 : 100 - x0 < ((x1 + 1 : Nat) : Int)) (h3 : x2 = 100) (h4 : x0 < x2) : 0 ≤ x0 := by omega
theorem o36_560 {x0 x2 : Int} {x1 : Nat} (h0 : 0 ≤ x0) (h1 : x0 ≤ 100) (h2 : 100 - x0 < ((x1 + 1 : Nat) : Int)) (h3 : x2 = 100) (h4 : x0 < x2) : x0 < (100 : Nat) := by omega
theorem o36_561 {x0 x2 : Int} {x1 : Nat} (h0 : 0 ≤ x0) (h1 : x0 ≤ 100) (h2 : 100 - x0 < ((x1 + 1 : Nat) : Int)) (h3 : x2 = 100) (h4 : x0 < x2) (h5 : -2147483648 ≤ x0) (h6 : x0 ≤ 2147483647) (h7 : -2147483648 ≤ x2) (h8 : x2 ≤ 2147483647) : -2147483648 ≤ x0 + 1 := by omega
theorem o36_562 {x0 x2 : Int} {x1 : Nat} (h0 : 0 ≤ x0) (h1 : x0 ≤ 100) (h2 : 100 - x0 < ((x1 + 1 : Nat) : Int)) (h3 : x2 = 100) (h4 : x0 < x2) (h5 : -2147483648 ≤ x0) (h6 : x0 ≤ 2147483647) (h7 : -2147483648 ≤ x2) (h8 : x2 ≤ 2147483647) : x0 + 1 ≤ 2147483647 := by omega
theorem o36_563 {x0 x2 x3 : Int} {x1 : Nat} (h0 : 0 ≤ x2) (h1 : x2 ≤ 100) (h2 : 100 - x2 < ((x1 + 1 : Nat) : Int)) (h3 : x3 = 100) (h4 : x2 < x3) (h5 : x0 = x2 + 1) : 100 - x0 < (x1 : Int) := by omega
theorem o36_564 {x0 x1 x3 : Int} {x2 : Nat} (h0 : 0 ≤ x1) (h1 : x1 ≤ 100) (h2 : 100 - x1 < ((x2 + 1 : Nat) : Int)) (h3 : x3 = 100) (h4 : x1 < x3) (h5 : x0 = x1 + 1) : 0 ≤ x0 := by omega
theorem o36_565 {x0 x1 x3 : Int} {x2 : Nat} (h0 : 0 ≤ x1) (h1 : x1 ≤ 100) (h2 : 100 - x1 < ((x2 + 1 : Nat) : Int)) (h3 : x3 = 100) (h4 : x1 < x3) (h5 : x0 = x1 + 1) : x0 ≤ 100 := by omega
theorem o36_566 {x0 : Int} (h0 : 0 ≤ x0) (h1 : x0 ≤ 2) (h2 : 2 - x0 < 0) : False := by omega
theorem o36_567 {x0 : Int} (h0 : x0 = 2) : x0 = 2 := by omega
theorem o36_568 {x0 x2 : Int} {x1 : Nat} (h0 : 0 ≤ x0) (h1 : x0 ≤ 2) (h2 : 2 - x0 < ((x1 + 1 : Nat) : Int)) (h3 : x2 = 2) (h4 : x2 ≤ x0) : ¬ x0 < 2 := by omega
theorem o36_569 {x0 x2 : Int} {x1 : Nat} (h0 : 0 ≤ x0) (h1 : x0 ≤ 2) (h2 : 2 - x0 < ((x1 + 1 : Nat) : Int)) (h3 : x2 = 2) (h4 : x0 < x2) : x0 < 2 := by omega
theorem o36_570 {x0 x2 x3 : Int} {x1 : Nat} (h0 : 0 ≤ x0) (h1 : x0 ≤ 100) (h2 : 100 - x0 < ((x1 + 1 : Nat) : Int)) (h3 : 0 ≤ x2) (h4 : x2 ≤ 25) (h5 : x3 = 4 * x2) (h6 : x0 < x3) : x0 < (100 : Nat) := by omega
theorem o36_571 {x0 x1 x3 x4 : Int} {x2 : Nat} (h0 : 0 ≤ x1) (h1 : x1 ≤ 100) (h2 : 100 - x1 < ((x2 + 1 : Nat) : Int)) (h3 : 0 ≤ x3) (h4 : x3 ≤ 25) (h5 : x4 = 4 * x3) (h6 : x1 < x4) (h7 : x0 = x1 % 4) : 0 ≤ x0 := by omega
theorem o36_572 {x0 x1 x3 x4 : Int} {x2 : Nat} (h0 : 0 ≤ x1) (h1 : x1 ≤ 100) (h2 : 100 - x1 < ((x2 + 1 : Nat) : Int)) (h3 : 0 ≤ x3) (h4 : x3 ≤ 25) (h5 : x4 = 4 * x3) (h6 : x1 < x4) (h7 : x0 = x1 % 4) : x0 ≤ 3 := by omega
theorem o36_573 {x0 x2 : Int} {x1 : Nat} (h0 : 0 ≤ x0) (h1 : x0 ≤ 2) (h2 : 2 - x0 < ((x1 + 1 : Nat) : Int)) (h3 : x2 = 2) (h4 : x0 < x2) : 0 ≤ x0 := by omega
theorem o36_574 {x0 x2 : Int} {x1 : Nat} (h0 : 0 ≤ x0) (h1 : x0 ≤ 2) (h2 : 2 - x0 < ((x1 + 1 : Nat) : Int)) (h3 : x2 = 2) (h4 : x0 < x2) : x0 ≤ 3 := by omega
theorem o36_575 {x0 x2 x3 x4 : Int} {x1 : Nat} (h0 : 0 ≤ x0) (h1 : x0 ≤ 100) (h2 : 100 - x0 < ((x1 + 1 : Nat) : Int)) (h3 : 0 ≤ x2) (h4 : x2 ≤ 25) (h5 : x3 = 4 * x2) (h6 : x0 < x3) (h7 : x4 = x0 % 4) : 0 ≤ x0 := by omega
theorem o36_576 {x0 x1 x3 x4 x5 : Int} {x2 : Nat} (h0 : 0 ≤ x1) (h1 : x1 ≤ 100) (h2 : 100 - x1 < ((x2 + 1 : Nat) : Int)) (h3 : 0 ≤ x3) (h4 : x3 ≤ 25) (h5 : x4 = 4 * x3) (h6 : x1 < x4) (h7 : x5 = x1 % 4) (h8 : x0 = x1 / 4) : 0 ≤ x0 := by omega
theorem o36_577 {x0 x1 x3 x4 x5 : Int} {x2 : Nat} (h0 : 0 ≤ x1) (h1 : x1 ≤ 100) (h2 : 100 - x1 < ((x2 + 1 : Nat) : Int)) (h3 : 0 ≤ x3) (h4 : x3 ≤ 25) (h5 : x4 = 4 * x3) (h6 : x1 < x4) (h7 : x5 = x1 % 4) (h8 : x0 = x1 / 4) : x0 ≤ 24 := by omega
theorem o36_578 {x0 x2 : Int} {x1 : Nat} (h0 : 0 ≤ x0) (h1 : x0 ≤ 2) (h2 : 2 - x0 < ((x1 + 1 : Nat) : Int)) (h3 : x2 = 2) (h4 : x0 < x2) (h5 : -2147483648 ≤ x0) (h6 : x0 ≤ 2147483647) (h7 : -2147483648 ≤ x2) (h8 : x2 ≤ 2147483647) : -2147483648 ≤ x0 + 1 := by omega
theorem o36_579 {x0 x2 : Int} {x1 : Nat} (h0 : 0 ≤ x0) (h1 : x0 ≤ 2) (h2 : 2 - x0 < ((x1 + 1 : Nat) : Int)) (h3 : x2 = 2) (h4 : x0 < x2) (h5 : -2147483648 ≤ x0) (h6 : x0 ≤ 2147483647) (h7 : -2147483648 ≤ x2) (h8 : x2 ≤ 2147483647) : x0 + 1 ≤ 2147483647 := by omega
theorem o36_580 {x0 x2 x3 : Int} {x1 : Nat} (h0 : 0 ≤ x2) (h1 : x2 ≤ 2) (h2 : 2 - x2 < ((x1 + 1 : Nat) : Int)) (h3 : x3 = 2) (h4 : x2 < x3) (h5 : x0 = x2 + 1) : 2 - x0 < (x1 : Int) := by omega
theorem o36_581 {x0 x1 x3 : Int} {x2 : Nat} (h0 : 0 ≤ x1) (h1 : x1 ≤ 2) (h2 : 2 - x1 < ((x2 + 1 : Nat) : Int)) (h3 : x3 = 2) (h4 : x1 < x3) (h5 : x0 = x1 + 1) : 0 ≤ x0 := by omega
theorem o36_582 {x0 x1 x3 : Int} {x2 : Nat} (h0 : 0 ≤ x1) (h1 : x1 ≤ 2) (h2 : 2 - x1 < ((x2 + 1 : Nat) : Int)) (h3 : x3 = 2) (h4 : x1 < x3) (h5 : x0 = x1 + 1) : x0 ≤ 2 := by omega
theorem o36_583 {x0 x1 x2 x3 : Int} (h0 : 0 ≤ x1) (h1 : x1 ≤ 3) (h2 : (-1) ≤ x2) (h3 : x2 ≤ 24) (h4 : x3 = (-1)) (h5 : ¬ x2 = x3) (h6 : x0 = 4 * x2) (h7 : -2147483648 ≤ x0) (h8 : x0 ≤ 2147483647) (h9 : -2147483648 ≤ x1) (h10 : x1 ≤ 2147483647) (h11 : -2147483648 ≤ x2) (h12 : x2 ≤ 2147483647) (h13 : -2147483648 ≤ x3) (h14 : x3 ≤ 2147483647) : -2147483648 ≤ x0 + x1 := by omega
theorem o36_584 {x0 x1 x2 x3 : Int} (h0 : 0 ≤ x1) (h1 : x1 ≤ 3) (h2 : (-1) ≤ x2) (h3 : x2 ≤ 24) (h4 : x3 = (-1)) (h5 : ¬ x2 = x3) (h6 : x0 = 4 * x2) (h7 : -2147483648 ≤ x0) (h8 : x0 ≤ 2147483647) (h9 : -2147483648 ≤ x1) (h10 : x1 ≤ 2147483647) (h11 : -2147483648 ≤ x2) (h12 : x2 ≤ 2147483647) (h13 : -2147483648 ≤ x3) (h14 : x3 ≤ 2147483647) : x0 + x1 ≤ 2147483647 := by omega
theorem o36_585 {x0 x1 x2 x3 x4 : Int} (h0 : 0 ≤ x1) (h1 : x1 ≤ 3) (h2 : (-1) ≤ x2) (h3 : x2 ≤ 24) (h4 : x3 = (-1)) (h5 : ¬ x2 = x3) (h6 : x4 = 4 * x2) (h7 : x0 = x4 + x1) : 0 ≤ x0 := by omega
theorem o36_586 {x0 x1 x2 x3 x4 : Int} (h0 : 0 ≤ x1) (h1 : x1 ≤ 3) (h2 : (-1) ≤ x2) (h3 : x2 ≤ 24) (h4 : x3 = (-1)) (h5 : ¬ x2 = x3) (h6 : x4 = 4 * x2) (h7 : x0 = x4 + x1) : x0 < (100 : Nat) := by omega
theorem o36_587 {x0 : Int} (h0 : x0 = 0) : 2 - x0 < (((2 - x0 + 1).toNat : Nat) : Int) := by omega
theorem o36_588 {x0 : Int} (h0 : x0 = 0) : x0 ≤ 2 := by omega
theorem o36_589 {x0 : Int} (h0 : x0 = 1) : 61 - x0 < (((61 - x0 + 1).toNat : Nat) : Int) := by omega
theorem o36_590 {x0 : Int} (h0 : x0 = 1) : 1 ≤ x0 := by omega
theorem o36_591 {x0 : Int} (h0 : x0 = 1) : x0 ≤ 61 := by omega
theorem o36_592 {x0 x1 x2 : Int} (h0 : x1 = x0) (h1 : 0 ≤ x2) (h2 : x2 ≤ 1) (h3 : (x2 = 0 ∨ (0 ≤ x1 ∧ x1 ≤ 24))) (h4 : ¬ x2 = 0) (h5 : -2147483648 ≤ x0) (h6 : x0 ≤ 2147483647) (h7 : -2147483648 ≤ x2) (h8 : x2 ≤ 2147483647) : -2147483648 ≤ 4 * x0 := by omega
theorem o36_593 {x0 x1 x2 : Int} (h0 : x1 = x0) (h1 : 0 ≤ x2) (h2 : x2 ≤ 1) (h3 : (x2 = 0 ∨ (0 ≤ x1 ∧ x1 ≤ 24))) (h4 : ¬ x2 = 0) (h5 : -2147483648 ≤ x0) (h6 : x0 ≤ 2147483647) (h7 : -2147483648 ≤ x2) (h8 : x2 ≤ 2147483647) : 4 * x0 ≤ 2147483647 := by omega
theorem o36_594 {x0 x1 x2 x3 x4 x5 : Int} (h0 : x2 = x3) (h1 : 0 ≤ x4) (h2 : x4 ≤ 1) (h3 : (x4 = 0 ∨ (0 ≤ x2 ∧ x2 ≤ 24))) (h4 : ¬ x4 = 0) (h5 : 0 ≤ x5) (h6 : x5 ≤ 1) (h7 : (x5 = 0 ∨ (0 ≤ x1 ∧ x1 ≤ 3))) (h8 : ¬ x5 = 0) (h9 : x0 = 4 * x3) (h10 : -2147483648 ≤ x0) (h11 : x0 ≤ 2147483647) (h12 : -2147483648 ≤ x1) (h13 : x1 ≤ 2147483647) (h14 : -2147483648 ≤ x3) (h15 : x3 ≤ 2147483647) (h16 : -2147483648 ≤ x4) (h17 : x4 ≤ 2147483647) (h18 : -2147483648 ≤ x5) (h19 : x5 ≤ 2147483647) : -2147483648 ≤ x0 + x1 := by omega
theorem o36_595 {x0 x1 x2 x3 x4 x5 : Int} (h0 : x2 = x3) (h1 : 0 ≤ x4) (h2 : x4 ≤ 1) (h3 : (x4 = 0 ∨ (0 ≤ x2 ∧ x2 ≤ 24))) (h4 : ¬ x4 = 0) (h5 : 0 ≤ x5) (h6 : x5 ≤ 1) (h7 : (x5 = 0 ∨ (0 ≤ x1 ∧ x1 ≤ 3))) (h8 : ¬ x5 = 0) (h9 : x0 = 4 * x3) (h10 : -2147483648 ≤ x0) (h11 : x0 ≤ 2147483647) (h12 : -2147483648 ≤ x1) (h13 : x1 ≤ 2147483647) (h14 : -2147483648 ≤ x3) (h15 : x3 ≤ 2147483647) (h16 : -2147483648 ≤ x4) (h17 : x4 ≤ 2147483647) (h18 : -2147483648 ≤ x5) (h19 : x5 ≤ 2147483647) : x0 + x1 ≤ 2147483647 := by omega
theorem o36_596 {x0 x1 x2 x3 x4 x5 x7 x8 x9 : Int} {x6 : Nat} (h0 : x1 = x2) (h1 : 0 ≤ x3) (h2 : x3 ≤ 1) (h3 : (x3 = 0 ∨ (0 ≤ x1 ∧ x1 ≤ 24))) (h4 : ¬ x3 = 0) (h5 : 0 ≤ x4) (h6 : x4 ≤ 1) (h7 : (x4 = 0 ∨ (0 ≤ x5 ∧ x5 ≤ 3))) (h8 : ¬ x4 = 0) (h9 : 0 ≤ x0) (h10 : x0 ≤ 100) (h11 : 100 - x0 < ((x6 + 1 : Nat) : Int)) (h12 : x7 = 100) (h13 : x0 < x7) (h14 : x8 = 4 * x2) (h15 : x9 = x8 + x5) (h16 : ¬ x0 = x9) : 0 ≤ x0 := by omega
theorem o36_597 {x0 x1 x2 x3 x4 x5 x7 x8 x9 : Int} {x6 : Nat} (h0 : x1 = x2) (h1 : 0 ≤ x3) (h2 : x3 ≤ 1) (h3 : (x3 = 0 ∨ (0 ≤ x1 ∧ x1 ≤ 24))) (h4 : ¬ x3 = 0) (h5 : 0 ≤ x4) (h6 : x4 ≤ 1) (h7 : (x4 = 0 ∨ (0 ≤ x5 ∧ x5 ≤ 3))) (h8 : ¬ x4 = 0) (h9 : 0 ≤ x0) (h10 : x0 ≤ 100) (h11 : 100 - x0 < ((x6 + 1 : Nat) : Int)) (h12 : x7 = 100) (h13 : x0 < x7) (h14 : x8 = 4 * x2) (h15 : x9 = x8 + x5) (h16 : ¬ x0 = x9) : x0 < (100 : Nat) := by omega
theorem o36_598 {x0 x1 x2 x3 x4 x5 x7 x8 x9 : Int} {x6 : Nat} (h0 : x1 = x2) (h1 : 0 ≤ x3) (h2 : x3 ≤ 1) (h3 : (x3 = 0 ∨ (0 ≤ x1 ∧ x1 ≤ 24))) (h4 : ¬ x3 = 0) (h5 : 0 ≤ x4) (h6 : x4 ≤ 1) (h7 : (x4 = 0 ∨ (0 ≤ x5 ∧ x5 ≤ 3))) (h8 : ¬ x4 = 0) (h9 : 0 ≤ x0) (h10 : x0 ≤ 100) (h11 : 100 - x0 < ((x6 + 1 : Nat) : Int)) (h12 : x7 = 100) (h13 : x0 < x7) (h14 : x8 = 4 * x2) (h15 : x9 = x8 + x5) (h16 : ¬ x0 = x9) (h17 : -2147483648 ≤ x0) (h18 : x0 ≤ 2147483647) (h19 : -2147483648 ≤ x2) (h20 : x2 ≤ 2147483647) (h21 : -2147483648 ≤ x3) (h22 : x3 ≤ 2147483647) (h23 : -2147483648 ≤ x4) (h24 : x4 ≤ 2147483647) (h25 : -2147483648 ≤ x5) (h26 : x5 ≤ 2147483647) (h27 : -2147483648 ≤ x7) (h28 : x7 ≤ 2147483647) (h29 : -2147483648 ≤ x8) (h30 : x8 ≤ 2147483647) (h31 : -2147483648 ≤ x9) (h32 : x9 ≤ 2147483647) : -2147483648 ≤ x0 + 1 := by omega
theorem o36_599 {x0 x1 x2 x3 x4 x5 x7 x8 x9 : Int} {x6 : Nat} (h0 : x1 = x2) (h1 : 0 ≤ x3) (h2 : x3 ≤ 1) (h3 : (x3 = 0 ∨ (0 ≤ x1 ∧ x1 ≤ 24))) (h4 : ¬ x3 = 0) (h5 : 0 ≤ x4) (h6 : x4 ≤ 1) (h7 : (x4 = 0 ∨ (0 ≤ x5 ∧ x5 ≤ 3))) (h8 : ¬ x4 = 0) (h9 : 0 ≤ x0) (h10 : x0 ≤ 100) (h11 : 100 - x0 < ((x6 + 1 : Nat) : Int)) (h12 : x7 = 100) (h13 : x0 < x7) (h14 : x8 = 4 * x2) (h15 : x9 = x8 + x5) (h16 : ¬ x0 = x9) (h17 : -2147483648 ≤ x0) (h18 : x0 ≤ 2147483647) (h19 : -2147483648 ≤ x2) (h20 : x2 ≤ 2147483647) (h21 : -2147483648 ≤ x3) (h22 : x3 ≤ 2147483647) (h23 : -2147483648 ≤ x4) (h24 : x4 ≤ 2147483647) (h25 : -2147483648 ≤ x5) (h26 : x5 ≤ 2147483647) (h27 : -2147483648 ≤ x7) (h28 : x7 ≤ 2147483647) (h29 : -2147483648 ≤ x8) (h30 : x8 ≤ 2147483647) (h31 : -2147483648 ≤ x9) (h32 : x9 ≤ 2147483647) : x0 + 1 ≤ 2147483647 := by omega
theorem o36_600 {x0 x2 x3 x4 x5 x6 x7 x8 x9 x10 : Int} {x1 : Nat} (h0 : x2 = x3) (h1 : 0 ≤ x4) (h2 : x4 ≤ 1) (h3 : (x4 = 0 ∨ (0 ≤ x2 ∧ x2 ≤ 24))) (h4 : ¬ x4 = 0) (h5 : 0 ≤ x5) (h6 : x5 ≤ 1) (h7 : (x5 = 0 ∨ (0 ≤ x6 ∧ x6 ≤ 3))) (h8 : ¬ x5 = 0) (h9 : 0 ≤ x7) (h10 : x7 ≤ 100) (h11 : 100 - x7 < ((x1 + 1 : Nat) : Int)) (h12 : x8 = 100) (h13 : x7 < x8) (h14 : x9 = 4 * x3) (h15 : x10 = x9 + x6) (h16 : ¬ x7 = x10) (h17 : x0 = x7 + 1) : 100 - x0 < (x1 : Int) := by omega
theorem o36_601 {x0 x1 x2 x3 x4 x5 x6 x8 x9 x10 : Int} {x7 : Nat} (h0 : x1 = x2) (h1 : 0 ≤ x3) (h2 : x3 ≤ 1) (h3 : (x3 = 0 ∨ (0 ≤ x1 ∧ x1 ≤ 24))) (h4 : ¬ x3 = 0) (h5 : 0 ≤ x4) (h6 : x4 ≤ 1) (h7 : (x4 = 0 ∨ (0 ≤ x5 ∧ x5 ≤ 3))) (h8 : ¬ x4 = 0) (h9 : 0 ≤ x6) (h10 : x6 ≤ 100) (h11 : 100 - x6 < ((x7 + 1 : Nat) : Int)) (h12 : x8 = 100) (h13 : x6 < x8) (h14 : x9 = 4 * x2) (h15 : x10 = x9 + x5) (h16 : ¬ x6 = x10) (h17 : x0 = x6 + 1) : 0 ≤ x0 := by omega
theorem o36_602 {x0 x1 x2 x3 x4 x5 x6 x8 x9 x10 : Int} {x7 : Nat} (h0 : x1 = x2) (h1 : 0 ≤ x3) (h2 : x3 ≤ 1) (h3 : (x3 = 0 ∨ (0 ≤ x1 ∧ x1 ≤ 24))) (h4 : ¬ x3 = 0) (h5 : 0 ≤ x4) (h6 : x4 ≤ 1) (h7 : (x4 = 0 ∨ (0 ≤ x5 ∧ x5 ≤ 3))) (h8 : ¬ x4 = 0) (h9 : 0 ≤ x6) (h10 : x6 ≤ 100) (h11 : 100 - x6 < ((x7 + 1 : Nat) : Int)) (h12 : x8 = 100) (h13 : x6 < x8) (h14 : x9 = 4 * x2) (h15 : x10 = x9 + x5) (h16 : ¬ x6 = x10) (h17 : x0 = x6 + 1) : x0 ≤ 100 := by omega
theorem o36_603 {x0 x1 x2 x3 x4 x5 x7 x8 x9 : Int} {x6 : Nat} (h0 : x1 = x2) (h1 : 0 ≤ x3) (h2 : x3 ≤ 1) (h3 : (x3 = 0 ∨ (0 ≤ x1 ∧ x1 ≤ 24))) (h4 : ¬ x3 = 0) (h5 : 0 ≤ x4) (h6 : x4 ≤ 1) (h7 : (x4 = 0 ∨ (0 ≤ x5 ∧ x5 ≤ 3))) (h8 : ¬ x4 = 0) (h9 : 0 ≤ x0) (h10 : x0 ≤ 100) (h11 : 100 - x0 < ((x6 + 1 : Nat) : Int)) (h12 : x7 = 100) (h13 : x0 < x7) (h14 : x8 = 4 * x2) (h15 : x9 = x8 + x5) (h16 : x0 = x9) : 0 ≤ x0 := by omega
theorem o36_604 {x0 x1 x2 x3 x4 x5 x7 x8 x9 : Int} {x6 : Nat} (h0 : x1 = x2) (h1 : 0 ≤ x3) (h2 : x3 ≤ 1) (h3 : (x3 = 0 ∨ (0 ≤ x1 ∧ x1 ≤ 24))) (h4 : ¬ x3 = 0) (h5 : 0 ≤ x4) (h6 : x4 ≤ 1) (h7 : (x4 = 0 ∨ (0 ≤ x5 ∧ x5 ≤ 3))) (h8 : ¬ x4 = 0) (h9 : 0 ≤ x0) (h10 : x0 ≤ 100) (h11 : 100 - x0 < ((x6 + 1 : Nat) : Int)) (h12 : x7 = 100) (h13 : x0 < x7) (h14 : x8 = 4 * x2) (h15 : x9 = x8 + x5) (h16 : x0 = x9) : x0 < (100 : Nat) := by omega
theorem o36_605 {x0 x1 x2 x3 x4 x5 x7 x8 x9 : Int} {x6 : Nat} (h0 : x1 = x2) (h1 : 0 ≤ x3) (h2 : x3 ≤ 1) (h3 : (x3 = 0 ∨ (0 ≤ x1 ∧ x1 ≤ 24))) (h4 : ¬ x3 = 0) (h5 : 0 ≤ x4) (h6 : x4 ≤ 1) (h7 : (x4 = 0 ∨ (0 ≤ x5 ∧ x5 ≤ 3))) (h8 : ¬ x4 = 0) (h9 : 0 ≤ x0) (h10 : x0 ≤ 100) (h11 : 100 - x0 < ((x6 + 1 : Nat) : Int)) (h12 : x7 = 100) (h13 : x0 < x7) (h14 : x8 = 4 * x2) (h15 : x9 = x8 + x5) (h16 : x0 = x9) (h17 : -2147483648 ≤ x0) (h18 : x0 ≤ 2147483647) (h19 : -2147483648 ≤ x2) (h20 : x2 ≤ 2147483647) (h21 : -2147483648 ≤ x3) (h22 : x3 ≤ 2147483647) (h23 : -2147483648 ≤ x4) (h24 : x4 ≤ 2147483647) (h25 : -2147483648 ≤ x5) (h26 : x5 ≤ 2147483647) (h27 : -2147483648 ≤ x7) (h28 : x7 ≤ 2147483647) (h29 : -2147483648 ≤ x8) (h30 : x8 ≤ 2147483647) (h31 : -2147483648 ≤ x9) (h32 : x9 ≤ 2147483647) : -2147483648 ≤ x0 + 1 := by omega
theorem o36_606 {x0 x1 x2 x3 x4 x5 x7 x8 x9 : Int} {x6 : Nat} (h0 : x1 = x2) (h1 : 0 ≤ x3) (h2 : x3 ≤ 1) (h3 : (x3 = 0 ∨ (0 ≤ x1 ∧ x1 ≤ 24))) (h4 : ¬ x3 = 0) (h5 : 0 ≤ x4) (h6 : x4 ≤ 1) (h7 : (x4 = 0 ∨ (0 ≤ x5 ∧ x5 ≤ 3))) (h8 : ¬ x4 = 0) (h9 : 0 ≤ x0) (h10 : x0 ≤ 100) (h11 : 100 - x0 < ((x6 + 1 : Nat) : Int)) (h12 : x7 = 100) (h13 : x0 < x7) (h14 : x8 = 4 * x2) (h15 : x9 = x8 + x5) (h16 : x0 = x9) (h17 : -2147483648 ≤ x0) (h18 : x0 ≤ 2147483647) (h19 : -2147483648 ≤ x2) (h20 : x2 ≤ 2147483647) (h21 : -2147483648 ≤ x3) (h22 : x3 ≤ 2147483647) (h23 : -2147483648 ≤ x4) (h24 : x4 ≤ 2147483647) (h25 : -2147483648 ≤ x5) (h26 : x5 ≤ 2147483647) (h27 : -2147483648 ≤ x7) (h28 : x7 ≤ 2147483647) (h29 : -2147483648 ≤ x8) (h30 : x8 ≤ 2147483647) (h31 : -2147483648 ≤ x9) (h32 : x9 ≤ 2147483647) : x0 + 1 ≤ 2147483647 := by omega
theorem o36_607 {x0 x2 x3 x4 x5 x6 x7 x8 x9 x10 : Int} {x1 : Nat} (h0 : x2 = x3) (h1 : 0 ≤ x4) (h2 : x4 ≤ 1) (h3 : (x4 = 0 ∨ (0 ≤ x2 ∧ x2 ≤ 24))) (h4 : ¬ x4 = 0) (h5 : 0 ≤ x5) (h6 : x5 ≤ 1) (h7 : (x5 = 0 ∨ (0 ≤ x6 ∧ x6 ≤ 3))) (h8 : ¬ x5 = 0) (h9 : 0 ≤ x7) (h10 : x7 ≤ 100) (h11 : 100 - x7 < ((x1 + 1 : Nat) : Int)) (h12 : x8 = 100) (h13 : x7 < x8) (h14 : x9 = 4 * x3) (h15 : x10 = x9 + x6) (h16 : x7 = x10) (h17 : x0 = x7 + 1) : 100 - x0 < (x1 : Int) := by omega
theorem o36_608 {x0 x1 x2 x3 x4 x5 x6 x8 x9 x10 : Int} {x7 : Nat} (h0 : x1 = x2) (h1 : 0 ≤ x3) (h2 : x3 ≤ 1) (h3 : (x3 = 0 ∨ (0 ≤ x1 ∧ x1 ≤ 24))) (h4 : ¬ x3 = 0) (h5 : 0 ≤ x4) (h6 : x4 ≤ 1) (h7 : (x4 = 0 ∨ (0 ≤ x5 ∧ x5 ≤ 3))) (h8 : ¬ x4 = 0) (h9 : 0 ≤ x6) (h10 : x6 ≤ 100) (h11 : 100 - x6 < ((x7 + 1 : Nat) : Int)) (h12 : x8 = 100) (h13 : x6 < x8) (h14 : x9 = 4 * x2) (h15 : x10 = x9 + x5) (h16 : x6 = x10) (h17 : x0 = x6 + 1) : 0 ≤ x0 := by omega
theorem o36_609 {x0 x1 x2 x3 x4 x5 x6 x8 x9 x10 : Int} {x7 : Nat} (h0 : x1 = x2) (h1 : 0 ≤ x3) (h2 : x3 ≤ 1) (h3 : (x3 = 0 ∨ (0 ≤ x1 ∧ x1 ≤ 24))) (h4 : ¬ x3 = 0) (h5 : 0 ≤ x4) (h6 : x4 ≤ 1) (h7 : (x4 = 0 ∨ (0 ≤ x5 ∧ x5 ≤ 3))) (h8 : ¬ x4 = 0) (h9 : 0 ≤ x6) (h10 : x6 ≤ 100) (h11 : 100 - x6 < ((x7 + 1 : Nat) : Int)) (h12 : x8 = 100) (h13 : x6 < x8) (h14 : x9 = 4 * x2) (h15 : x10 = x9 + x5) (h16 : x6 = x10) (h17 : x0 = x6 + 1) : x0 ≤ 100 := by omega
noncomputable def g4_X12_laysLaws (s : XS) : XR := (s, 0)
noncomputable def g10_X12_laysLaws (R2 : XS → Int → Int → XR) (s : XS) (a1 : Int) (x2_3 : Int) : XR := R2 s a1 ((x2_3 + 1))
noncomputable def g17_X12_laysLaws (R2 : XS → Int → Int → XR) (R9 : XS → Int → Int → Int → XR) (s : XS) (a1 : Int) (x2_3 : Int) (x3_15 : Int) : XR := R9 s a1 x2_3 ((x3_15 + 1))
noncomputable def g22w_X12_laysLaws (R2 : XS → Int → Int → XR) (R9 : XS → Int → Int → Int → XR) (R42 : XS → Int → Int → Int → Int → XR) (s : XS) (a1 : Int) (x2_3 : Int) (x3_15 : Int) (x4_62 : Int) : XR := R42 s a1 x2_3 x3_15 ((x4_62 + 1))
noncomputable def g21c_X12_laysLaws (R2 : XS → Int → Int → XR) (R9 : XS → Int → Int → Int → XR) (R42 : XS → Int → Int → Int → Int → XR) (s : XS) (r_128 : Int) (v_116 : Int) (a1 : Int) (x2_3 : Int) (x3_15 : Int) (x4_62 : Int) : XR := g22w_X12_laysLaws R2 R9 R42 (xup s 1 10 (Int.toNat v_116) (r_128)) a1 x2_3 x3_15 x4_62
noncomputable def g20w_X12_laysLaws (R2 : XS → Int → Int → XR) (R9 : XS → Int → Int → Int → XR) (R42 : XS → Int → Int → Int → Int → XR) (s : XS) (a1 : Int) (x2_3 : Int) (x3_15 : Int) (x4_62 : Int) : XR := g21c_X12_laysLaws R2 R9 R42 ((f_X12_priceOf s x3_15 (Xiadd (s 0 0 26) x2_3) x4_62).1) (((f_X12_priceOf s x3_15 (Xiadd (s 0 0 26) x2_3) x4_62).2)) ((((100 * x2_3) + (4 * x3_15)) + x4_62)) a1 x2_3 x3_15 x4_62
noncomputable def g19c_X12_laysLaws (R2 : XS → Int → Int → XR) (R9 : XS → Int → Int → Int → XR) (R42 : XS → Int → Int → Int → Int → XR) (s : XS) (r_98 : Int) (v_86 : Int) (a1 : Int) (x2_3 : Int) (x3_15 : Int) (x4_62 : Int) : XR := g20w_X12_laysLaws R2 R9 R42 (xup s 1 11 (Int.toNat v_86) (r_98)) a1 x2_3 x3_15 x4_62
noncomputable def g18_X12_laysLaws (R2 : XS → Int → Int → XR) (R9 : XS → Int → Int → Int → XR) (R42 : XS → Int → Int → Int → Int → XR) (s : XS) (a1 : Int) (x2_3 : Int) (x3_15 : Int) (x4_62 : Int) : XR := g19c_X12_laysLaws R2 R9 R42 ((f_X12_mayTurn s x3_15 (Xiadd (s 0 0 26) x2_3) x4_62).1) (((f_X12_mayTurn s x3_15 (Xiadd (s 0 0 26) x2_3) x4_62).2)) ((((100 * x2_3) + (4 * x3_15)) + x4_62)) a1 x2_3 x3_15 x4_62
noncomputable def g16b_X12_laysLaws (R2 : XS → Int → Int → XR) (R9 : XS → Int → Int → Int → XR) (R42 : XS → Int → Int → Int → Int → XR) (s : XS) (x4_62 : Int) (a1 : Int) (x2_3 : Int) (x3_15 : Int) : XR := if x4_62 < 4 then g18_X12_laysLaws R2 R9 R42 s a1 x2_3 x3_15 x4_62 else g17_X12_laysLaws R2 R9 s a1 x2_3 x3_15
noncomputable def g15l_X12_laysLaws (R2 : XS → Int → Int → XR) (R9 : XS → Int → Int → Int → XR) (R42 : XS → Int → Int → Int → Int → XR) (s : XS) (a1 : Int) (x2_3 : Int) (x3_15 : Int) (x4_62 : Int) : XR := g16b_X12_laysLaws R2 R9 R42 s x4_62 a1 x2_3 x3_15
noncomputable def L14_X12_laysLaws (R2 : XS → Int → Int → XR) (R9 : XS → Int → Int → Int → XR) (n : Nat) : XS → Int → Int → Int → Int → XR := Nat.rec (motive := fun _ => XS → Int → Int → Int → Int → XR) (fun s _ _ _ _ => (s, 0)) (fun _ R42 => g15l_X12_laysLaws R2 R9 R42) n
noncomputable def g13w_X12_laysLaws (R2 : XS → Int → Int → XR) (R9 : XS → Int → Int → Int → XR) (s : XS) (a1 : Int) (x2_3 : Int) (x3_15 : Int) : XR := L14_X12_laysLaws R2 R9 (Int.toNat (4 - 0 + 1)) s a1 x2_3 x3_15 0
noncomputable def g12c_X12_laysLaws (R2 : XS → Int → Int → XR) (R9 : XS → Int → Int → Int → XR) (s : XS) (r_51 : Int) (v_40 : Int) (a1 : Int) (x2_3 : Int) (x3_15 : Int) : XR := g13w_X12_laysLaws R2 R9 (xup s 1 12 (Int.toNat v_40) (r_51)) a1 x2_3 x3_15
noncomputable def g11_X12_laysLaws (R2 : XS → Int → Int → XR) (R9 : XS → Int → Int → Int → XR) (s : XS) (a1 : Int) (x2_3 : Int) (x3_15 : Int) : XR := g12c_X12_laysLaws R2 R9 ((f_X12_isFreeIn s x3_15 (Xiadd (s 0 0 26) x2_3)).1) (((f_X12_isFreeIn s x3_15 (Xiadd (s 0 0 26) x2_3)).2)) (((25 * x2_3) + x3_15)) a1 x2_3 x3_15
noncomputable def g9b_X12_laysLaws (R2 : XS → Int → Int → XR) (R9 : XS → Int → Int → Int → XR) (s : XS) (r_27 : Int) (x3_15 : Int) (a1 : Int) (x2_3 : Int) : XR := if x3_15 < r_27 then g11_X12_laysLaws R2 R9 s a1 x2_3 x3_15 else g10_X12_laysLaws R2 s a1 x2_3
noncomputable def g8c_X12_laysLaws (R2 : XS → Int → Int → XR) (R9 : XS → Int → Int → Int → XR) (s : XS) (r_27 : Int) (x3_15 : Int) (a1 : Int) (x2_3 : Int) : XR := g9b_X12_laysLaws R2 R9 s r_27 x3_15 a1 x2_3
noncomputable def g7l_X12_laysLaws (R2 : XS → Int → Int → XR) (R9 : XS → Int → Int → Int → XR) (s : XS) (a1 : Int) (x2_3 : Int) (x3_15 : Int) : XR := g8c_X12_laysLaws R2 R9 ((f_X12_crossings s).1) (((f_X12_crossings s).2)) x3_15 a1 x2_3
noncomputable def L6_X12_laysLaws (R2 : XS → Int → Int → XR) (n : Nat) : XS → Int → Int → Int → XR := Nat.rec (motive := fun _ => XS → Int → Int → Int → XR) (fun s _ _ _ => (s, 0)) (fun _ R9 => g7l_X12_laysLaws R2 R9) n
noncomputable def g5_X12_laysLaws (R2 : XS → Int → Int → XR) (s : XS) (a1 : Int) (x2_3 : Int) : XR := L6_X12_laysLaws R2 (Int.toNat (25 - 0 + 1)) s a1 x2_3 0
noncomputable def g3b_X12_laysLaws (R2 : XS → Int → Int → XR) (s : XS) (a1 : Int) (x2_3 : Int) : XR := if a1 < x2_3 then g4_X12_laysLaws s else g5_X12_laysLaws R2 s a1 x2_3
noncomputable def g2l_X12_laysLaws (R2 : XS → Int → Int → XR) (s : XS) (a1 : Int) (x2_3 : Int) : XR := g3b_X12_laysLaws R2 s a1 x2_3
noncomputable def L1_X12_laysLaws (n : Nat) : XS → Int → Int → XR := Nat.rec (motive := fun _ => XS → Int → Int → XR) (fun s _ _ => (s, 0)) (fun _ R2 => g2l_X12_laysLaws R2) n
noncomputable def f_X12_laysLaws (s : XS) (a1 : Int) : XR := L1_X12_laysLaws (Int.toNat (61 - 0 + 1)) s a1 0
set_option maxHeartbeats 4000000 in
set_option maxRecDepth 100000 in
theorem c_X12_laysLaws (l : Launch) (G : GG) (Z : RZ) (ad : Nat → Nat) (ws0 : va_W) (hT : Ty G SM ad ws0) (a1 : Int32) (l1 : 0 ≤ a1.toInt) (u1 : a1.toInt ≤ 60) (hJ : J ws0) (hLd : Laid ws0) : Mq l yX12_laysLaws cX12_laysLaws 5 none 4 G Z [.ref (ad 0), .int a1] ws0 (PV G SM ad [5, 10, 11, 12] ws0 (fun u => (xso SM ad u = (f_X12_laysLaws (xso SM ad ws0) a1.toInt).1))) := by
  refine Mq.start (by decide) (Nat.le_of_ble_eq_true rfl) ?_
  intro p e s m below meth c A ls C0 hZ h hl
  have hl : lv_has ls 5 [(0, .ref (ad 0)), (1, .int a1)] := hl
  have h : Wt G SM ad A s s.heap [] ws0 := ⟨h, hT⟩
  obtain ⟨args, hargs⟩ : ∃ z, z = ([.ref (ad 0), .int a1] : List Value).toArray := ⟨_, rfl⟩
  rw [← hargs] at C0 ⊢
  have C0 : Cx p s m args meth c RX12 cX12_laysLaws 5 none := C0
  obtain ⟨Q, hQ⟩ : ∃ z, z = MQ below ((PV G SM ad [5, 10, 11, 12] ws0 (fun u => (xso SM ad u = (f_X12_laysLaws (xso SM ad ws0) a1.toInt).1))) A) args s 0 0 A := ⟨_, rfl⟩
  rw [← hQ]
  obtain ⟨FT, hFT⟩ : ∃ z, z = f_X12_laysLaws (xso SM ad ws0) a1.toInt := ⟨_, rfl⟩
  have HE : FT = f_X12_laysLaws (xso SM ad ws0) a1.toInt := hFT
  refine y_c1 (n := 0) C0 (by decide) dX12_laysLaws_0 (fun v_1 e_2 => ?_)
  refine lv_istore_n (lv' := [(2, .int v_1), (0, .ref (ad 0)), (1, .int a1)]) C0.1 C0.2.1 dX12_laysLaws_1 rfl hl (by decide) rfl (fun ls hl => ?_)
  have lp_6 : ∀ (n_8 : Nat) (x2_3 : Int32) (H : Heap) (locs : List Loc) (ls : Array Slot) (ws_4 : va_W), 61 - x2_3.toInt < (n_8 : Int) → 0 ≤ x2_3.toInt → x2_3.toInt ≤ 61 → (FT = L1_X12_laysLaws n_8 (xso SM ad ws_4) a1.toInt x2_3.toInt) → Wt G SM ad A s H locs ws_4 → Fr SM [5, 10, 11, 12] ws0 ws_4 → lv_has ls 5 [(2, .int x2_3), (0, .ref (ad 0)), (1, .int a1)] → W p l e (rmd 4 0 0) s m args below meth c H locs 0 0 Q (F0 m 2 ls []) := by
    intro n_8
    induction n_8 with
    | zero => intro x2_3 H locs ls ws_4 hn_9 b_10 b_11 HE h hF_5 hl; exact ((o36_1 b_10 b_11 hn_9)).elim
    | succ n_8 ih_7 =>
      intro x2_3 H locs ls ws_4 hn_9 b_10 b_11 HE h hF_5 hl
      obtain ⟨R2, hR2⟩ : ∃ z, z = L1_X12_laysLaws n_8 := ⟨_, rfl⟩
      replace HE : FT = g2l_X12_laysLaws R2 (xso SM ad ws_4) a1.toInt x2_3.toInt := HE.trans (by rw [hR2]; rfl)
      refine lv_iload_n C0.1 C0.2.1 dX12_laysLaws_2 rfl (lv_at hl 0 rfl) ?_
      refine lv_iload_n C0.1 C0.2.1 dX12_laysLaws_3 rfl (lv_at hl 2 rfl) ?_
      replace HE : FT = g3b_X12_laysLaws R2 (xso SM ad ws_4) a1.toInt x2_3.toInt := HE.trans rfl
      refine y_icmp_gt (tgt := 124) C0 dX12_laysLaws_4 (by decide) (fun c_12 => ?_) (fun c_12 => ?_)
      · -- 4
        replace HE : FT = g4_X12_laysLaws (xso SM ad ws_4) := HE.trans (if_pos c_12)
        replace HE : FT = ((xso SM ad ws_4), 0) := HE.trans rfl
        rw [hQ]
        exact y_vret C0 h hF_5 (congrArg Prod.fst (HE.symm.trans hFT)) dX12_laysLaws_124
      · -- 4
        replace HE : FT = g5_X12_laysLaws R2 (xso SM ad ws_4) a1.toInt x2_3.toInt := HE.trans (if_neg (Int.not_lt.mpr c_12))
        refine y_c1 (n := 0) C0 (by decide) dX12_laysLaws_7 (fun v_13 e_14 => ?_)
        refine lv_istore_n (lv' := [(3, .int v_13), (2, .int x2_3), (0, .ref (ad 0)), (1, .int a1)]) C0.1 C0.2.1 dX12_laysLaws_8 rfl hl (by decide) rfl (fun ls hl => ?_)
        have lp_18 : ∀ (n_20 : Nat) (x3_15 : Int32) (H : Heap) (locs : List Loc) (ls : Array Slot) (ws_16 : va_W), 25 - x3_15.toInt < (n_20 : Int) → 0 ≤ x3_15.toInt → x3_15.toInt ≤ 25 → (FT = L6_X12_laysLaws R2 n_20 (xso SM ad ws_16) a1.toInt x2_3.toInt x3_15.toInt) → Wt G SM ad A s H locs ws_16 → Fr SM [5, 10, 11, 12] ws_4 ws_16 → lv_has ls 5 [(3, .int x3_15), (2, .int x2_3), (0, .ref (ad 0)), (1, .int a1)] → W p l e (rmd 4 0 0) s m args below meth c H locs 0 0 Q (F0 m 9 ls []) := by
          intro n_20
          induction n_20 with
          | zero => intro x3_15 H locs ls ws_16 hn_21 b_22 b_23 HE h hF_17 hl; exact ((o36_2 b_22 b_23 hn_21)).elim
          | succ n_20 ih_19 =>
            intro x3_15 H locs ls ws_16 hn_21 b_22 b_23 HE h hF_17 hl
            obtain ⟨R9, hR9⟩ : ∃ z, z = L6_X12_laysLaws R2 n_20 := ⟨_, rfl⟩
            replace HE : FT = g7l_X12_laysLaws R2 R9 (xso SM ad ws_16) a1.toInt x2_3.toInt x3_15.toInt := HE.trans (by rw [hR9]; rfl)
            refine lv_iload_n C0.1 C0.2.1 dX12_laysLaws_9 rfl (lv_at hl 0 rfl) ?_
            refine lv_aload_n C0.1 C0.2.1 dX12_laysLaws_10 rfl (lv_at hl 2 rfl) ?_
            refine y_ci h (y_rV (As := []) (rest := [.int x3_15]) C0 hZ h (c_X12_crossings l G Z ad _ h.2) k_X12_crossings q_1705 q_79 q_1703 kSM_0 rfl rfl rfl hl.1 rfl rfl (Nat.le_of_ble_eq_true rfl) dX12_laysLaws_11 ⟨Nat.le_of_ble_eq_true rfl, Nat.le_of_ble_eq_true rfl⟩ ⟨Nat.le_of_ble_eq_true rfl, Nat.le_of_ble_eq_true rfl⟩) (fun r_27 H locs ws_24 h u_25 p_26 => ?_)
            obtain ⟨e_28, e_29, e_30, e_31, e_32⟩ := p_26
            replace HE : FT = g8c_X12_laysLaws R2 R9 (xso SM ad ws_24) r_27.toInt x3_15.toInt a1.toInt x2_3.toInt := HE.trans (by rw [e_28, e_29]; rfl)
            replace HE : FT = g9b_X12_laysLaws R2 R9 (xso SM ad ws_24) r_27.toInt x3_15.toInt a1.toInt x2_3.toInt := HE.trans rfl
            refine y_icmp_ge (tgt := 118) C0 dX12_laysLaws_14 (by decide) (fun c_33 => ?_) (fun c_33 => ?_)
            · -- 14
              replace HE : FT = g10_X12_laysLaws R2 (xso SM ad ws_24) a1.toInt x2_3.toInt := HE.trans (if_neg (Int.not_lt.mpr c_33))
              refine y_inc (kp := 1) (n := 1) (fun v_34 => [(2, .int v_34), (3, .int x3_15), (0, .ref (ad 0)), (1, .int a1)]) C0 hl rfl (by decide) (by decide) (fun _ => rfl) (o36_3 l1 u1 b_10 b_11 hn_9 c_12 (le_min x2_3) (le_max x2_3) (le_min a1) (le_max a1)) (o36_4 l1 u1 b_10 b_11 hn_9 c_12 (le_min x2_3) (le_max x2_3) (le_min a1) (le_max a1)) dX12_laysLaws_118 (fun v_34 ls e_35 hl => ?_)
              refine lv_goto (tgt := 2) C0.1 C0.2.1 dX12_laysLaws_121 (by decide) ?_
              exact ih_7 v_34 _ _ _ _ (o36_5 l1 u1 b_10 b_11 hn_9 c_12 e_35) (o36_6 l1 u1 b_10 b_11 hn_9 c_12 e_35) (o36_7 l1 u1 b_10 b_11 hn_9 c_12 e_35) (((show FT = R2 (xso SM ad ws_24) a1.toInt v_34.toInt from HE.trans (by rw [e_35]; rfl)).trans (by rw [hR2]))) h (Fr.tr (Fr.tr hF_5 hF_17) (Fr.mono u_25 (by decide))) (lv_sub hl [0, 2, 3] rfl)
            · -- 14
              replace HE : FT = g11_X12_laysLaws R2 R9 (xso SM ad ws_24) a1.toInt x2_3.toInt x3_15.toInt := HE.trans (if_pos c_33)
              refine lv_aload_n C0.1 C0.2.1 dX12_laysLaws_17 rfl (lv_at hl 2 rfl) ?_
              refine ng_X12_frees C0 h kSM_0 q_1463 dX12_laysLaws_18 ?_
              refine y_c2 (n := 25) C0 (by decide) dX12_laysLaws_21 (fun v_36 e_37 => ?_)
              refine lv_iload_n C0.1 C0.2.1 dX12_laysLaws_23 rfl (lv_at hl 1 rfl) ?_
              refine y_cmul (n := 25) C0 (o36_8 e_37) (o36_9 l1 u1 b_10 b_11 hn_9 c_12 (le_min x2_3) (le_max x2_3) (le_min a1) (le_max a1)) (o36_10 l1 u1 b_10 b_11 hn_9 c_12 (le_min x2_3) (le_max x2_3) (le_min a1) (le_max a1)) dX12_laysLaws_24 (fun v_38 e_39 => ?_)
              refine lv_iload_n C0.1 C0.2.1 dX12_laysLaws_25 rfl (lv_at hl 0 rfl) ?_
              refine y_add C0 (o36_11 l1 u1 b_10 b_11 hn_9 c_12 b_22 b_23 hn_21 e_30 e_31 c_33 e_39 (le_min v_38) (le_max v_38) (le_min x3_15) (le_max x3_15) (le_min a1) (le_max a1) (le_min x2_3) (le_max x2_3) (le_min r_27) (le_max r_27)) (o36_12 l1 u1 b_10 b_11 hn_9 c_12 b_22 b_23 hn_21 e_30 e_31 c_33 e_39 (le_min v_38) (le_max v_38) (le_min x3_15) (le_max x3_15) (le_min a1) (le_max a1) (le_min x2_3) (le_max x2_3) (le_min r_27) (le_max r_27)) dX12_laysLaws_26 (fun v_40 e_41 => ?_)
              refine lv_aload_n C0.1 C0.2.1 dX12_laysLaws_27 rfl (lv_at hl 2 rfl) ?_
              refine lv_iload_n C0.1 C0.2.1 dX12_laysLaws_28 rfl (lv_at hl 0 rfl) ?_
              refine lv_aload_n C0.1 C0.2.1 dX12_laysLaws_29 rfl (lv_at hl 2 rfl) ?_
              refine ng_X12_from0 C0 h kSM_0 q_1464 dX12_laysLaws_30 (fun v_42 e_43 e_44 e_45 => ?_)
              refine lv_iload_n C0.1 C0.2.1 dX12_laysLaws_33 rfl (lv_at hl 1 rfl) ?_
              refine xr_iadd C0 dX12_laysLaws_34 (fun v_46 e_47 => ?_)
              refine y_ci h (y_rV (As := [.int x3_15, .int v_46]) (rest := [.int v_40, .ref (ad 12)]) C0 hZ h (c_X12_isFreeIn l G Z ad _ h.2 x3_15 v_46 (o36_13 l1 u1 b_10 b_11 hn_9 c_12 b_22 b_23 hn_21 e_30 e_31 c_33 e_39 e_41) (o36_14 l1 u1 b_10 b_11 hn_9 c_12 b_22 b_23 hn_21 e_30 e_31 c_33 e_39 e_41)) k_X12_isFreeIn q_1741 q_84 q_1739 kSM_0 rfl rfl rfl hl.1 rfl rfl (Nat.le_of_ble_eq_true rfl) dX12_laysLaws_35 ⟨Nat.le_of_ble_eq_true rfl, Nat.le_of_ble_eq_true rfl⟩ ⟨Nat.le_of_ble_eq_true rfl, Nat.le_of_ble_eq_true rfl⟩) (fun r_51 H locs ws_48 h u_49 p_50 => ?_)
              obtain ⟨e_52, e_53, e_54, e_55, e_56⟩ := p_50
              replace HE : FT = g12c_X12_laysLaws R2 R9 (xso SM ad ws_48) r_51.toInt v_40.toInt a1.toInt x2_3.toInt x3_15.toInt := HE.trans (by rw [e_52, e_41, e_39, e_53, e_47, (xg0 e_43 : v_42.toInt = (xso SM ad ws_24) 0 0 26)]; rfl)
              have hO_59 := h.2
              refine y_zast C0 h kSM_12 rfl (by decide) (o36_15 l1 u1 b_10 b_11 hn_9 c_12 b_22 b_23 hn_21 e_30 e_31 c_33 e_39 e_41) (o36_16 l1 u1 b_10 b_11 hn_9 c_12 b_22 b_23 hn_21 e_30 e_31 c_33 e_39 e_41) (o36_17 e_54 e_55) (o36_18 e_54 e_55) (o36_17 e_54 e_55) (o36_18 e_54 e_55) dX12_laysLaws_38 (fun H locs ws_57 h u_58 => ?_)
              replace HE : FT = g13w_X12_laysLaws R2 R9 (xso SM ad ws_57) a1.toInt x2_3.toInt x3_15.toInt := HE.trans (by rw [(xso_A (i := 12) hO_59 h.2 kSM_12 rfl u_58)]; rfl)
              refine y_c1 (n := 0) C0 (by decide) dX12_laysLaws_39 (fun v_60 e_61 => ?_)
              refine lv_istore (lv' := [(4, .int v_60), (3, .int x3_15), (2, .int x2_3), (0, .ref (ad 0)), (1, .int a1)]) C0.1 C0.2.1 dX12_laysLaws_40 hl (by decide) rfl (fun ls hl => ?_)
              have lp_65 : ∀ (n_67 : Nat) (x4_62 : Int32) (H : Heap) (locs : List Loc) (ls : Array Slot) (ws_63 : va_W), 4 - x4_62.toInt < (n_67 : Int) → 0 ≤ x4_62.toInt → x4_62.toInt ≤ 4 → (FT = L14_X12_laysLaws R2 R9 n_67 (xso SM ad ws_63) a1.toInt x2_3.toInt x3_15.toInt x4_62.toInt) → Wt G SM ad A s H locs ws_63 → Fr SM [5, 10, 11] ws_57 ws_63 → lv_has ls 5 [(4, .int x4_62), (3, .int x3_15), (2, .int x2_3), (0, .ref (ad 0)), (1, .int a1)] → W p l e (rmd 4 0 0) s m args below meth c H locs 0 0 Q (F0 m 42 ls []) := by
                intro n_67
                induction n_67 with
                | zero => intro x4_62 H locs ls ws_63 hn_68 b_69 b_70 HE h hF_64 hl; exact ((o36_19 b_69 b_70 hn_68)).elim
                | succ n_67 ih_66 =>
                  intro x4_62 H locs ls ws_63 hn_68 b_69 b_70 HE h hF_64 hl
                  obtain ⟨R42, hR42⟩ : ∃ z, z = L14_X12_laysLaws R2 R9 n_67 := ⟨_, rfl⟩
                  replace HE : FT = g15l_X12_laysLaws R2 R9 R42 (xso SM ad ws_63) a1.toInt x2_3.toInt x3_15.toInt x4_62.toInt := HE.trans (by rw [hR42]; rfl)
                  refine lv_iload C0.1 C0.2.1 dX12_laysLaws_42 (lv_at hl 0 rfl) ?_
                  refine y_c1 (n := 4) C0 (by decide) dX12_laysLaws_44 (fun v_71 e_72 => ?_)
                  replace HE : FT = g16b_X12_laysLaws R2 R9 R42 (xso SM ad ws_63) x4_62.toInt a1.toInt x2_3.toInt x3_15.toInt := HE.trans rfl
                  refine y_icmp_ge (tgt := 112) C0 dX12_laysLaws_45 (by decide) (fun c_73 => ?_) (fun c_73 => ?_)
                  · -- 45
                    replace HE : FT = g17_X12_laysLaws R2 R9 (xso SM ad ws_63) a1.toInt x2_3.toInt x3_15.toInt := HE.trans (if_neg (o36_21 b_69 b_70 hn_68 e_72 c_73))
                    refine y_inc (kp := 1) (n := 1) (fun v_74 => [(3, .int v_74), (4, .int x4_62), (2, .int x2_3), (0, .ref (ad 0)), (1, .int a1)]) C0 hl rfl (by decide) (by decide) (fun _ => rfl) (o36_23 l1 u1 b_10 b_11 hn_9 c_12 b_22 b_23 hn_21 e_30 e_31 c_33 e_39 e_41 (le_min x3_15) (le_max x3_15) (le_min a1) (le_max a1) (le_min x2_3) (le_max x2_3) (le_min r_27) (le_max r_27) (le_min v_38) (le_max v_38) (le_min v_40) (le_max v_40)) (o36_24 l1 u1 b_10 b_11 hn_9 c_12 b_22 b_23 hn_21 e_30 e_31 c_33 e_39 e_41 (le_min x3_15) (le_max x3_15) (le_min a1) (le_max a1) (le_min x2_3) (le_max x2_3) (le_min r_27) (le_max r_27) (le_min v_38) (le_max v_38) (le_min v_40) (le_max v_40)) dX12_laysLaws_112 (fun v_74 ls e_75 hl => ?_)
                    refine lv_goto (tgt := 9) C0.1 C0.2.1 dX12_laysLaws_115 (by decide) ?_
                    exact ih_19 v_74 _ _ _ _ (o36_25 l1 u1 b_10 b_11 hn_9 c_12 b_22 b_23 hn_21 e_30 e_31 c_33 e_39 e_41 e_75) (o36_26 l1 u1 b_10 b_11 hn_9 c_12 b_22 b_23 hn_21 e_30 e_31 c_33 e_39 e_41 e_75) (o36_27 l1 u1 b_10 b_11 hn_9 c_12 b_22 b_23 hn_21 e_30 e_31 c_33 e_39 e_41 e_75) (((show FT = R9 (xso SM ad ws_63) a1.toInt x2_3.toInt v_74.toInt from HE.trans (by rw [e_75]; rfl)).trans (by rw [hR9]))) h (Fr.tr (Fr.tr (Fr.tr (Fr.tr hF_17 (Fr.mono u_25 (by decide))) (Fr.mono u_49 (by decide))) (Fr.up u_58.1 kSM_12 (by decide))) (Fr.mono hF_64 (by decide))) (lv_sub hl [0, 2, 3, 4] rfl)
                  · -- 45
                    replace HE : FT = g18_X12_laysLaws R2 R9 R42 (xso SM ad ws_63) a1.toInt x2_3.toInt x3_15.toInt x4_62.toInt := HE.trans (if_pos (o36_22 b_69 b_70 hn_68 e_72 c_73))
                    refine lv_aload_n C0.1 C0.2.1 dX12_laysLaws_48 rfl (lv_at hl 3 rfl) ?_
                    refine ng_X12_mays C0 h kSM_0 q_1462 dX12_laysLaws_49 ?_
                    refine y_c2 (n := 100) C0 (by decide) dX12_laysLaws_52 (fun v_76 e_77 => ?_)
                    refine lv_iload_n C0.1 C0.2.1 dX12_laysLaws_54 rfl (lv_at hl 2 rfl) ?_
                    refine y_cmul (n := 100) C0 (o36_28 e_77) (o36_29 l1 u1 b_10 b_11 hn_9 c_12 b_22 b_23 hn_21 e_30 e_31 c_33 e_39 e_41 (le_min x2_3) (le_max x2_3) (le_min a1) (le_max a1) (le_min x3_15) (le_max x3_15) (le_min r_27) (le_max r_27) (le_min v_38) (le_max v_38) (le_min v_40) (le_max v_40)) (o36_30 l1 u1 b_10 b_11 hn_9 c_12 b_22 b_23 hn_21 e_30 e_31 c_33 e_39 e_41 (le_min x2_3) (le_max x2_3) (le_min a1) (le_max a1) (le_min x3_15) (le_max x3_15) (le_min r_27) (le_max r_27) (le_min v_38) (le_max v_38) (le_min v_40) (le_max v_40)) dX12_laysLaws_55 (fun v_78 e_79 => ?_)
                    refine y_c1 (n := 4) C0 (by decide) dX12_laysLaws_56 (fun v_80 e_81 => ?_)
                    refine lv_iload_n C0.1 C0.2.1 dX12_laysLaws_57 rfl (lv_at hl 1 rfl) ?_
                    refine y_cmul (n := 4) C0 (o36_20 e_81) (o36_31 l1 u1 b_10 b_11 hn_9 c_12 b_22 b_23 hn_21 e_30 e_31 c_33 e_39 e_41 e_79 (le_min x3_15) (le_max x3_15) (le_min a1) (le_max a1) (le_min x2_3) (le_max x2_3) (le_min r_27) (le_max r_27) (le_min v_38) (le_max v_38) (le_min v_40) (le_max v_40) (le_min v_78) (le_max v_78)) (o36_32 l1 u1 b_10 b_11 hn_9 c_12 b_22 b_23 hn_21 e_30 e_31 c_33 e_39 e_41 e_79 (le_min x3_15) (le_max x3_15) (le_min a1) (le_max a1) (le_min x2_3) (le_max x2_3) (le_min r_27) (le_max r_27) (le_min v_38) (le_max v_38) (le_min v_40) (le_max v_40) (le_min v_78) (le_max v_78)) dX12_laysLaws_58 (fun v_82 e_83 => ?_)
                    refine y_add C0 (o36_33 l1 u1 b_10 b_11 hn_9 c_12 b_22 b_23 hn_21 e_30 e_31 c_33 e_39 e_41 e_79 e_83 (le_min v_78) (le_max v_78) (le_min v_82) (le_max v_82) (le_min a1) (le_max a1) (le_min x2_3) (le_max x2_3) (le_min x3_15) (le_max x3_15) (le_min r_27) (le_max r_27) (le_min v_38) (le_max v_38) (le_min v_40) (le_max v_40)) (o36_34 l1 u1 b_10 b_11 hn_9 c_12 b_22 b_23 hn_21 e_30 e_31 c_33 e_39 e_41 e_79 e_83 (le_min v_78) (le_max v_78) (le_min v_82) (le_max v_82) (le_min a1) (le_max a1) (le_min x2_3) (le_max x2_3) (le_min x3_15) (le_max x3_15) (le_min r_27) (le_max r_27) (le_min v_38) (le_max v_38) (le_min v_40) (le_max v_40)) dX12_laysLaws_59 (fun v_84 e_85 => ?_)
                    refine lv_iload C0.1 C0.2.1 dX12_laysLaws_60 (lv_at hl 0 rfl) ?_
                    refine y_add C0 (o36_35 l1 u1 b_10 b_11 hn_9 c_12 b_22 b_23 hn_21 e_30 e_31 c_33 e_39 e_41 b_69 b_70 hn_68 e_72 c_73 e_79 e_83 e_85 (le_min v_84) (le_max v_84) (le_min x4_62) (le_max x4_62) (le_min a1) (le_max a1) (le_min x2_3) (le_max x2_3) (le_min x3_15) (le_max x3_15) (le_min r_27) (le_max r_27) (le_min v_38) (le_max v_38) (le_min v_40) (le_max v_40) (le_min v_71) (le_max v_71) (le_min v_78) (le_max v_78) (le_min v_82) (le_max v_82)) (o36_36 l1 u1 b_10 b_11 hn_9 c_12 b_22 b_23 hn_21 e_30 e_31 c_33 e_39 e_41 b_69 b_70 hn_68 e_72 c_73 e_79 e_83 e_85 (le_min v_84) (le_max v_84) (le_min x4_62) (le_max x4_62) (le_min a1) (le_max a1) (le_min x2_3) (le_max x2_3) (le_min x3_15) (le_max x3_15) (le_min r_27) (le_max r_27) (le_min v_38) (le_max v_38) (le_min v_40) (le_max v_40) (le_min v_71) (le_max v_71) (le_min v_78) (le_max v_78) (le_min v_82) (le_max v_82)) dX12_laysLaws_62 (fun v_86 e_87 => ?_)
                    refine lv_aload_n C0.1 C0.2.1 dX12_laysLaws_63 rfl (lv_at hl 3 rfl) ?_
                    refine lv_iload_n C0.1 C0.2.1 dX12_laysLaws_64 rfl (lv_at hl 1 rfl) ?_
                    refine lv_aload_n C0.1 C0.2.1 dX12_laysLaws_65 rfl (lv_at hl 3 rfl) ?_
                    refine ng_X12_from0 C0 h kSM_0 q_1464 dX12_laysLaws_66 (fun v_88 e_89 e_90 e_91 => ?_)
                    have qh_92 : v_88.toInt = v_42.toInt := congrArg Int32.toInt (e_89.symm.trans (Eq.trans (Eq.trans (Fr.fI hF_64 kSM_0 (by decide)) (Eq.trans (fI_of (u_58.1 0 (kd_ne kSM_0 kSM_12 (by decide)))) (Fr.fI u_49 kSM_0 (by decide)))) e_43))
                    refine lv_iload_n C0.1 C0.2.1 dX12_laysLaws_69 rfl (lv_at hl 2 rfl) ?_
                    refine xr_iadd C0 dX12_laysLaws_70 (fun v_93 e_94 => ?_)
                    refine lv_iload C0.1 C0.2.1 dX12_laysLaws_71 (lv_at hl 0 rfl) ?_
                    refine y_ci h (y_rV (As := [.int x3_15, .int v_93, .int x4_62]) (rest := [.int v_86, .ref (ad 11)]) C0 hZ h (c_X12_mayTurn l G Z ad _ h.2 x3_15 v_93 x4_62 (o36_37 l1 u1 b_10 b_11 hn_9 c_12 b_22 b_23 hn_21 e_30 e_31 c_33 e_39 e_41 b_69 b_70 hn_68 e_72 c_73 e_79 e_83 e_85 e_87) (o36_38 l1 u1 b_10 b_11 hn_9 c_12 b_22 b_23 hn_21 e_30 e_31 c_33 e_39 e_41 b_69 b_70 hn_68 e_72 c_73 e_79 e_83 e_85 e_87) (o36_39 l1 u1 b_10 b_11 hn_9 c_12 b_22 b_23 hn_21 e_30 e_31 c_33 e_39 e_41 b_69 b_70 hn_68 e_72 c_73 e_79 e_83 e_85 e_87) (o36_40 l1 u1 b_10 b_11 hn_9 c_12 b_22 b_23 hn_21 e_30 e_31 c_33 e_39 e_41 b_69 b_70 hn_68 e_72 c_73 e_79 e_83 e_85 e_87) (J.pa hT hJ (Pa.tr (Pa.tr (Pa.tr (Pa.tr (Pa.tr (Pa.fr hF_5 (by decide)) (Pa.fr hF_17 (by decide))) (Pa.fr u_25 (by decide))) (Pa.fr u_49 (by decide))) (Pa.ud u_58.1 (by decide))) (Pa.fr hF_64 (by decide)))) (Laid.pa hLd (Pa.tr (Pa.tr (Pa.tr (Pa.tr (Pa.tr (Pa.fr hF_5 (by decide)) (Pa.fr hF_17 (by decide))) (Pa.fr u_25 (by decide))) (Pa.fr u_49 (by decide))) (Pa.ud u_58.1 (by decide))) (Pa.fr hF_64 (by decide))))) k_X12_mayTurn q_1766 q_87 q_1764 kSM_0 rfl rfl rfl hl.1 rfl rfl (Nat.le_of_ble_eq_true rfl) dX12_laysLaws_73 ⟨Nat.le_of_ble_eq_true rfl, Nat.le_of_ble_eq_true rfl⟩ ⟨Nat.le_of_ble_eq_true rfl, Nat.le_of_ble_eq_true rfl⟩) (fun r_98 H locs ws_95 h u_96 p_97 => ?_)
                    obtain ⟨e_99, e_100, e_101, e_102⟩ := p_97
                    replace HE : FT = g19c_X12_laysLaws R2 R9 R42 (xso SM ad ws_95) r_98.toInt v_86.toInt a1.toInt x2_3.toInt x3_15.toInt x4_62.toInt := HE.trans (by rw [e_99, e_87, e_85, e_83, e_79, e_100, e_94, (xg0 e_89 : v_88.toInt = (xso SM ad ws_63) 0 0 26)]; rfl)
                    have hO_105 := h.2
                    refine y_zast C0 h kSM_11 rfl (by decide) (o36_41 l1 u1 b_10 b_11 hn_9 c_12 b_22 b_23 hn_21 e_30 e_31 c_33 e_39 e_41 b_69 b_70 hn_68 e_72 c_73 e_79 e_83 e_85 e_87) (o36_42 l1 u1 b_10 b_11 hn_9 c_12 b_22 b_23 hn_21 e_30 e_31 c_33 e_39 e_41 b_69 b_70 hn_68 e_72 c_73 e_79 e_83 e_85 e_87) (o36_17 e_101 e_102) (o36_18 e_101 e_102) (o36_17 e_101 e_102) (o36_18 e_101 e_102) dX12_laysLaws_76 (fun H locs ws_103 h u_104 => ?_)
                    replace HE : FT = g20w_X12_laysLaws R2 R9 R42 (xso SM ad ws_103) a1.toInt x2_3.toInt x3_15.toInt x4_62.toInt := HE.trans (by rw [(xso_A (i := 11) hO_105 h.2 kSM_11 rfl u_104)]; rfl)
                    refine lv_aload_n C0.1 C0.2.1 dX12_laysLaws_77 rfl (lv_at hl 3 rfl) ?_
                    refine ng_X12_prices C0 h kSM_0 q_1461 dX12_laysLaws_78 ?_
                    refine y_c2 (n := 100) C0 (by decide) dX12_laysLaws_81 (fun v_106 e_107 => ?_)
                    refine lv_iload_n C0.1 C0.2.1 dX12_laysLaws_83 rfl (lv_at hl 2 rfl) ?_
                    refine y_cmul (n := 100) C0 (o36_28 e_107) (o36_43 l1 u1 b_10 b_11 hn_9 c_12 b_22 b_23 hn_21 e_30 e_31 c_33 e_39 e_41 b_69 b_70 hn_68 e_72 c_73 e_79 e_83 e_85 e_87 (le_min x2_3) (le_max x2_3) (le_min a1) (le_max a1) (le_min x3_15) (le_max x3_15) (le_min r_27) (le_max r_27) (le_min v_38) (le_max v_38) (le_min v_40) (le_max v_40) (le_min x4_62) (le_max x4_62) (le_min v_71) (le_max v_71) (le_min v_78) (le_max v_78) (le_min v_82) (le_max v_82) (le_min v_84) (le_max v_84) (le_min v_86) (le_max v_86)) (o36_44 l1 u1 b_10 b_11 hn_9 c_12 b_22 b_23 hn_21 e_30 e_31 c_33 e_39 e_41 b_69 b_70 hn_68 e_72 c_73 e_79 e_83 e_85 e_87 (le_min x2_3) (le_max x2_3) (le_min a1) (le_max a1) (le_min x3_15) (le_max x3_15) (le_min r_27) (le_max r_27) (le_min v_38) (le_max v_38) (le_min v_40) (le_max v_40) (le_min x4_62) (le_max x4_62) (le_min v_71) (le_max v_71) (le_min v_78) (le_max v_78) (le_min v_82) (le_max v_82) (le_min v_84) (le_max v_84) (le_min v_86) (le_max v_86)) dX12_laysLaws_84 (fun v_108 e_109 => ?_)
                    refine y_c1 (n := 4) C0 (by decide) dX12_laysLaws_85 (fun v_110 e_111 => ?_)
                    refine lv_iload_n C0.1 C0.2.1 dX12_laysLaws_86 rfl (lv_at hl 1 rfl) ?_
                    refine y_cmul (n := 4) C0 (o36_20 e_111) (o36_45 l1 u1 b_10 b_11 hn_9 c_12 b_22 b_23 hn_21 e_30 e_31 c_33 e_39 e_41 b_69 b_70 hn_68 e_72 c_73 e_79 e_83 e_85 e_87 e_109 (le_min x3_15) (le_max x3_15) (le_min a1) (le_max a1) (le_min x2_3) (le_max x2_3) (le_min r_27) (le_max r_27) (le_min v_38) (le_max v_38) (le_min v_40) (le_max v_40) (le_min x4_62) (le_max x4_62) (le_min v_71) (le_max v_71) (le_min v_78) (le_max v_78) (le_min v_82) (le_max v_82) (le_min v_84) (le_max v_84) (le_min v_86) (le_max v_86) (le_min v_108) (le_max v_108)) (o36_46 l1 u1 b_10 b_11 hn_9 c_12 b_22 b_23 hn_21 e_30 e_31 c_33 e_39 e_41 b_69 b_70 hn_68 e_72 c_73 e_79 e_83 e_85 e_87 e_109 (le_min x3_15) (le_max x3_15) (le_min a1) (le_max a1) (le_min x2_3) (le_max x2_3) (le_min r_27) (le_max r_27) (le_min v_38) (le_max v_38) (le_min v_40) (le_max v_40) (le_min x4_62) (le_max x4_62) (le_min v_71) (le_max v_71) (le_min v_78) (le_max v_78) (le_min v_82) (le_max v_82) (le_min v_84) (le_max v_84) (le_min v_86) (le_max v_86) (le_min v_108) (le_max v_108)) dX12_laysLaws_87 (fun v_112 e_113 => ?_)
                    refine y_add C0 (o36_47 l1 u1 b_10 b_11 hn_9 c_12 b_22 b_23 hn_21 e_30 e_31 c_33 e_39 e_41 b_69 b_70 hn_68 e_72 c_73 e_79 e_83 e_85 e_87 e_109 e_113 (le_min v_108) (le_max v_108) (le_min v_112) (le_max v_112) (le_min a1) (le_max a1) (le_min x2_3) (le_max x2_3) (le_min x3_15) (le_max x3_15) (le_min r_27) (le_max r_27) (le_min v_38) (le_max v_38) (le_min v_40) (le_max v_40) (le_min x4_62) (le_max x4_62) (le_min v_71) (le_max v_71) (le_min v_78) (le_max v_78) (le_min v_82) (le_max v_82) (le_min v_84) (le_max v_84) (le_min v_86) (le_max v_86)) (o36_48 l1 u1 b_10 b_11 hn_9 c_12 b_22 b_23 hn_21 e_30 e_31 c_33 e_39 e_41 b_69 b_70 hn_68 e_72 c_73 e_79 e_83 e_85 e_87 e_109 e_113 (le_min v_108) (le_max v_108) (le_min v_112) (le_max v_112) (le_min a1) (le_max a1) (le_min x2_3) (le_max x2_3) (le_min x3_15) (le_max x3_15) (le_min r_27) (le_max r_27) (le_min v_38) (le_max v_38) (le_min v_40) (le_max v_40) (le_min x4_62) (le_max x4_62) (le_min v_71) (le_max v_71) (le_min v_78) (le_max v_78) (le_min v_82) (le_max v_82) (le_min v_84) (le_max v_84) (le_min v_86) (le_max v_86)) dX12_laysLaws_88 (fun v_114 e_115 => ?_)
                    refine lv_iload C0.1 C0.2.1 dX12_laysLaws_89 (lv_at hl 0 rfl) ?_
                    refine y_add C0 (o36_49 l1 u1 b_10 b_11 hn_9 c_12 b_22 b_23 hn_21 e_30 e_31 c_33 e_39 e_41 b_69 b_70 hn_68 e_72 c_73 e_79 e_83 e_85 e_87 e_109 e_113 e_115 (le_min v_114) (le_max v_114) (le_min x4_62) (le_max x4_62) (le_min a1) (le_max a1) (le_min x2_3) (le_max x2_3) (le_min x3_15) (le_max x3_15) (le_min r_27) (le_max r_27) (le_min v_38) (le_max v_38) (le_min v_40) (le_max v_40) (le_min v_71) (le_max v_71) (le_min v_78) (le_max v_78) (le_min v_82) (le_max v_82) (le_min v_84) (le_max v_84) (le_min v_86) (le_max v_86) (le_min v_108) (le_max v_108) (le_min v_112) (le_max v_112)) (o36_50 l1 u1 b_10 b_11 hn_9 c_12 b_22 b_23 hn_21 e_30 e_31 c_33 e_39 e_41 b_69 b_70 hn_68 e_72 c_73 e_79 e_83 e_85 e_87 e_109 e_113 e_115 (le_min v_114) (le_max v_114) (le_min x4_62) (le_max x4_62) (le_min a1) (le_max a1) (le_min x2_3) (le_max x2_3) (le_min x3_15) (le_max x3_15) (le_min r_27) (le_max r_27) (le_min v_38) (le_max v_38) (le_min v_40) (le_max v_40) (le_min v_71) (le_max v_71) (le_min v_78) (le_max v_78) (le_min v_82) (le_max v_82) (le_min v_84) (le_max v_84) (le_min v_86) (le_max v_86) (le_min v_108) (le_max v_108) (le_min v_112) (le_max v_112)) dX12_laysLaws_91 (fun v_116 e_117 => ?_)
                    refine lv_aload_n C0.1 C0.2.1 dX12_laysLaws_92 rfl (lv_at hl 3 rfl) ?_
                    refine lv_iload_n C0.1 C0.2.1 dX12_laysLaws_93 rfl (lv_at hl 1 rfl) ?_
                    refine lv_aload_n C0.1 C0.2.1 dX12_laysLaws_94 rfl (lv_at hl 3 rfl) ?_
                    refine ng_X12_from0 C0 h kSM_0 q_1464 dX12_laysLaws_95 (fun v_118 e_119 e_120 e_121 => ?_)
                    have qh_122 : v_118.toInt = v_42.toInt := congrArg Int32.toInt (e_119.symm.trans (Eq.trans (Eq.trans (fI_of (u_104.1 0 (kd_ne kSM_0 kSM_11 (by decide)))) (Eq.trans (Fr.fI u_96 kSM_0 (by decide)) (Eq.trans (Fr.fI hF_64 kSM_0 (by decide)) (Eq.trans (fI_of (u_58.1 0 (kd_ne kSM_0 kSM_12 (by decide)))) (Fr.fI u_49 kSM_0 (by decide)))))) e_43))
                    refine lv_iload_n C0.1 C0.2.1 dX12_laysLaws_98 rfl (lv_at hl 2 rfl) ?_
                    refine xr_iadd C0 dX12_laysLaws_99 (fun v_123 e_124 => ?_)
                    refine lv_iload C0.1 C0.2.1 dX12_laysLaws_100 (lv_at hl 0 rfl) ?_
                    refine y_ci h (y_rV (As := [.int x3_15, .int v_123, .int x4_62]) (rest := [.int v_116, .ref (ad 10)]) C0 hZ h (c_X12_priceOf l G Z ad _ h.2 x3_15 v_123 x4_62 (o36_51 l1 u1 b_10 b_11 hn_9 c_12 b_22 b_23 hn_21 e_30 e_31 c_33 e_39 e_41 b_69 b_70 hn_68 e_72 c_73 e_79 e_83 e_85 e_87 e_109 e_113 e_115 e_117) (o36_52 l1 u1 b_10 b_11 hn_9 c_12 b_22 b_23 hn_21 e_30 e_31 c_33 e_39 e_41 b_69 b_70 hn_68 e_72 c_73 e_79 e_83 e_85 e_87 e_109 e_113 e_115 e_117) (o36_53 l1 u1 b_10 b_11 hn_9 c_12 b_22 b_23 hn_21 e_30 e_31 c_33 e_39 e_41 b_69 b_70 hn_68 e_72 c_73 e_79 e_83 e_85 e_87 e_109 e_113 e_115 e_117) (o36_54 l1 u1 b_10 b_11 hn_9 c_12 b_22 b_23 hn_21 e_30 e_31 c_33 e_39 e_41 b_69 b_70 hn_68 e_72 c_73 e_79 e_83 e_85 e_87 e_109 e_113 e_115 e_117) (J.pa hT hJ (Pa.tr (Pa.tr (Pa.tr (Pa.tr (Pa.tr (Pa.tr (Pa.tr (Pa.fr hF_5 (by decide)) (Pa.fr hF_17 (by decide))) (Pa.fr u_25 (by decide))) (Pa.fr u_49 (by decide))) (Pa.ud u_58.1 (by decide))) (Pa.fr hF_64 (by decide))) (Pa.fr u_96 (by decide))) (Pa.ud u_104.1 (by decide)))) (Laid.pa hLd (Pa.tr (Pa.tr (Pa.tr (Pa.tr (Pa.tr (Pa.tr (Pa.tr (Pa.fr hF_5 (by decide)) (Pa.fr hF_17 (by decide))) (Pa.fr u_25 (by decide))) (Pa.fr u_49 (by decide))) (Pa.ud u_58.1 (by decide))) (Pa.fr hF_64 (by decide))) (Pa.fr u_96 (by decide))) (Pa.ud u_104.1 (by decide))))) k_X12_priceOf q_1724 q_81 q_1722 kSM_0 rfl rfl rfl hl.1 rfl rfl (Nat.le_of_ble_eq_true rfl) dX12_laysLaws_102 ⟨Nat.le_of_ble_eq_true rfl, Nat.le_of_ble_eq_true rfl⟩ ⟨Nat.le_of_ble_eq_true rfl, Nat.le_of_ble_eq_true rfl⟩) (fun r_128 H locs ws_125 h u_126 p_127 => ?_)
                    obtain ⟨e_129, e_130, e_131⟩ := p_127
                    replace HE : FT = g21c_X12_laysLaws R2 R9 R42 (xso SM ad ws_125) r_128.toInt v_116.toInt a1.toInt x2_3.toInt x3_15.toInt x4_62.toInt := HE.trans (by rw [e_129, e_117, e_115, e_113, e_109, e_130, e_124, (xg0 e_119 : v_118.toInt = (xso SM ad ws_103) 0 0 26)]; rfl)
                    have hO_134 := h.2
                    refine y_iast C0 h kSM_10 rfl (by decide) (o36_55 l1 u1 b_10 b_11 hn_9 c_12 b_22 b_23 hn_21 e_30 e_31 c_33 e_39 e_41 b_69 b_70 hn_68 e_72 c_73 e_79 e_83 e_85 e_87 e_109 e_113 e_115 e_117) (o36_56 l1 u1 b_10 b_11 hn_9 c_12 b_22 b_23 hn_21 e_30 e_31 c_33 e_39 e_41 b_69 b_70 hn_68 e_72 c_73 e_79 e_83 e_85 e_87 e_109 e_113 e_115 e_117) (le_min r_128) (le_max r_128) dX12_laysLaws_105 (fun H locs ws_132 h u_133 => ?_)
                    replace HE : FT = g22w_X12_laysLaws R2 R9 R42 (xso SM ad ws_132) a1.toInt x2_3.toInt x3_15.toInt x4_62.toInt := HE.trans (by rw [(xso_A (i := 10) hO_134 h.2 kSM_10 rfl u_133)]; rfl)
                    refine y_inc (kp := 0) (n := 1) (fun v_135 => [(4, .int v_135), (3, .int x3_15), (2, .int x2_3), (0, .ref (ad 0)), (1, .int a1)]) C0 hl rfl (by decide) (by decide) (fun _ => rfl) (o36_57 l1 u1 b_10 b_11 hn_9 c_12 b_22 b_23 hn_21 e_30 e_31 c_33 e_39 e_41 b_69 b_70 hn_68 e_72 c_73 e_79 e_83 e_85 e_87 e_109 e_113 e_115 e_117 (le_min x4_62) (le_max x4_62) (le_min a1) (le_max a1) (le_min x2_3) (le_max x2_3) (le_min x3_15) (le_max x3_15) (le_min r_27) (le_max r_27) (le_min v_38) (le_max v_38) (le_min v_40) (le_max v_40) (le_min v_71) (le_max v_71) (le_min v_78) (le_max v_78) (le_min v_82) (le_max v_82) (le_min v_84) (le_max v_84) (le_min v_86) (le_max v_86) (le_min v_108) (le_max v_108) (le_min v_112) (le_max v_112) (le_min v_114) (le_max v_114) (le_min v_116) (le_max v_116)) (o36_58 l1 u1 b_10 b_11 hn_9 c_12 b_22 b_23 hn_21 e_30 e_31 c_33 e_39 e_41 b_69 b_70 hn_68 e_72 c_73 e_79 e_83 e_85 e_87 e_109 e_113 e_115 e_117 (le_min x4_62) (le_max x4_62) (le_min a1) (le_max a1) (le_min x2_3) (le_max x2_3) (le_min x3_15) (le_max x3_15) (le_min r_27) (le_max r_27) (le_min v_38) (le_max v_38) (le_min v_40) (le_max v_40) (le_min v_71) (le_max v_71) (le_min v_78) (le_max v_78) (le_min v_82) (le_max v_82) (le_min v_84) (le_max v_84) (le_min v_86) (le_max v_86) (le_min v_108) (le_max v_108) (le_min v_112) (le_max v_112) (le_min v_114) (le_max v_114) (le_min v_116) (le_max v_116)) dX12_laysLaws_106 (fun v_135 ls e_136 hl => ?_)
                    refine lv_goto (tgt := 42) C0.1 C0.2.1 dX12_laysLaws_109 (by decide) ?_
                    exact ih_66 v_135 _ _ _ _ (o36_59 l1 u1 b_10 b_11 hn_9 c_12 b_22 b_23 hn_21 e_30 e_31 c_33 e_39 e_41 b_69 b_70 hn_68 e_72 c_73 e_79 e_83 e_85 e_87 e_109 e_113 e_115 e_117 e_136) (o36_60 l1 u1 b_10 b_11 hn_9 c_12 b_22 b_23 hn_21 e_30 e_31 c_33 e_39 e_41 b_69 b_70 hn_68 e_72 c_73 e_79 e_83 e_85 e_87 e_109 e_113 e_115 e_117 e_136) (o36_61 l1 u1 b_10 b_11 hn_9 c_12 b_22 b_23 hn_21 e_30 e_31 c_33 e_39 e_41 b_69 b_70 hn_68 e_72 c_73 e_79 e_83 e_85 e_87 e_109 e_113 e_115 e_117 e_136) (((show FT = R42 (xso SM ad ws_132) a1.toInt x2_3.toInt x3_15.toInt v_135.toInt from HE.trans (by rw [e_136]; rfl)).trans (by rw [hR42]))) h (Fr.tr (Fr.tr (Fr.tr (Fr.tr hF_64 (Fr.mono u_96 (by decide))) (Fr.up u_104.1 kSM_11 (by decide))) (Fr.mono u_126 (by decide))) (Fr.up u_133.1 kSM_10 (by decide))) (lv_sub hl [0, 1, 2, 3, 4] rfl)
              exact lp_65 ((4 - v_60.toInt + 1).toNat) v_60 _ _ _ _ (o36_62 e_61) (o36_63 e_61) (o36_64 e_61) ((show FT = L14_X12_laysLaws R2 R9 (Int.toNat (4 - v_60.toInt + 1)) (xso SM ad ws_57) a1.toInt x2_3.toInt x3_15.toInt v_60.toInt from HE.trans (by rw [e_61]; rfl))) h Fr.rf (lv_sub hl [0, 1, 2, 3, 4] rfl)
        exact lp_18 ((25 - v_13.toInt + 1).toNat) v_13 _ _ _ _ (o36_65 e_14) (o36_63 e_14) (o36_66 e_14) ((show FT = L6_X12_laysLaws R2 (Int.toNat (25 - v_13.toInt + 1)) (xso SM ad ws_4) a1.toInt x2_3.toInt v_13.toInt from HE.trans (by rw [e_14]; rfl))) h Fr.rf (lv_sub hl [0, 1, 2, 3] rfl)
  exact lp_6 ((61 - v_1.toInt + 1).toNat) v_1 _ _ _ _ (o36_67 e_2) (o36_63 e_2) (o36_68 e_2) ((show FT = L1_X12_laysLaws (Int.toNat (61 - v_1.toInt + 1)) (xso SM ad ws0) a1.toInt v_1.toInt from HE.trans (by rw [e_2]; rfl))) h Fr.rf (lv_sub hl [0, 1, 2] rfl)
noncomputable def g4_X12_costOf_0 (s : XS) : XR := (s, 1000000000)
noncomputable def g7_X12_costOf_0 (s : XS) (a1 : Int) (a2 : Int) (a4 : Int) (r_4 : Int) : XR := (s, 0)
noncomputable def g15c_X12_costOf_0 (s : XS) (r_66 : Int) (a1 : Int) (a2 : Int) (r_4 : Int) : XR := (s, (r_66 * 1))
noncomputable def g13_X12_costOf_0 (s : XS) (a1 : Int) (a2 : Int) (a4 : Int) (r_4 : Int) : XR := g15c_X12_costOf_0 ((f_X12_leftsOf s a4).1) (((f_X12_leftsOf s a4).2)) a1 a2 r_4
noncomputable def g14_X12_costOf_0 (s : XS) : XR := (s, 0)
noncomputable def g12b_X12_costOf_0 (s : XS) (v_58 : Int) (a1 : Int) (a2 : Int) (a4 : Int) (r_4 : Int) : XR := if v_58 = 0 then g13_X12_costOf_0 s a1 a2 a4 r_4 else g14_X12_costOf_0 s
noncomputable def g10_X12_costOf_0 (s : XS) (a1 : Int) (a2 : Int) (a4 : Int) (r_4 : Int) : XR := g12b_X12_costOf_0 s ((s 1 12 (Int.toNat ((25 * a1) + a2)))) a1 a2 a4 r_4
noncomputable def g11_X12_costOf_0 (s : XS) : XR := (s, 1000000000)
noncomputable def g9b_X12_costOf_0 (s : XS) (v_44 : Int) (a1 : Int) (a2 : Int) (a4 : Int) (r_4 : Int) : XR := if v_44 = 0 then g11_X12_costOf_0 s else g10_X12_costOf_0 s a1 a2 a4 r_4
noncomputable def g8_X12_costOf_0 (s : XS) (a1 : Int) (a2 : Int) (a4 : Int) (r_4 : Int) : XR := g9b_X12_costOf_0 s ((s 1 11 (Int.toNat (((100 * a1) + (4 * a2)) + r_4)))) a1 a2 a4 r_4
noncomputable def g6b_X12_costOf_0 (s : XS) (a4 : Int) (a1 : Int) (a2 : Int) (r_4 : Int) : XR := if 1 < a4 then g8_X12_costOf_0 s a1 a2 a4 r_4 else g7_X12_costOf_0 s a1 a2 a4 r_4
noncomputable def g5_X12_costOf_0 (s : XS) (a1 : Int) (a2 : Int) (a4 : Int) (r_4 : Int) : XR := g6b_X12_costOf_0 s a4 a1 a2 r_4
noncomputable def g3b_X12_costOf_0 (s : XS) (r_13 : Int) (a1 : Int) (a2 : Int) (a4 : Int) (r_4 : Int) : XR := if r_13 = ((-1)) then g4_X12_costOf_0 s else g5_X12_costOf_0 s a1 a2 a4 r_4
noncomputable def g2c_X12_costOf_0 (s : XS) (r_13 : Int) (a1 : Int) (a2 : Int) (a4 : Int) (r_4 : Int) : XR := g3b_X12_costOf_0 s r_13 a1 a2 a4 r_4
noncomputable def g1c_X12_costOf_0 (s : XS) (r_4 : Int) (a1 : Int) (a2 : Int) (a4 : Int) : XR := g2c_X12_costOf_0 ((f_X12_streetFrom s a2 r_4).1) (((f_X12_streetFrom s a2 r_4).2)) a1 a2 a4 r_4
noncomputable def f_X12_costOf_0 (s : XS) (a1 : Int) (a2 : Int) (a3 : Int) (a4 : Int) (a5 : Int) : XR := g1c_X12_costOf_0 ((f_X12_directionBy s a3 a4).1) (((f_X12_directionBy s a3 a4).2)) a1 a2 a4
set_option maxHeartbeats 4000000 in
set_option maxRecDepth 100000 in
theorem c_X12_costOf_0 (l : Launch) (G : GG) (Z : RZ) (ad : Nat → Nat) (ws0 : va_W) (hT : Ty G SM ad ws0) (a1 : Int32) (a2 : Int32) (a3 : Int32) (a4 : Int32) (a5 : Int32) (l1 : 0 ≤ a1.toInt) (u1 : a1.toInt ≤ 60) (l2 : 0 ≤ a2.toInt) (u2 : a2.toInt ≤ 24) (l3 : 0 ≤ a3.toInt) (u3 : a3.toInt ≤ 3) (l4 : 0 ≤ a4.toInt) (u4 : a4.toInt ≤ 3) (l5 : 0 ≤ a5.toInt) (u5 : a5.toInt ≤ 0) (hLd : Laid ws0) : Mq l yX12_costOf cX12_costOf 7 (some .int) 4 G Z [.ref (ad 0), .int a1, .int a2, .int a3, .int a4, .int a5] ws0 (PI G SM ad [] ws0 (fun r u => (xso SM ad u = (f_X12_costOf_0 (xso SM ad ws0) a1.toInt a2.toInt a3.toInt a4.toInt a5.toInt).1) ∧ (r.toInt = (f_X12_costOf_0 (xso SM ad ws0) a1.toInt a2.toInt a3.toInt a4.toInt a5.toInt).2) ∧ (0 ≤ r.toInt) ∧ (r.toInt ≤ 1000000000) ∧ ((r.toInt = 1000000000 ∨ (0 ≤ r.toInt ∧ r.toInt ≤ 2))) ∧ (r.toInt = 1000000000 ∨ SG ws0 a2.toInt (dirI a3.toInt a4.toInt)))) := by
  refine Mq.start (by decide) (Nat.le_of_ble_eq_true rfl) ?_
  intro p e s m below meth c A ls C0 hZ h hl
  have hl : lv_has ls 7 [(0, .ref (ad 0)), (1, .int a1), (2, .int a2), (3, .int a3), (4, .int a4), (5, .int a5)] := hl
  have h : Wt G SM ad A s s.heap [] ws0 := ⟨h, hT⟩
  obtain ⟨args, hargs⟩ : ∃ z, z = ([.ref (ad 0), .int a1, .int a2, .int a3, .int a4, .int a5] : List Value).toArray := ⟨_, rfl⟩
  rw [← hargs] at C0 ⊢
  have C0 : Cx p s m args meth c RX12 cX12_costOf 7 (some .int) := C0
  obtain ⟨Q, hQ⟩ : ∃ z, z = MQ below ((PI G SM ad [] ws0 (fun r u => (xso SM ad u = (f_X12_costOf_0 (xso SM ad ws0) a1.toInt a2.toInt a3.toInt a4.toInt a5.toInt).1) ∧ (r.toInt = (f_X12_costOf_0 (xso SM ad ws0) a1.toInt a2.toInt a3.toInt a4.toInt a5.toInt).2) ∧ (0 ≤ r.toInt) ∧ (r.toInt ≤ 1000000000) ∧ ((r.toInt = 1000000000 ∨ (0 ≤ r.toInt ∧ r.toInt ≤ 2))) ∧ (r.toInt = 1000000000 ∨ SG ws0 a2.toInt (dirI a3.toInt a4.toInt)))) A) args s 0 0 A := ⟨_, rfl⟩
  rw [← hQ]
  obtain ⟨FT, hFT⟩ : ∃ z, z = f_X12_costOf_0 (xso SM ad ws0) a1.toInt a2.toInt a3.toInt a4.toInt a5.toInt := ⟨_, rfl⟩
  have HE : FT = f_X12_costOf_0 (xso SM ad ws0) a1.toInt a2.toInt a3.toInt a4.toInt a5.toInt := hFT
  refine lv_iload_n C0.1 C0.2.1 dX12_costOf_0 rfl (lv_at hl 3 rfl) ?_
  refine lv_iload C0.1 C0.2.1 dX12_costOf_1 (lv_at hl 4 rfl) ?_
  refine y_ci h (y_rS (As := [.int a3, .int a4]) (rest := []) C0 hZ h (c_X12_directionBy l G Z ad _ h.2 a3 a4 (o36_69 l3 u3) (o36_70 l3 u3) (o36_69 l4 u4) (o36_70 l4 u4)) k_X12_directionBy q_1761 q_1760 hl.1 rfl rfl (Nat.le_of_ble_eq_true rfl) dX12_costOf_3 ⟨Nat.le_of_ble_eq_true rfl, Nat.le_of_ble_eq_true rfl⟩ ⟨Nat.le_of_ble_eq_true rfl, Nat.le_of_ble_eq_true rfl⟩) (fun r_4 H locs ws_1 h u_2 p_3 => ?_)
  obtain ⟨e_5, e_6, e_7, e_8, e_9⟩ := p_3
  replace HE : FT = g1c_X12_costOf_0 (xso SM ad ws_1) r_4.toInt a1.toInt a2.toInt a4.toInt := HE.trans (by rw [e_5, e_6]; rfl)
  refine lv_istore (lv' := [(6, .int r_4), (0, .ref (ad 0)), (1, .int a1), (2, .int a2), (3, .int a3), (4, .int a4), (5, .int a5)]) C0.1 C0.2.1 dX12_costOf_6 hl (by decide) rfl (fun ls hl => ?_)
  refine lv_aload_n C0.1 C0.2.1 dX12_costOf_8 rfl (lv_at hl 1 rfl) ?_
  refine lv_iload_n C0.1 C0.2.1 dX12_costOf_9 rfl (lv_at hl 3 rfl) ?_
  refine lv_iload C0.1 C0.2.1 dX12_costOf_10 (lv_at hl 0 rfl) ?_
  refine y_ci h (y_rV (As := [.int a2, .int r_4]) (rest := []) C0 hZ h (c_X12_streetFrom l G Z ad _ h.2 a2 r_4 (o36_71 l2 u2) (o36_72 l2 u2) (o36_69 e_7 e_8) (o36_70 e_7 e_8) (Laid.pa hLd (Pa.fr u_2 (by decide)))) k_X12_streetFrom q_1713 q_80 q_1711 kSM_0 rfl rfl rfl hl.1 rfl rfl (Nat.le_of_ble_eq_true rfl) dX12_costOf_12 ⟨Nat.le_of_ble_eq_true rfl, Nat.le_of_ble_eq_true rfl⟩ ⟨Nat.le_of_ble_eq_true rfl, Nat.le_of_ble_eq_true rfl⟩) (fun r_13 H locs ws_10 h u_11 p_12 => ?_)
  obtain ⟨e_14, e_15, e_16, e_17, e_18⟩ := p_12
  replace HE : FT = g2c_X12_costOf_0 (xso SM ad ws_10) r_13.toInt a1.toInt a2.toInt a4.toInt r_4.toInt := HE.trans (by rw [e_14, e_15]; rfl)
  refine y_c1 (n := (-1)) C0 (by decide) dX12_costOf_15 (fun v_19 e_20 => ?_)
  replace HE : FT = g3b_X12_costOf_0 (xso SM ad ws_10) r_13.toInt a1.toInt a2.toInt a4.toInt r_4.toInt := HE.trans rfl
  refine y_icmp_eq (tgt := 44) C0 dX12_costOf_16 (by decide) (fun c_21 => ?_) (fun c_21 => ?_)
  · -- 16
    replace HE : FT = g4_X12_costOf_0 (xso SM ad ws_10) := HE.trans (if_pos (o36_74 e_16 e_17 e_20 c_21))
    refine y_c5 (n := 1000000000) C0 q_1887 (by decide) dX12_costOf_44 (fun v_22 e_23 => ?_)
    replace HE : FT = ((xso SM ad ws_10), v_22.toInt) := HE.trans (by rw [e_23]; rfl)
    rw [hQ]
    exact y_iret C0 h (Fr.tr u_2 u_11) ⟨(congrArg Prod.fst (HE.symm.trans hFT)), (congrArg Prod.snd (HE.symm.trans hFT)), (o36_76 e_23), (o36_77 e_23), (o36_78 e_23), (Or.inl (o36_79 e_23))⟩ dX12_costOf_47
  · -- 16
    replace HE : FT = g5_X12_costOf_0 (xso SM ad ws_10) a1.toInt a2.toInt a4.toInt r_4.toInt := HE.trans (if_neg (o36_75 e_16 e_17 e_20 c_21))
    refine lv_iload C0.1 C0.2.1 dX12_costOf_19 (lv_at hl 5 rfl) ?_
    refine y_c1 (n := 1) C0 (by decide) dX12_costOf_21 (fun v_24 e_25 => ?_)
    replace HE : FT = g6b_X12_costOf_0 (xso SM ad ws_10) a4.toInt a1.toInt a2.toInt r_4.toInt := HE.trans rfl
    refine y_icmp_le (tgt := 48) C0 dX12_costOf_22 (by decide) (fun c_26 => ?_) (fun c_26 => ?_)
    · -- 22
      replace HE : FT = g7_X12_costOf_0 (xso SM ad ws_10) a1.toInt a2.toInt a4.toInt r_4.toInt := HE.trans (if_neg (o36_81 l4 u4 e_25 c_26))
      refine lv_iload C0.1 C0.2.1 dX12_costOf_48 (lv_at hl 5 rfl) ?_
      refine y_c1 (n := 2) C0 (by decide) dX12_costOf_50 (fun v_27 e_28 => ?_)
      refine y_icmp_lt (tgt := 68) C0 dX12_costOf_51 (by decide) (fun c_29 => ?_) (fun c_29 => ((o36_83 l4 u4 e_25 c_26 e_28 c_29)).elim)
      refine y_c1 (n := 0) C0 (by decide) dX12_costOf_68 (fun v_30 e_31 => ?_)
      replace HE : FT = ((xso SM ad ws_10), v_30.toInt) := HE.trans (by rw [e_31]; rfl)
      rw [hQ]
      exact y_iret C0 h (Fr.tr u_2 u_11) ⟨(congrArg Prod.fst (HE.symm.trans hFT)), (congrArg Prod.snd (HE.symm.trans hFT)), (o36_63 e_31), (o36_84 e_31), (o36_85 e_31), (Or.inr (sg_of (o36_72 l2 u2) (Pw.sy (Pw.fr u_2 (by decide))) e_9 e_18 (o36_86 e_16 e_17 e_20 c_21)))⟩ dX12_costOf_69
    · -- 22
      replace HE : FT = g8_X12_costOf_0 (xso SM ad ws_10) a1.toInt a2.toInt a4.toInt r_4.toInt := HE.trans (if_pos (o36_82 l4 u4 e_25 c_26))
      refine lv_aload_n C0.1 C0.2.1 dX12_costOf_25 rfl (lv_at hl 1 rfl) ?_
      refine ng_X12_mays C0 h kSM_0 q_1462 dX12_costOf_26 ?_
      refine y_c2 (n := 100) C0 (by decide) dX12_costOf_29 (fun v_32 e_33 => ?_)
      refine lv_iload_n C0.1 C0.2.1 dX12_costOf_31 rfl (lv_at hl 2 rfl) ?_
      refine y_cmul (n := 100) C0 (o36_28 e_33) (o36_87 l1 u1 (le_min a1) (le_max a1)) (o36_88 l1 u1 (le_min a1) (le_max a1)) dX12_costOf_32 (fun v_34 e_35 => ?_)
      refine y_c1 (n := 4) C0 (by decide) dX12_costOf_33 (fun v_36 e_37 => ?_)
      refine lv_iload_n C0.1 C0.2.1 dX12_costOf_34 rfl (lv_at hl 3 rfl) ?_
      refine y_cmul (n := 4) C0 (o36_20 e_37) (o36_89 l2 u2 (le_min a2) (le_max a2)) (o36_90 l2 u2 (le_min a2) (le_max a2)) dX12_costOf_35 (fun v_38 e_39 => ?_)
      refine y_add C0 (o36_91 l1 u1 l2 u2 e_35 e_39 (le_min v_34) (le_max v_34) (le_min v_38) (le_max v_38) (le_min a1) (le_max a1) (le_min a2) (le_max a2)) (o36_92 l1 u1 l2 u2 e_35 e_39 (le_min v_34) (le_max v_34) (le_min v_38) (le_max v_38) (le_min a1) (le_max a1) (le_min a2) (le_max a2)) dX12_costOf_36 (fun v_40 e_41 => ?_)
      refine lv_iload C0.1 C0.2.1 dX12_costOf_37 (lv_at hl 0 rfl) ?_
      refine y_add C0 (o36_93 l1 u1 l2 u2 e_7 e_8 e_35 e_39 e_41 (le_min v_40) (le_max v_40) (le_min r_4) (le_max r_4) (le_min a1) (le_max a1) (le_min a2) (le_max a2) (le_min v_34) (le_max v_34) (le_min v_38) (le_max v_38)) (o36_94 l1 u1 l2 u2 e_7 e_8 e_35 e_39 e_41 (le_min v_40) (le_max v_40) (le_min r_4) (le_max r_4) (le_min a1) (le_max a1) (le_min a2) (le_max a2) (le_min v_34) (le_max v_34) (le_min v_38) (le_max v_38)) dX12_costOf_39 (fun v_42 e_43 => ?_)
      refine y_zald C0 h kSM_11 rfl (by decide) (o36_95 l1 u1 l2 u2 e_7 e_8 e_35 e_39 e_41 e_43) (o36_96 l1 u1 l2 u2 e_7 e_8 e_35 e_39 e_41 e_43) dX12_costOf_40 (fun v_44 e_45 e_46 e_47 => ?_)
      replace HE : FT = g9b_X12_costOf_0 (xso SM ad ws_10) v_44.toInt a1.toInt a2.toInt a4.toInt r_4.toInt := HE.trans (by rw [(xg1 e_45 : v_44.toInt = (xso SM ad ws_10) 1 11 v_42.toInt.toNat), e_43, e_41, e_39, e_35]; rfl)
      refine y_if_ne (tgt := 48) C0 dX12_costOf_41 (by decide) (fun c_48 => ?_) (fun c_48 => ?_)
      · -- 41
        replace HE : FT = g10_X12_costOf_0 (xso SM ad ws_10) a1.toInt a2.toInt a4.toInt r_4.toInt := HE.trans (if_neg c_48)
        refine lv_iload C0.1 C0.2.1 dX12_costOf_48 (lv_at hl 5 rfl) ?_
        refine y_c1 (n := 2) C0 (by decide) dX12_costOf_50 (fun v_49 e_50 => ?_)
        refine y_icmp_lt (tgt := 68) C0 dX12_costOf_51 (by decide) (fun c_51 => ((o36_97 l4 u4 e_25 c_26 e_50 c_51)).elim) (fun c_51 => ?_)
        refine lv_aload_n C0.1 C0.2.1 dX12_costOf_54 rfl (lv_at hl 1 rfl) ?_
        refine ng_X12_frees C0 h kSM_0 q_1463 dX12_costOf_55 ?_
        refine y_c2 (n := 25) C0 (by decide) dX12_costOf_58 (fun v_52 e_53 => ?_)
        refine lv_iload_n C0.1 C0.2.1 dX12_costOf_60 rfl (lv_at hl 2 rfl) ?_
        refine y_cmul (n := 25) C0 (o36_8 e_53) (o36_98 l1 u1 l2 u2 e_7 e_8 e_35 e_39 e_41 e_43 (le_min a1) (le_max a1) (le_min a2) (le_max a2) (le_min r_4) (le_max r_4) (le_min v_34) (le_max v_34) (le_min v_38) (le_max v_38) (le_min v_40) (le_max v_40) (le_min v_42) (le_max v_42)) (o36_99 l1 u1 l2 u2 e_7 e_8 e_35 e_39 e_41 e_43 (le_min a1) (le_max a1) (le_min a2) (le_max a2) (le_min r_4) (le_max r_4) (le_min v_34) (le_max v_34) (le_min v_38) (le_max v_38) (le_min v_40) (le_max v_40) (le_min v_42) (le_max v_42)) dX12_costOf_61 (fun v_54 e_55 => ?_)
        refine lv_iload_n C0.1 C0.2.1 dX12_costOf_62 rfl (lv_at hl 3 rfl) ?_
        refine y_add C0 (o36_100 l1 u1 l2 u2 e_7 e_8 e_35 e_39 e_41 e_43 e_55 (le_min v_54) (le_max v_54) (le_min a2) (le_max a2) (le_min a1) (le_max a1) (le_min r_4) (le_max r_4) (le_min v_34) (le_max v_34) (le_min v_38) (le_max v_38) (le_min v_40) (le_max v_40) (le_min v_42) (le_max v_42)) (o36_101 l1 u1 l2 u2 e_7 e_8 e_35 e_39 e_41 e_43 e_55 (le_min v_54) (le_max v_54) (le_min a2) (le_max a2) (le_min a1) (le_max a1) (le_min r_4) (le_max r_4) (le_min v_34) (le_max v_34) (le_min v_38) (le_max v_38) (le_min v_40) (le_max v_40) (le_min v_42) (le_max v_42)) dX12_costOf_63 (fun v_56 e_57 => ?_)
        refine y_zald C0 h kSM_12 rfl (by decide) (o36_102 l1 u1 l2 u2 e_7 e_8 e_35 e_39 e_41 e_43 e_55 e_57) (o36_103 l1 u1 l2 u2 e_7 e_8 e_35 e_39 e_41 e_43 e_55 e_57) dX12_costOf_64 (fun v_58 e_59 e_60 e_61 => ?_)
        replace HE : FT = g12b_X12_costOf_0 (xso SM ad ws_10) v_58.toInt a1.toInt a2.toInt a4.toInt r_4.toInt := HE.trans (by rw [(xg1 e_59 : v_58.toInt = (xso SM ad ws_10) 1 12 v_56.toInt.toNat), e_57, e_55]; rfl)
        refine y_if_eq (tgt := 70) C0 dX12_costOf_65 (by decide) (fun c_62 => ?_) (fun c_62 => ?_)
        · -- 65
          replace HE : FT = g13_X12_costOf_0 (xso SM ad ws_10) a1.toInt a2.toInt a4.toInt r_4.toInt := HE.trans (if_pos c_62)
          refine lv_iload C0.1 C0.2.1 dX12_costOf_70 (lv_at hl 5 rfl) ?_
          refine y_ci h (y_rS (As := [.int a4]) (rest := []) C0 hZ h (c_X12_leftsOf l G Z ad _ h.2 a4 (o36_104 l4 u4 e_25 c_26 e_50 c_51) (o36_105 l4 u4 e_25 c_26 e_50 c_51)) k_X12_leftsOf q_1769 q_1768 hl.1 rfl rfl (Nat.le_of_ble_eq_true rfl) dX12_costOf_72 ⟨Nat.le_of_ble_eq_true rfl, Nat.le_of_ble_eq_true rfl⟩ ⟨Nat.le_of_ble_eq_true rfl, Nat.le_of_ble_eq_true rfl⟩) (fun r_66 H locs ws_63 h u_64 p_65 => ?_)
          obtain ⟨e_67, e_68, e_69, e_70, e_71⟩ := p_65
          replace HE : FT = g15c_X12_costOf_0 (xso SM ad ws_63) r_66.toInt a1.toInt a2.toInt r_4.toInt := HE.trans (by rw [e_67, e_68]; rfl)
          refine lv_iload C0.1 C0.2.1 dX12_costOf_75 (lv_at hl 6 rfl) ?_
          refine y_if_eq (tgt := 99) C0 dX12_costOf_77 (by decide) (fun c_72 => ?_) (fun c_72 => ((o36_106 l5 u5 c_72)).elim)
          refine y_c1 (n := 1) C0 (by decide) dX12_costOf_99 (fun v_73 e_74 => ?_)
          refine y_mulc (n := 1) C0 (o36_80 e_74) (o36_107 l4 u4 e_25 c_26 e_50 c_51 e_69 e_70 e_71 (le_min r_66) (le_max r_66) (le_min a4) (le_max a4) (le_min v_24) (le_max v_24) (le_min v_49) (le_max v_49)) (o36_108 l4 u4 e_25 c_26 e_50 c_51 e_69 e_70 e_71 (le_min r_66) (le_max r_66) (le_min a4) (le_max a4) (le_min v_24) (le_max v_24) (le_min v_49) (le_max v_49)) dX12_costOf_100 (fun v_75 e_76 => ?_)
          replace HE : FT = ((xso SM ad ws_63), v_75.toInt) := HE.trans (by rw [e_76]; rfl)
          rw [hQ]
          exact y_iret C0 h (Fr.tr (Fr.tr u_2 u_11) u_64) ⟨(congrArg Prod.fst (HE.symm.trans hFT)), (congrArg Prod.snd (HE.symm.trans hFT)), (o36_109 l4 u4 e_25 c_26 e_50 c_51 e_69 e_70 e_71 e_76), (o36_110 l4 u4 e_25 c_26 e_50 c_51 e_69 e_70 e_71 e_76), (o36_111 l4 u4 e_25 c_26 e_50 c_51 e_69 e_70 e_71 e_76), (Or.inr (sg_of (o36_112 l1 u1 l2 u2 e_7 e_8 e_35 e_39 e_41 e_43 e_55 e_57) (Pw.sy (Pw.fr u_2 (by decide))) e_9 e_18 (o36_86 e_16 e_17 e_20 c_21)))⟩ dX12_costOf_101
        · -- 65
          replace HE : FT = g14_X12_costOf_0 (xso SM ad ws_10) := HE.trans (if_neg c_62)
          refine y_c1 (n := 0) C0 (by decide) dX12_costOf_68 (fun v_77 e_78 => ?_)
          replace HE : FT = ((xso SM ad ws_10), v_77.toInt) := HE.trans (by rw [e_78]; rfl)
          rw [hQ]
          exact y_iret C0 h (Fr.tr u_2 u_11) ⟨(congrArg Prod.fst (HE.symm.trans hFT)), (congrArg Prod.snd (HE.symm.trans hFT)), (o36_63 e_78), (o36_84 e_78), (o36_85 e_78), (Or.inr (sg_of (o36_112 l1 u1 l2 u2 e_7 e_8 e_35 e_39 e_41 e_43 e_55 e_57) (Pw.sy (Pw.fr u_2 (by decide))) e_9 e_18 (o36_86 e_16 e_17 e_20 c_21)))⟩ dX12_costOf_69
      · -- 41
        replace HE : FT = g11_X12_costOf_0 (xso SM ad ws_10) := HE.trans (if_pos c_48)
        refine y_c5 (n := 1000000000) C0 q_1887 (by decide) dX12_costOf_44 (fun v_79 e_80 => ?_)
        replace HE : FT = ((xso SM ad ws_10), v_79.toInt) := HE.trans (by rw [e_80]; rfl)
        rw [hQ]
        exact y_iret C0 h (Fr.tr u_2 u_11) ⟨(congrArg Prod.fst (HE.symm.trans hFT)), (congrArg Prod.snd (HE.symm.trans hFT)), (o36_76 e_80), (o36_77 e_80), (o36_78 e_80), (Or.inl (o36_79 e_80))⟩ dX12_costOf_47
noncomputable def g4_X12_costOf_1 (s : XS) : XR := (s, 1000000000)
noncomputable def g7_X12_costOf_1 (s : XS) (a1 : Int) (a2 : Int) (a4 : Int) (a5 : Int) (r_4 : Int) : XR := (s, 0)
noncomputable def g17_X12_costOf_1 (s : XS) (r_66 : Int) : XR := (s, (r_66 * 1))
noncomputable def g18_X12_costOf_1 (s : XS) (r_66 : Int) (a1 : Int) (a2 : Int) (r_4 : Int) : XR := (s, (Ximul r_66 (s 1 10 (Int.toNat (((100 * a1) + (4 * a2)) + r_4)))))
noncomputable def g16b_X12_costOf_1 (s : XS) (a5 : Int) (r_66 : Int) (a1 : Int) (a2 : Int) (r_4 : Int) : XR := if a5 = 0 then g17_X12_costOf_1 s r_66 else g18_X12_costOf_1 s r_66 a1 a2 r_4
noncomputable def g15c_X12_costOf_1 (s : XS) (r_66 : Int) (a1 : Int) (a2 : Int) (a5 : Int) (r_4 : Int) : XR := g16b_X12_costOf_1 s a5 r_66 a1 a2 r_4
noncomputable def g13_X12_costOf_1 (s : XS) (a1 : Int) (a2 : Int) (a4 : Int) (a5 : Int) (r_4 : Int) : XR := g15c_X12_costOf_1 ((f_X12_leftsOf s a4).1) (((f_X12_leftsOf s a4).2)) a1 a2 a5 r_4
noncomputable def g14_X12_costOf_1 (s : XS) : XR := (s, 0)
noncomputable def g12b_X12_costOf_1 (s : XS) (v_58 : Int) (a1 : Int) (a2 : Int) (a4 : Int) (a5 : Int) (r_4 : Int) : XR := if v_58 = 0 then g13_X12_costOf_1 s a1 a2 a4 a5 r_4 else g14_X12_costOf_1 s
noncomputable def g10_X12_costOf_1 (s : XS) (a1 : Int) (a2 : Int) (a4 : Int) (a5 : Int) (r_4 : Int) : XR := g12b_X12_costOf_1 s ((s 1 12 (Int.toNat ((25 * a1) + a2)))) a1 a2 a4 a5 r_4
noncomputable def g11_X12_costOf_1 (s : XS) : XR := (s, 1000000000)
noncomputable def g9b_X12_costOf_1 (s : XS) (v_44 : Int) (a1 : Int) (a2 : Int) (a4 : Int) (a5 : Int) (r_4 : Int) : XR := if v_44 = 0 then g11_X12_costOf_1 s else g10_X12_costOf_1 s a1 a2 a4 a5 r_4
noncomputable def g8_X12_costOf_1 (s : XS) (a1 : Int) (a2 : Int) (a4 : Int) (a5 : Int) (r_4 : Int) : XR := g9b_X12_costOf_1 s ((s 1 11 (Int.toNat (((100 * a1) + (4 * a2)) + r_4)))) a1 a2 a4 a5 r_4
noncomputable def g6b_X12_costOf_1 (s : XS) (a4 : Int) (a1 : Int) (a2 : Int) (a5 : Int) (r_4 : Int) : XR := if 1 < a4 then g8_X12_costOf_1 s a1 a2 a4 a5 r_4 else g7_X12_costOf_1 s a1 a2 a4 a5 r_4
noncomputable def g5_X12_costOf_1 (s : XS) (a1 : Int) (a2 : Int) (a4 : Int) (a5 : Int) (r_4 : Int) : XR := g6b_X12_costOf_1 s a4 a1 a2 a5 r_4
noncomputable def g3b_X12_costOf_1 (s : XS) (r_13 : Int) (a1 : Int) (a2 : Int) (a4 : Int) (a5 : Int) (r_4 : Int) : XR := if r_13 = ((-1)) then g4_X12_costOf_1 s else g5_X12_costOf_1 s a1 a2 a4 a5 r_4
noncomputable def g2c_X12_costOf_1 (s : XS) (r_13 : Int) (a1 : Int) (a2 : Int) (a4 : Int) (a5 : Int) (r_4 : Int) : XR := g3b_X12_costOf_1 s r_13 a1 a2 a4 a5 r_4
noncomputable def g1c_X12_costOf_1 (s : XS) (r_4 : Int) (a1 : Int) (a2 : Int) (a4 : Int) (a5 : Int) : XR := g2c_X12_costOf_1 ((f_X12_streetFrom s a2 r_4).1) (((f_X12_streetFrom s a2 r_4).2)) a1 a2 a4 a5 r_4
noncomputable def f_X12_costOf_1 (s : XS) (a1 : Int) (a2 : Int) (a3 : Int) (a4 : Int) (a5 : Int) : XR := g1c_X12_costOf_1 ((f_X12_directionBy s a3 a4).1) (((f_X12_directionBy s a3 a4).2)) a1 a2 a4 a5
set_option maxHeartbeats 4000000 in
set_option maxRecDepth 100000 in
theorem c_X12_costOf_1 (l : Launch) (G : GG) (Z : RZ) (ad : Nat → Nat) (ws0 : va_W) (hT : Ty G SM ad ws0) (a1 : Int32) (a2 : Int32) (a3 : Int32) (a4 : Int32) (a5 : Int32) (l1 : 0 ≤ a1.toInt) (u1 : a1.toInt ≤ 60) (l2 : 0 ≤ a2.toInt) (u2 : a2.toInt ≤ 24) (l3 : 0 ≤ a3.toInt) (u3 : a3.toInt ≤ 3) (l4 : 0 ≤ a4.toInt) (u4 : a4.toInt ≤ 3) (l5 : 0 ≤ a5.toInt) (u5 : a5.toInt ≤ 1) (hLd : Laid ws0) : Mq l yX12_costOf cX12_costOf 7 (some .int) 4 G Z [.ref (ad 0), .int a1, .int a2, .int a3, .int a4, .int a5] ws0 (PI G SM ad [] ws0 (fun r u => (xso SM ad u = (f_X12_costOf_1 (xso SM ad ws0) a1.toInt a2.toInt a3.toInt a4.toInt a5.toInt).1) ∧ (r.toInt = (f_X12_costOf_1 (xso SM ad ws0) a1.toInt a2.toInt a3.toInt a4.toInt a5.toInt).2) ∧ (r.toInt = 1000000000 ∨ SG ws0 a2.toInt (dirI a3.toInt a4.toInt)))) := by
  refine Mq.start (by decide) (Nat.le_of_ble_eq_true rfl) ?_
  intro p e s m below meth c A ls C0 hZ h hl
  have hl : lv_has ls 7 [(0, .ref (ad 0)), (1, .int a1), (2, .int a2), (3, .int a3), (4, .int a4), (5, .int a5)] := hl
  have h : Wt G SM ad A s s.heap [] ws0 := ⟨h, hT⟩
  obtain ⟨args, hargs⟩ : ∃ z, z = ([.ref (ad 0), .int a1, .int a2, .int a3, .int a4, .int a5] : List Value).toArray := ⟨_, rfl⟩
  rw [← hargs] at C0 ⊢
  have C0 : Cx p s m args meth c RX12 cX12_costOf 7 (some .int) := C0
  obtain ⟨Q, hQ⟩ : ∃ z, z = MQ below ((PI G SM ad [] ws0 (fun r u => (xso SM ad u = (f_X12_costOf_1 (xso SM ad ws0) a1.toInt a2.toInt a3.toInt a4.toInt a5.toInt).1) ∧ (r.toInt = (f_X12_costOf_1 (xso SM ad ws0) a1.toInt a2.toInt a3.toInt a4.toInt a5.toInt).2) ∧ (r.toInt = 1000000000 ∨ SG ws0 a2.toInt (dirI a3.toInt a4.toInt)))) A) args s 0 0 A := ⟨_, rfl⟩
  rw [← hQ]
  obtain ⟨FT, hFT⟩ : ∃ z, z = f_X12_costOf_1 (xso SM ad ws0) a1.toInt a2.toInt a3.toInt a4.toInt a5.toInt := ⟨_, rfl⟩
  have HE : FT = f_X12_costOf_1 (xso SM ad ws0) a1.toInt a2.toInt a3.toInt a4.toInt a5.toInt := hFT
  refine lv_iload_n C0.1 C0.2.1 dX12_costOf_0 rfl (lv_at hl 3 rfl) ?_
  refine lv_iload C0.1 C0.2.1 dX12_costOf_1 (lv_at hl 4 rfl) ?_
  refine y_ci h (y_rS (As := [.int a3, .int a4]) (rest := []) C0 hZ h (c_X12_directionBy l G Z ad _ h.2 a3 a4 (o36_69 l3 u3) (o36_70 l3 u3) (o36_69 l4 u4) (o36_70 l4 u4)) k_X12_directionBy q_1761 q_1760 hl.1 rfl rfl (Nat.le_of_ble_eq_true rfl) dX12_costOf_3 ⟨Nat.le_of_ble_eq_true rfl, Nat.le_of_ble_eq_true rfl⟩ ⟨Nat.le_of_ble_eq_true rfl, Nat.le_of_ble_eq_true rfl⟩) (fun r_4 H locs ws_1 h u_2 p_3 => ?_)
  obtain ⟨e_5, e_6, e_7, e_8, e_9⟩ := p_3
  replace HE : FT = g1c_X12_costOf_1 (xso SM ad ws_1) r_4.toInt a1.toInt a2.toInt a4.toInt a5.toInt := HE.trans (by rw [e_5, e_6]; rfl)
  refine lv_istore (lv' := [(6, .int r_4), (0, .ref (ad 0)), (1, .int a1), (2, .int a2), (3, .int a3), (4, .int a4), (5, .int a5)]) C0.1 C0.2.1 dX12_costOf_6 hl (by decide) rfl (fun ls hl => ?_)
  refine lv_aload_n C0.1 C0.2.1 dX12_costOf_8 rfl (lv_at hl 1 rfl) ?_
  refine lv_iload_n C0.1 C0.2.1 dX12_costOf_9 rfl (lv_at hl 3 rfl) ?_
  refine lv_iload C0.1 C0.2.1 dX12_costOf_10 (lv_at hl 0 rfl) ?_
  refine y_ci h (y_rV (As := [.int a2, .int r_4]) (rest := []) C0 hZ h (c_X12_streetFrom l G Z ad _ h.2 a2 r_4 (o36_71 l2 u2) (o36_72 l2 u2) (o36_69 e_7 e_8) (o36_70 e_7 e_8) (Laid.pa hLd (Pa.fr u_2 (by decide)))) k_X12_streetFrom q_1713 q_80 q_1711 kSM_0 rfl rfl rfl hl.1 rfl rfl (Nat.le_of_ble_eq_true rfl) dX12_costOf_12 ⟨Nat.le_of_ble_eq_true rfl, Nat.le_of_ble_eq_true rfl⟩ ⟨Nat.le_of_ble_eq_true rfl, Nat.le_of_ble_eq_true rfl⟩) (fun r_13 H locs ws_10 h u_11 p_12 => ?_)
  obtain ⟨e_14, e_15, e_16, e_17, e_18⟩ := p_12
  replace HE : FT = g2c_X12_costOf_1 (xso SM ad ws_10) r_13.toInt a1.toInt a2.toInt a4.toInt a5.toInt r_4.toInt := HE.trans (by rw [e_14, e_15]; rfl)
  refine y_c1 (n := (-1)) C0 (by decide) dX12_costOf_15 (fun v_19 e_20 => ?_)
  replace HE : FT = g3b_X12_costOf_1 (xso SM ad ws_10) r_13.toInt a1.toInt a2.toInt a4.toInt a5.toInt r_4.toInt := HE.trans rfl
  refine y_icmp_eq (tgt := 44) C0 dX12_costOf_16 (by decide) (fun c_21 => ?_) (fun c_21 => ?_)
  · -- 16
    replace HE : FT = g4_X12_costOf_1 (xso SM ad ws_10) := HE.trans (if_pos (o36_74 e_16 e_17 e_20 c_21))
    refine y_c5 (n := 1000000000) C0 q_1887 (by decide) dX12_costOf_44 (fun v_22 e_23 => ?_)
    replace HE : FT = ((xso SM ad ws_10), v_22.toInt) := HE.trans (by rw [e_23]; rfl)
    rw [hQ]
    exact y_iret C0 h (Fr.tr u_2 u_11) ⟨(congrArg Prod.fst (HE.symm.trans hFT)), (congrArg Prod.snd (HE.symm.trans hFT)), (Or.inl (o36_79 e_23))⟩ dX12_costOf_47
  · -- 16
    replace HE : FT = g5_X12_costOf_1 (xso SM ad ws_10) a1.toInt a2.toInt a4.toInt a5.toInt r_4.toInt := HE.trans (if_neg (o36_75 e_16 e_17 e_20 c_21))
    refine lv_iload C0.1 C0.2.1 dX12_costOf_19 (lv_at hl 5 rfl) ?_
    refine y_c1 (n := 1) C0 (by decide) dX12_costOf_21 (fun v_24 e_25 => ?_)
    replace HE : FT = g6b_X12_costOf_1 (xso SM ad ws_10) a4.toInt a1.toInt a2.toInt a5.toInt r_4.toInt := HE.trans rfl
    refine y_icmp_le (tgt := 48) C0 dX12_costOf_22 (by decide) (fun c_26 => ?_) (fun c_26 => ?_)
    · -- 22
      replace HE : FT = g7_X12_costOf_1 (xso SM ad ws_10) a1.toInt a2.toInt a4.toInt a5.toInt r_4.toInt := HE.trans (if_neg (o36_81 l4 u4 e_25 c_26))
      refine lv_iload C0.1 C0.2.1 dX12_costOf_48 (lv_at hl 5 rfl) ?_
      refine y_c1 (n := 2) C0 (by decide) dX12_costOf_50 (fun v_27 e_28 => ?_)
      refine y_icmp_lt (tgt := 68) C0 dX12_costOf_51 (by decide) (fun c_29 => ?_) (fun c_29 => ((o36_83 l4 u4 e_25 c_26 e_28 c_29)).elim)
      refine y_c1 (n := 0) C0 (by decide) dX12_costOf_68 (fun v_30 e_31 => ?_)
      replace HE : FT = ((xso SM ad ws_10), v_30.toInt) := HE.trans (by rw [e_31]; rfl)
      rw [hQ]
      exact y_iret C0 h (Fr.tr u_2 u_11) ⟨(congrArg Prod.fst (HE.symm.trans hFT)), (congrArg Prod.snd (HE.symm.trans hFT)), (Or.inr (sg_of (o36_72 l2 u2) (Pw.sy (Pw.fr u_2 (by decide))) e_9 e_18 (o36_86 e_16 e_17 e_20 c_21)))⟩ dX12_costOf_69
    · -- 22
      replace HE : FT = g8_X12_costOf_1 (xso SM ad ws_10) a1.toInt a2.toInt a4.toInt a5.toInt r_4.toInt := HE.trans (if_pos (o36_82 l4 u4 e_25 c_26))
      refine lv_aload_n C0.1 C0.2.1 dX12_costOf_25 rfl (lv_at hl 1 rfl) ?_
      refine ng_X12_mays C0 h kSM_0 q_1462 dX12_costOf_26 ?_
      refine y_c2 (n := 100) C0 (by decide) dX12_costOf_29 (fun v_32 e_33 => ?_)
      refine lv_iload_n C0.1 C0.2.1 dX12_costOf_31 rfl (lv_at hl 2 rfl) ?_
      refine y_cmul (n := 100) C0 (o36_28 e_33) (o36_87 l1 u1 (le_min a1) (le_max a1)) (o36_88 l1 u1 (le_min a1) (le_max a1)) dX12_costOf_32 (fun v_34 e_35 => ?_)
      refine y_c1 (n := 4) C0 (by decide) dX12_costOf_33 (fun v_36 e_37 => ?_)
      refine lv_iload_n C0.1 C0.2.1 dX12_costOf_34 rfl (lv_at hl 3 rfl) ?_
      refine y_cmul (n := 4) C0 (o36_20 e_37) (o36_89 l2 u2 (le_min a2) (le_max a2)) (o36_90 l2 u2 (le_min a2) (le_max a2)) dX12_costOf_35 (fun v_38 e_39 => ?_)
      refine y_add C0 (o36_91 l1 u1 l2 u2 e_35 e_39 (le_min v_34) (le_max v_34) (le_min v_38) (le_max v_38) (le_min a1) (le_max a1) (le_min a2) (le_max a2)) (o36_92 l1 u1 l2 u2 e_35 e_39 (le_min v_34) (le_max v_34) (le_min v_38) (le_max v_38) (le_min a1) (le_max a1) (le_min a2) (le_max a2)) dX12_costOf_36 (fun v_40 e_41 => ?_)
      refine lv_iload C0.1 C0.2.1 dX12_costOf_37 (lv_at hl 0 rfl) ?_
      refine y_add C0 (o36_93 l1 u1 l2 u2 e_7 e_8 e_35 e_39 e_41 (le_min v_40) (le_max v_40) (le_min r_4) (le_max r_4) (le_min a1) (le_max a1) (le_min a2) (le_max a2) (le_min v_34) (le_max v_34) (le_min v_38) (le_max v_38)) (o36_94 l1 u1 l2 u2 e_7 e_8 e_35 e_39 e_41 (le_min v_40) (le_max v_40) (le_min r_4) (le_max r_4) (le_min a1) (le_max a1) (le_min a2) (le_max a2) (le_min v_34) (le_max v_34) (le_min v_38) (le_max v_38)) dX12_costOf_39 (fun v_42 e_43 => ?_)
      refine y_zald C0 h kSM_11 rfl (by decide) (o36_95 l1 u1 l2 u2 e_7 e_8 e_35 e_39 e_41 e_43) (o36_96 l1 u1 l2 u2 e_7 e_8 e_35 e_39 e_41 e_43) dX12_costOf_40 (fun v_44 e_45 e_46 e_47 => ?_)
      replace HE : FT = g9b_X12_costOf_1 (xso SM ad ws_10) v_44.toInt a1.toInt a2.toInt a4.toInt a5.toInt r_4.toInt := HE.trans (by rw [(xg1 e_45 : v_44.toInt = (xso SM ad ws_10) 1 11 v_42.toInt.toNat), e_43, e_41, e_39, e_35]; rfl)
      refine y_if_ne (tgt := 48) C0 dX12_costOf_41 (by decide) (fun c_48 => ?_) (fun c_48 => ?_)
      · -- 41
        replace HE : FT = g10_X12_costOf_1 (xso SM ad ws_10) a1.toInt a2.toInt a4.toInt a5.toInt r_4.toInt := HE.trans (if_neg c_48)
        refine lv_iload C0.1 C0.2.1 dX12_costOf_48 (lv_at hl 5 rfl) ?_
        refine y_c1 (n := 2) C0 (by decide) dX12_costOf_50 (fun v_49 e_50 => ?_)
        refine y_icmp_lt (tgt := 68) C0 dX12_costOf_51 (by decide) (fun c_51 => ((o36_97 l4 u4 e_25 c_26 e_50 c_51)).elim) (fun c_51 => ?_)
        refine lv_aload_n C0.1 C0.2.1 dX12_costOf_54 rfl (lv_at hl 1 rfl) ?_
        refine ng_X12_frees C0 h kSM_0 q_1463 dX12_costOf_55 ?_
        refine y_c2 (n := 25) C0 (by decide) dX12_costOf_58 (fun v_52 e_53 => ?_)
        refine lv_iload_n C0.1 C0.2.1 dX12_costOf_60 rfl (lv_at hl 2 rfl) ?_
        refine y_cmul (n := 25) C0 (o36_8 e_53) (o36_98 l1 u1 l2 u2 e_7 e_8 e_35 e_39 e_41 e_43 (le_min a1) (le_max a1) (le_min a2) (le_max a2) (le_min r_4) (le_max r_4) (le_min v_34) (le_max v_34) (le_min v_38) (le_max v_38) (le_min v_40) (le_max v_40) (le_min v_42) (le_max v_42)) (o36_99 l1 u1 l2 u2 e_7 e_8 e_35 e_39 e_41 e_43 (le_min a1) (le_max a1) (le_min a2) (le_max a2) (le_min r_4) (le_max r_4) (le_min v_34) (le_max v_34) (le_min v_38) (le_max v_38) (le_min v_40) (le_max v_40) (le_min v_42) (le_max v_42)) dX12_costOf_61 (fun v_54 e_55 => ?_)
        refine lv_iload_n C0.1 C0.2.1 dX12_costOf_62 rfl (lv_at hl 3 rfl) ?_
        refine y_add C0 (o36_100 l1 u1 l2 u2 e_7 e_8 e_35 e_39 e_41 e_43 e_55 (le_min v_54) (le_max v_54) (le_min a2) (le_max a2) (le_min a1) (le_max a1) (le_min r_4) (le_max r_4) (le_min v_34) (le_max v_34) (le_min v_38) (le_max v_38) (le_min v_40) (le_max v_40) (le_min v_42) (le_max v_42)) (o36_101 l1 u1 l2 u2 e_7 e_8 e_35 e_39 e_41 e_43 e_55 (le_min v_54) (le_max v_54) (le_min a2) (le_max a2) (le_min a1) (le_max a1) (le_min r_4) (le_max r_4) (le_min v_34) (le_max v_34) (le_min v_38) (le_max v_38) (le_min v_40) (le_max v_40) (le_min v_42) (le_max v_42)) dX12_costOf_63 (fun v_56 e_57 => ?_)
        refine y_zald C0 h kSM_12 rfl (by decide) (o36_102 l1 u1 l2 u2 e_7 e_8 e_35 e_39 e_41 e_43 e_55 e_57) (o36_103 l1 u1 l2 u2 e_7 e_8 e_35 e_39 e_41 e_43 e_55 e_57) dX12_costOf_64 (fun v_58 e_59 e_60 e_61 => ?_)
        replace HE : FT = g12b_X12_costOf_1 (xso SM ad ws_10) v_58.toInt a1.toInt a2.toInt a4.toInt a5.toInt r_4.toInt := HE.trans (by rw [(xg1 e_59 : v_58.toInt = (xso SM ad ws_10) 1 12 v_56.toInt.toNat), e_57, e_55]; rfl)
        refine y_if_eq (tgt := 70) C0 dX12_costOf_65 (by decide) (fun c_62 => ?_) (fun c_62 => ?_)
        · -- 65
          replace HE : FT = g13_X12_costOf_1 (xso SM ad ws_10) a1.toInt a2.toInt a4.toInt a5.toInt r_4.toInt := HE.trans (if_pos c_62)
          refine lv_iload C0.1 C0.2.1 dX12_costOf_70 (lv_at hl 5 rfl) ?_
          refine y_ci h (y_rS (As := [.int a4]) (rest := []) C0 hZ h (c_X12_leftsOf l G Z ad _ h.2 a4 (o36_104 l4 u4 e_25 c_26 e_50 c_51) (o36_105 l4 u4 e_25 c_26 e_50 c_51)) k_X12_leftsOf q_1769 q_1768 hl.1 rfl rfl (Nat.le_of_ble_eq_true rfl) dX12_costOf_72 ⟨Nat.le_of_ble_eq_true rfl, Nat.le_of_ble_eq_true rfl⟩ ⟨Nat.le_of_ble_eq_true rfl, Nat.le_of_ble_eq_true rfl⟩) (fun r_66 H locs ws_63 h u_64 p_65 => ?_)
          obtain ⟨e_67, e_68, e_69, e_70, e_71⟩ := p_65
          replace HE : FT = g15c_X12_costOf_1 (xso SM ad ws_63) r_66.toInt a1.toInt a2.toInt a5.toInt r_4.toInt := HE.trans (by rw [e_67, e_68]; rfl)
          refine lv_iload C0.1 C0.2.1 dX12_costOf_75 (lv_at hl 6 rfl) ?_
          replace HE : FT = g16b_X12_costOf_1 (xso SM ad ws_63) a5.toInt r_66.toInt a1.toInt a2.toInt r_4.toInt := HE.trans rfl
          refine y_if_eq (tgt := 99) C0 dX12_costOf_77 (by decide) (fun c_72 => ?_) (fun c_72 => ?_)
          · -- 77
            replace HE : FT = g17_X12_costOf_1 (xso SM ad ws_63) r_66.toInt := HE.trans (if_pos c_72)
            refine y_c1 (n := 1) C0 (by decide) dX12_costOf_99 (fun v_73 e_74 => ?_)
            refine y_mulc (n := 1) C0 (o36_80 e_74) (o36_107 l4 u4 e_25 c_26 e_50 c_51 e_69 e_70 e_71 (le_min r_66) (le_max r_66) (le_min a4) (le_max a4) (le_min v_24) (le_max v_24) (le_min v_49) (le_max v_49)) (o36_108 l4 u4 e_25 c_26 e_50 c_51 e_69 e_70 e_71 (le_min r_66) (le_max r_66) (le_min a4) (le_max a4) (le_min v_24) (le_max v_24) (le_min v_49) (le_max v_49)) dX12_costOf_100 (fun v_75 e_76 => ?_)
            replace HE : FT = ((xso SM ad ws_63), v_75.toInt) := HE.trans (by rw [e_76]; rfl)
            rw [hQ]
            exact y_iret C0 h (Fr.tr (Fr.tr u_2 u_11) u_64) ⟨(congrArg Prod.fst (HE.symm.trans hFT)), (congrArg Prod.snd (HE.symm.trans hFT)), (Or.inr (sg_of (o36_112 l1 u1 l2 u2 e_7 e_8 e_35 e_39 e_41 e_43 e_55 e_57) (Pw.sy (Pw.fr u_2 (by decide))) e_9 e_18 (o36_86 e_16 e_17 e_20 c_21)))⟩ dX12_costOf_101
          · -- 77
            replace HE : FT = g18_X12_costOf_1 (xso SM ad ws_63) r_66.toInt a1.toInt a2.toInt r_4.toInt := HE.trans (if_neg c_72)
            refine lv_aload_n C0.1 C0.2.1 dX12_costOf_80 rfl (lv_at hl 1 rfl) ?_
            refine ng_X12_prices C0 h kSM_0 q_1461 dX12_costOf_81 ?_
            refine y_c2 (n := 100) C0 (by decide) dX12_costOf_84 (fun v_77 e_78 => ?_)
            refine lv_iload_n C0.1 C0.2.1 dX12_costOf_86 rfl (lv_at hl 2 rfl) ?_
            refine y_cmul (n := 100) C0 (o36_28 e_78) (o36_113 l1 u1 l2 u2 e_7 e_8 e_35 e_39 e_41 e_43 e_55 e_57 (le_min a1) (le_max a1) (le_min a2) (le_max a2) (le_min r_4) (le_max r_4) (le_min v_34) (le_max v_34) (le_min v_38) (le_max v_38) (le_min v_40) (le_max v_40) (le_min v_42) (le_max v_42) (le_min v_54) (le_max v_54) (le_min v_56) (le_max v_56)) (o36_114 l1 u1 l2 u2 e_7 e_8 e_35 e_39 e_41 e_43 e_55 e_57 (le_min a1) (le_max a1) (le_min a2) (le_max a2) (le_min r_4) (le_max r_4) (le_min v_34) (le_max v_34) (le_min v_38) (le_max v_38) (le_min v_40) (le_max v_40) (le_min v_42) (le_max v_42) (le_min v_54) (le_max v_54) (le_min v_56) (le_max v_56)) dX12_costOf_87 (fun v_79 e_80 => ?_)
            refine y_c1 (n := 4) C0 (by decide) dX12_costOf_88 (fun v_81 e_82 => ?_)
            refine lv_iload_n C0.1 C0.2.1 dX12_costOf_89 rfl (lv_at hl 3 rfl) ?_
            refine y_cmul (n := 4) C0 (o36_20 e_82) (o36_115 l1 u1 l2 u2 e_7 e_8 e_35 e_39 e_41 e_43 e_55 e_57 e_80 (le_min a2) (le_max a2) (le_min a1) (le_max a1) (le_min r_4) (le_max r_4) (le_min v_34) (le_max v_34) (le_min v_38) (le_max v_38) (le_min v_40) (le_max v_40) (le_min v_42) (le_max v_42) (le_min v_54) (le_max v_54) (le_min v_56) (le_max v_56) (le_min v_79) (le_max v_79)) (o36_116 l1 u1 l2 u2 e_7 e_8 e_35 e_39 e_41 e_43 e_55 e_57 e_80 (le_min a2) (le_max a2) (le_min a1) (le_max a1) (le_min r_4) (le_max r_4) (le_min v_34) (le_max v_34) (le_min v_38) (le_max v_38) (le_min v_40) (le_max v_40) (le_min v_42) (le_max v_42) (le_min v_54) (le_max v_54) (le_min v_56) (le_max v_56) (le_min v_79) (le_max v_79)) dX12_costOf_90 (fun v_83 e_84 => ?_)
            refine y_add C0 (o36_117 l1 u1 l2 u2 e_7 e_8 e_35 e_39 e_41 e_43 e_55 e_57 e_80 e_84 (le_min v_79) (le_max v_79) (le_min v_83) (le_max v_83) (le_min a1) (le_max a1) (le_min a2) (le_max a2) (le_min r_4) (le_max r_4) (le_min v_34) (le_max v_34) (le_min v_38) (le_max v_38) (le_min v_40) (le_max v_40) (le_min v_42) (le_max v_42) (le_min v_54) (le_max v_54) (le_min v_56) (le_max v_56)) (o36_118 l1 u1 l2 u2 e_7 e_8 e_35 e_39 e_41 e_43 e_55 e_57 e_80 e_84 (le_min v_79) (le_max v_79) (le_min v_83) (le_max v_83) (le_min a1) (le_max a1) (le_min a2) (le_max a2) (le_min r_4) (le_max r_4) (le_min v_34) (le_max v_34) (le_min v_38) (le_max v_38) (le_min v_40) (le_max v_40) (le_min v_42) (le_max v_42) (le_min v_54) (le_max v_54) (le_min v_56) (le_max v_56)) dX12_costOf_91 (fun v_85 e_86 => ?_)
            refine lv_iload C0.1 C0.2.1 dX12_costOf_92 (lv_at hl 0 rfl) ?_
            refine y_add C0 (o36_119 l1 u1 l2 u2 e_7 e_8 e_35 e_39 e_41 e_43 e_55 e_57 e_80 e_84 e_86 (le_min v_85) (le_max v_85) (le_min r_4) (le_max r_4) (le_min a1) (le_max a1) (le_min a2) (le_max a2) (le_min v_34) (le_max v_34) (le_min v_38) (le_max v_38) (le_min v_40) (le_max v_40) (le_min v_42) (le_max v_42) (le_min v_54) (le_max v_54) (le_min v_56) (le_max v_56) (le_min v_79) (le_max v_79) (le_min v_83) (le_max v_83)) (o36_120 l1 u1 l2 u2 e_7 e_8 e_35 e_39 e_41 e_43 e_55 e_57 e_80 e_84 e_86 (le_min v_85) (le_max v_85) (le_min r_4) (le_max r_4) (le_min a1) (le_max a1) (le_min a2) (le_max a2) (le_min v_34) (le_max v_34) (le_min v_38) (le_max v_38) (le_min v_40) (le_max v_40) (le_min v_42) (le_max v_42) (le_min v_54) (le_max v_54) (le_min v_56) (le_max v_56) (le_min v_79) (le_max v_79) (le_min v_83) (le_max v_83)) dX12_costOf_94 (fun v_87 e_88 => ?_)
            refine y_iald C0 h kSM_10 rfl (by decide) (o36_121 l1 u1 l2 u2 e_7 e_8 e_35 e_39 e_41 e_43 e_55 e_57 e_80 e_84 e_86 e_88) (o36_122 l1 u1 l2 u2 e_7 e_8 e_35 e_39 e_41 e_43 e_55 e_57 e_80 e_84 e_86 e_88) dX12_costOf_95 (fun v_89 e_90 e_91 e_92 => ?_)
            refine lv_goto (tgt := 100) C0.1 C0.2.1 dX12_costOf_96 (by decide) ?_
            refine xr_imul C0 dX12_costOf_100 (fun v_93 e_94 => ?_)
            replace HE : FT = ((xso SM ad ws_63), v_93.toInt) := HE.trans (by rw [e_94, (xg1 e_90 : v_89.toInt = (xso SM ad ws_63) 1 10 v_87.toInt.toNat), e_88, e_86, e_84, e_80]; rfl)
            rw [hQ]
            exact y_iret C0 h (Fr.tr (Fr.tr u_2 u_11) u_64) ⟨(congrArg Prod.fst (HE.symm.trans hFT)), (congrArg Prod.snd (HE.symm.trans hFT)), (Or.inr (sg_of (o36_123 l1 u1 l2 u2 e_7 e_8 e_35 e_39 e_41 e_43 e_55 e_57 e_80 e_84 e_86 e_88) (Pw.sy (Pw.fr u_2 (by decide))) e_9 e_18 (o36_86 e_16 e_17 e_20 c_21)))⟩ dX12_costOf_101
        · -- 65
          replace HE : FT = g14_X12_costOf_1 (xso SM ad ws_10) := HE.trans (if_neg c_62)
          refine y_c1 (n := 0) C0 (by decide) dX12_costOf_68 (fun v_95 e_96 => ?_)
          replace HE : FT = ((xso SM ad ws_10), v_95.toInt) := HE.trans (by rw [e_96]; rfl)
          rw [hQ]
          exact y_iret C0 h (Fr.tr u_2 u_11) ⟨(congrArg Prod.fst (HE.symm.trans hFT)), (congrArg Prod.snd (HE.symm.trans hFT)), (Or.inr (sg_of (o36_112 l1 u1 l2 u2 e_7 e_8 e_35 e_39 e_41 e_43 e_55 e_57) (Pw.sy (Pw.fr u_2 (by decide))) e_9 e_18 (o36_86 e_16 e_17 e_20 c_21)))⟩ dX12_costOf_69
      · -- 41
        replace HE : FT = g11_X12_costOf_1 (xso SM ad ws_10) := HE.trans (if_pos c_48)
        refine y_c5 (n := 1000000000) C0 q_1887 (by decide) dX12_costOf_44 (fun v_97 e_98 => ?_)
        replace HE : FT = ((xso SM ad ws_10), v_97.toInt) := HE.trans (by rw [e_98]; rfl)
        rw [hQ]
        exact y_iret C0 h (Fr.tr u_2 u_11) ⟨(congrArg Prod.fst (HE.symm.trans hFT)), (congrArg Prod.snd (HE.symm.trans hFT)), (Or.inl (o36_79 e_98))⟩ dX12_costOf_47
noncomputable def g10_X12_laysSofar (s : XS) : XR := (s, 0)
noncomputable def g16_X12_laysSofar (R44 : XS → Int → Int → Int → XR) (s : XS) (a3 : Int) (a4 : Int) (x5_34 : Int) : XR := R44 s a3 a4 ((x5_34 + 1))
noncomputable def g24_X12_laysSofar (R44 : XS → Int → Int → Int → XR) (R53 : XS → Int → Int → Int → Int → XR) (s : XS) (a3 : Int) (a4 : Int) (x5_34 : Int) (x6_46 : Int) : XR := R53 s a3 a4 x5_34 ((x6_46 + 1))
noncomputable def g33w_X12_laysSofar (R44 : XS → Int → Int → Int → XR) (R53 : XS → Int → Int → Int → Int → XR) (R89 : XS → Int → Int → Int → Int → Int → XR) (s : XS) (a3 : Int) (a4 : Int) (x5_34 : Int) (x6_46 : Int) (x7_86 : Int) : XR := R89 s a3 a4 x5_34 x6_46 ((x7_86 + 1))
noncomputable def g32c_X12_laysSofar (R44 : XS → Int → Int → Int → XR) (R53 : XS → Int → Int → Int → Int → XR) (R89 : XS → Int → Int → Int → Int → Int → XR) (s : XS) (r_180 : Int) (v_159 : Int) (a3 : Int) (a4 : Int) (x5_34 : Int) (x6_46 : Int) (x7_86 : Int) : XR := g33w_X12_laysSofar R44 R53 R89 (xup s 1 8 (Int.toNat v_159) (r_180)) a3 a4 x5_34 x6_46 x7_86
noncomputable def g31c_X12_laysSofar (R44 : XS → Int → Int → Int → XR) (R53 : XS → Int → Int → Int → Int → XR) (R89 : XS → Int → Int → Int → Int → Int → XR) (s : XS) (r_148 : Int) (v_137 : Int) (a3 : Int) (a4 : Int) (x5_34 : Int) (x6_46 : Int) (x7_86 : Int) (r_111 : Int) (r_125 : Int) : XR := g32c_X12_laysSofar R44 R53 R89 ((f_X12_lesser s (s 1 8 (Int.toNat ((v_137 + (4 * r_148)) + r_125))) (Xiadd (s 1 8 (Int.toNat ((100 * x5_34) + x6_46))) r_111)).1) (((f_X12_lesser s (s 1 8 (Int.toNat ((v_137 + (4 * r_148)) + r_125))) (Xiadd (s 1 8 (Int.toNat ((100 * x5_34) + x6_46))) r_111)).2)) (((v_137 + (4 * r_148)) + r_125)) a3 a4 x5_34 x6_46 x7_86
noncomputable def g30c_X12_laysSofar (R44 : XS → Int → Int → Int → XR) (R53 : XS → Int → Int → Int → Int → XR) (R89 : XS → Int → Int → Int → Int → Int → XR) (s : XS) (r_125 : Int) (a3 : Int) (a4 : Int) (x5_34 : Int) (x6_46 : Int) (x7_86 : Int) (r_111 : Int) : XR := g31c_X12_laysSofar R44 R53 R89 ((f_X12_streetFrom s (x6_46 / 4) r_125).1) (((f_X12_streetFrom s (x6_46 / 4) r_125).2)) ((100 * (x5_34 + 1))) a3 a4 x5_34 x6_46 x7_86 r_111 r_125
noncomputable def g28_X12_laysSofar (R44 : XS → Int → Int → Int → XR) (R53 : XS → Int → Int → Int → Int → XR) (R89 : XS → Int → Int → Int → Int → Int → XR) (s : XS) (a3 : Int) (a4 : Int) (x5_34 : Int) (x6_46 : Int) (x7_86 : Int) (r_111 : Int) : XR := g30c_X12_laysSofar R44 R53 R89 ((f_X12_directionBy s (x6_46 % 4) x7_86).1) (((f_X12_directionBy s (x6_46 % 4) x7_86).2)) a3 a4 x5_34 x6_46 x7_86 r_111
noncomputable def g29_X12_laysSofar (R44 : XS → Int → Int → Int → XR) (R53 : XS → Int → Int → Int → Int → XR) (R89 : XS → Int → Int → Int → Int → Int → XR) (s : XS) (a3 : Int) (a4 : Int) (x5_34 : Int) (x6_46 : Int) (x7_86 : Int) : XR := R89 s a3 a4 x5_34 x6_46 ((x7_86 + 1))
noncomputable def g27b_X12_laysSofar (R44 : XS → Int → Int → Int → XR) (R53 : XS → Int → Int → Int → Int → XR) (R89 : XS → Int → Int → Int → Int → Int → XR) (s : XS) (r_111 : Int) (a3 : Int) (a4 : Int) (x5_34 : Int) (x6_46 : Int) (x7_86 : Int) : XR := if r_111 = 1000000000 then g29_X12_laysSofar R44 R53 R89 s a3 a4 x5_34 x6_46 x7_86 else g28_X12_laysSofar R44 R53 R89 s a3 a4 x5_34 x6_46 x7_86 r_111
noncomputable def g26c_X12_laysSofar (R44 : XS → Int → Int → Int → XR) (R53 : XS → Int → Int → Int → Int → XR) (R89 : XS → Int → Int → Int → Int → Int → XR) (s : XS) (r_111 : Int) (a3 : Int) (a4 : Int) (x5_34 : Int) (x6_46 : Int) (x7_86 : Int) : XR := g27b_X12_laysSofar R44 R53 R89 s r_111 a3 a4 x5_34 x6_46 x7_86
noncomputable def g25_X12_laysSofar (R44 : XS → Int → Int → Int → XR) (R53 : XS → Int → Int → Int → Int → XR) (R89 : XS → Int → Int → Int → Int → Int → XR) (s : XS) (a3 : Int) (a4 : Int) (x5_34 : Int) (x6_46 : Int) (x7_86 : Int) : XR := g26c_X12_laysSofar R44 R53 R89 ((f_X12_costOf_1 s x5_34 (x6_46 / 4) (x6_46 % 4) x7_86 a4).1) (((f_X12_costOf_1 s x5_34 (x6_46 / 4) (x6_46 % 4) x7_86 a4).2)) a3 a4 x5_34 x6_46 x7_86
noncomputable def g23b_X12_laysSofar (R44 : XS → Int → Int → Int → XR) (R53 : XS → Int → Int → Int → Int → XR) (R89 : XS → Int → Int → Int → Int → Int → XR) (s : XS) (x7_86 : Int) (a3 : Int) (a4 : Int) (x5_34 : Int) (x6_46 : Int) : XR := if x7_86 < 4 then g25_X12_laysSofar R44 R53 R89 s a3 a4 x5_34 x6_46 x7_86 else g24_X12_laysSofar R44 R53 s a3 a4 x5_34 x6_46
noncomputable def g22l_X12_laysSofar (R44 : XS → Int → Int → Int → XR) (R53 : XS → Int → Int → Int → Int → XR) (R89 : XS → Int → Int → Int → Int → Int → XR) (s : XS) (a3 : Int) (a4 : Int) (x5_34 : Int) (x6_46 : Int) (x7_86 : Int) : XR := g23b_X12_laysSofar R44 R53 R89 s x7_86 a3 a4 x5_34 x6_46
noncomputable def L21_X12_laysSofar (R44 : XS → Int → Int → Int → XR) (R53 : XS → Int → Int → Int → Int → XR) (n : Nat) : XS → Int → Int → Int → Int → Int → XR := Nat.rec (motive := fun _ => XS → Int → Int → Int → Int → Int → XR) (fun s _ _ _ _ _ => (s, 0)) (fun _ R89 => g22l_X12_laysSofar R44 R53 R89) n
noncomputable def g19_X12_laysSofar (R44 : XS → Int → Int → Int → XR) (R53 : XS → Int → Int → Int → Int → XR) (s : XS) (a3 : Int) (a4 : Int) (x5_34 : Int) (x6_46 : Int) : XR := L21_X12_laysSofar R44 R53 (Int.toNat (4 - 0 + 1)) s a3 a4 x5_34 x6_46 0
noncomputable def g20_X12_laysSofar (R44 : XS → Int → Int → Int → XR) (R53 : XS → Int → Int → Int → Int → XR) (s : XS) (a3 : Int) (a4 : Int) (x5_34 : Int) (x6_46 : Int) : XR := R53 s a3 a4 x5_34 ((x6_46 + 1))
noncomputable def g18b_X12_laysSofar (R44 : XS → Int → Int → Int → XR) (R53 : XS → Int → Int → Int → Int → XR) (s : XS) (v_77 : Int) (a3 : Int) (a4 : Int) (x5_34 : Int) (x6_46 : Int) : XR := if v_77 = 1000000000 then g20_X12_laysSofar R44 R53 s a3 a4 x5_34 x6_46 else g19_X12_laysSofar R44 R53 s a3 a4 x5_34 x6_46
noncomputable def g17_X12_laysSofar (R44 : XS → Int → Int → Int → XR) (R53 : XS → Int → Int → Int → Int → XR) (s : XS) (a3 : Int) (a4 : Int) (x5_34 : Int) (x6_46 : Int) : XR := g18b_X12_laysSofar R44 R53 s ((s 1 8 (Int.toNat ((100 * x5_34) + x6_46)))) a3 a4 x5_34 x6_46
noncomputable def g15b_X12_laysSofar (R44 : XS → Int → Int → Int → XR) (R53 : XS → Int → Int → Int → Int → XR) (s : XS) (v_66 : Int) (x6_46 : Int) (a3 : Int) (a4 : Int) (x5_34 : Int) : XR := if x6_46 < v_66 then g17_X12_laysSofar R44 R53 s a3 a4 x5_34 x6_46 else g16_X12_laysSofar R44 s a3 a4 x5_34
noncomputable def g14c_X12_laysSofar (R44 : XS → Int → Int → Int → XR) (R53 : XS → Int → Int → Int → Int → XR) (s : XS) (r_60 : Int) (x6_46 : Int) (a3 : Int) (a4 : Int) (x5_34 : Int) : XR := g15b_X12_laysSofar R44 R53 s ((4 * r_60)) x6_46 a3 a4 x5_34
noncomputable def g13l_X12_laysSofar (R44 : XS → Int → Int → Int → XR) (R53 : XS → Int → Int → Int → Int → XR) (s : XS) (a3 : Int) (a4 : Int) (x5_34 : Int) (x6_46 : Int) : XR := g14c_X12_laysSofar R44 R53 ((f_X12_crossings s).1) (((f_X12_crossings s).2)) x6_46 a3 a4 x5_34
noncomputable def L12_X12_laysSofar (R44 : XS → Int → Int → Int → XR) (n : Nat) : XS → Int → Int → Int → Int → XR := Nat.rec (motive := fun _ => XS → Int → Int → Int → Int → XR) (fun s _ _ _ _ => (s, 0)) (fun _ R53 => g13l_X12_laysSofar R44 R53) n
noncomputable def g11_X12_laysSofar (R44 : XS → Int → Int → Int → XR) (s : XS) (a3 : Int) (a4 : Int) (x5_34 : Int) : XR := L12_X12_laysSofar R44 (Int.toNat (100 - 0 + 1)) s a3 a4 x5_34 0
noncomputable def g9b_X12_laysSofar (R44 : XS → Int → Int → Int → XR) (s : XS) (a3 : Int) (x5_34 : Int) (a4 : Int) : XR := if x5_34 < a3 then g11_X12_laysSofar R44 s a3 a4 x5_34 else g10_X12_laysSofar s
noncomputable def g8l_X12_laysSofar (R44 : XS → Int → Int → Int → XR) (s : XS) (a3 : Int) (a4 : Int) (x5_34 : Int) : XR := g9b_X12_laysSofar R44 s a3 x5_34 a4
noncomputable def L7_X12_laysSofar (n : Nat) : XS → Int → Int → Int → XR := Nat.rec (motive := fun _ => XS → Int → Int → Int → XR) (fun s _ _ _ => (s, 0)) (fun _ R44 => g8l_X12_laysSofar R44) n
noncomputable def g6w_X12_laysSofar (s : XS) (a3 : Int) (a4 : Int) : XR := L7_X12_laysSofar (Int.toNat (60 - 0 + 1)) s a3 a4 0
noncomputable def g4_X12_laysSofar (s : XS) (a1 : Int) (a2 : Int) (a3 : Int) (a4 : Int) : XR := g6w_X12_laysSofar (xup s 1 8 (Int.toNat ((4 * a1) + a2)) (0)) a3 a4
noncomputable def g34w_X12_laysSofar (R3 : XS → Int → Int → Int → Int → Int → XR) (s : XS) (a1 : Int) (a2 : Int) (a3 : Int) (a4 : Int) (x5_3 : Int) : XR := R3 s a1 a2 a3 a4 ((x5_3 + 1))
noncomputable def g5_X12_laysSofar (R3 : XS → Int → Int → Int → Int → Int → XR) (s : XS) (a1 : Int) (a2 : Int) (a3 : Int) (a4 : Int) (x5_3 : Int) : XR := g34w_X12_laysSofar R3 (xup s 1 8 (Int.toNat x5_3) (1000000000)) a1 a2 a3 a4 x5_3
noncomputable def g3b_X12_laysSofar (R3 : XS → Int → Int → Int → Int → Int → XR) (s : XS) (v_18 : Int) (x5_3 : Int) (a1 : Int) (a2 : Int) (a3 : Int) (a4 : Int) : XR := if x5_3 < v_18 then g5_X12_laysSofar R3 s a1 a2 a3 a4 x5_3 else g4_X12_laysSofar s a1 a2 a3 a4
noncomputable def g2l_X12_laysSofar (R3 : XS → Int → Int → Int → Int → Int → XR) (s : XS) (a1 : Int) (a2 : Int) (a3 : Int) (a4 : Int) (x5_3 : Int) : XR := g3b_X12_laysSofar R3 s ((100 * (a3 + 1))) x5_3 a1 a2 a3 a4
noncomputable def L1_X12_laysSofar (n : Nat) : XS → Int → Int → Int → Int → Int → XR := Nat.rec (motive := fun _ => XS → Int → Int → Int → Int → Int → XR) (fun s _ _ _ _ _ => (s, 0)) (fun _ R3 => g2l_X12_laysSofar R3) n
noncomputable def f_X12_laysSofar (s : XS) (a1 : Int) (a2 : Int) (a3 : Int) (a4 : Int) : XR := L1_X12_laysSofar (Int.toNat (6100 - 0 + 1)) s a1 a2 a3 a4 0
set_option maxHeartbeats 4000000 in
set_option maxRecDepth 100000 in
theorem c_X12_laysSofar (l : Launch) (G : GG) (Z : RZ) (ad : Nat → Nat) (ws0 : va_W) (hT : Ty G SM ad ws0) (a1 : Int32) (a2 : Int32) (a3 : Int32) (a4 : Int32) (l1 : 0 ≤ a1.toInt) (u1 : a1.toInt ≤ 24) (l2 : 0 ≤ a2.toInt) (u2 : a2.toInt ≤ 3) (l3 : 0 ≤ a3.toInt) (u3 : a3.toInt ≤ 60) (l4 : 0 ≤ a4.toInt) (u4 : a4.toInt ≤ 1) (hLd : Laid ws0) : Mq l yX12_laysSofar cX12_laysSofar 11 none 5 G Z [.ref (ad 0), .int a1, .int a2, .int a3, .int a4] ws0 (PV G SM ad [8] ws0 (fun u => (xso SM ad u = (f_X12_laysSofar (xso SM ad ws0) a1.toInt a2.toInt a3.toInt a4.toInt).1))) := by
  refine Mq.start (by decide) (Nat.le_of_ble_eq_true rfl) ?_
  intro p e s m below meth c A ls C0 hZ h hl
  have hl : lv_has ls 11 [(0, .ref (ad 0)), (1, .int a1), (2, .int a2), (3, .int a3), (4, .int a4)] := hl
  have h : Wt G SM ad A s s.heap [] ws0 := ⟨h, hT⟩
  obtain ⟨args, hargs⟩ : ∃ z, z = ([.ref (ad 0), .int a1, .int a2, .int a3, .int a4] : List Value).toArray := ⟨_, rfl⟩
  rw [← hargs] at C0 ⊢
  have C0 : Cx p s m args meth c RX12 cX12_laysSofar 11 none := C0
  obtain ⟨Q, hQ⟩ : ∃ z, z = MQ below ((PV G SM ad [8] ws0 (fun u => (xso SM ad u = (f_X12_laysSofar (xso SM ad ws0) a1.toInt a2.toInt a3.toInt a4.toInt).1))) A) args s 0 0 A := ⟨_, rfl⟩
  rw [← hQ]
  obtain ⟨FT, hFT⟩ : ∃ z, z = f_X12_laysSofar (xso SM ad ws0) a1.toInt a2.toInt a3.toInt a4.toInt := ⟨_, rfl⟩
  have HE : FT = f_X12_laysSofar (xso SM ad ws0) a1.toInt a2.toInt a3.toInt a4.toInt := hFT
  refine y_c1 (n := 0) C0 (by decide) dX12_laysSofar_0 (fun v_1 e_2 => ?_)
  refine lv_istore (lv' := [(5, .int v_1), (0, .ref (ad 0)), (1, .int a1), (2, .int a2), (3, .int a3), (4, .int a4)]) C0.1 C0.2.1 dX12_laysSofar_1 hl (by decide) rfl (fun ls hl => ?_)
  have lp_6 : ∀ (n_8 : Nat) (x5_3 : Int32) (H : Heap) (locs : List Loc) (ls : Array Slot) (ws_4 : va_W), 6100 - x5_3.toInt < (n_8 : Int) → 0 ≤ x5_3.toInt → x5_3.toInt ≤ 6100 → (FT = L1_X12_laysSofar n_8 (xso SM ad ws_4) a1.toInt a2.toInt a3.toInt a4.toInt x5_3.toInt) → Wt G SM ad A s H locs ws_4 → Fr SM [8] ws0 ws_4 → lv_has ls 11 [(5, .int x5_3), (0, .ref (ad 0)), (1, .int a1), (2, .int a2), (3, .int a3), (4, .int a4)] → W p l e (rmd 5 0 0) s m args below meth c H locs 0 0 Q (F0 m 3 ls []) := by
    intro n_8
    induction n_8 with
    | zero => intro x5_3 H locs ls ws_4 hn_9 b_10 b_11 HE h hF_5 hl; exact ((o36_124 b_10 b_11 hn_9)).elim
    | succ n_8 ih_7 =>
      intro x5_3 H locs ls ws_4 hn_9 b_10 b_11 HE h hF_5 hl
      obtain ⟨R3, hR3⟩ : ∃ z, z = L1_X12_laysSofar n_8 := ⟨_, rfl⟩
      replace HE : FT = g2l_X12_laysSofar R3 (xso SM ad ws_4) a1.toInt a2.toInt a3.toInt a4.toInt x5_3.toInt := HE.trans (by rw [hR3]; rfl)
      refine lv_iload C0.1 C0.2.1 dX12_laysSofar_3 (lv_at hl 0 rfl) ?_
      refine y_c2 (n := 100) C0 (by decide) dX12_laysSofar_5 (fun v_12 e_13 => ?_)
      refine lv_iload_n C0.1 C0.2.1 dX12_laysSofar_7 rfl (lv_at hl 4 rfl) ?_
      refine y_c1 (n := 1) C0 (by decide) dX12_laysSofar_8 (fun v_14 e_15 => ?_)
      refine y_add C0 (o36_125 l3 u3 e_15 (le_min a3) (le_max a3) (le_min v_14) (le_max v_14)) (o36_126 l3 u3 e_15 (le_min a3) (le_max a3) (le_min v_14) (le_max v_14)) dX12_laysSofar_9 (fun v_16 e_17 => ?_)
      refine y_cmul (n := 100) C0 (o36_28 e_13) (o36_127 l3 u3 e_15 e_17 (le_min v_16) (le_max v_16) (le_min a3) (le_max a3) (le_min v_14) (le_max v_14)) (o36_128 l3 u3 e_15 e_17 (le_min v_16) (le_max v_16) (le_min a3) (le_max a3) (le_min v_14) (le_max v_14)) dX12_laysSofar_10 (fun v_18 e_19 => ?_)
      replace HE : FT = g3b_X12_laysSofar R3 (xso SM ad ws_4) v_18.toInt x5_3.toInt a1.toInt a2.toInt a3.toInt a4.toInt := HE.trans (by rw [e_19, e_17, e_15]; rfl)
      refine y_icmp_ge (tgt := 30) C0 dX12_laysSofar_11 (by decide) (fun c_20 => ?_) (fun c_20 => ?_)
      · -- 11
        replace HE : FT = g4_X12_laysSofar (xso SM ad ws_4) a1.toInt a2.toInt a3.toInt a4.toInt := HE.trans (if_neg (Int.not_lt.mpr c_20))
        refine lv_aload_n C0.1 C0.2.1 dX12_laysSofar_30 rfl (lv_at hl 1 rfl) ?_
        refine ng_X12_sofar C0 h kSM_0 q_1459 dX12_laysSofar_31 ?_
        refine y_c1 (n := 4) C0 (by decide) dX12_laysSofar_34 (fun v_21 e_22 => ?_)
        refine lv_iload_n C0.1 C0.2.1 dX12_laysSofar_35 rfl (lv_at hl 2 rfl) ?_
        refine y_cmul (n := 4) C0 (o36_20 e_22) (o36_89 l1 u1 (le_min a1) (le_max a1)) (o36_90 l1 u1 (le_min a1) (le_max a1)) dX12_laysSofar_36 (fun v_23 e_24 => ?_)
        refine lv_iload_n C0.1 C0.2.1 dX12_laysSofar_37 rfl (lv_at hl 3 rfl) ?_
        refine y_add C0 (o36_129 l1 u1 l2 u2 e_24 (le_min v_23) (le_max v_23) (le_min a2) (le_max a2) (le_min a1) (le_max a1)) (o36_130 l1 u1 l2 u2 e_24 (le_min v_23) (le_max v_23) (le_min a2) (le_max a2) (le_min a1) (le_max a1)) dX12_laysSofar_38 (fun v_25 e_26 => ?_)
        refine y_c1 (n := 0) C0 (by decide) dX12_laysSofar_39 (fun v_27 e_28 => ?_)
        have hO_31 := h.2
        refine y_iast C0 h kSM_8 rfl (by decide) (o36_131 l1 u1 l2 u2 e_24 e_26) (o36_132 l1 u1 l2 u2 e_24 e_26) (le_min v_27) (le_max v_27) dX12_laysSofar_40 (fun H locs ws_29 h u_30 => ?_)
        replace HE : FT = g6w_X12_laysSofar (xso SM ad ws_29) a3.toInt a4.toInt := HE.trans (by rw [(xso_A (i := 8) hO_31 h.2 kSM_8 rfl u_30), e_28, e_26, e_24]; rfl)
        refine y_c1 (n := 0) C0 (by decide) dX12_laysSofar_41 (fun v_32 e_33 => ?_)
        refine lv_istore (lv' := [(5, .int v_32), (0, .ref (ad 0)), (1, .int a1), (2, .int a2), (3, .int a3), (4, .int a4)]) C0.1 C0.2.1 dX12_laysSofar_42 hl (by decide) rfl (fun ls hl => ?_)
        have lp_37 : ∀ (n_39 : Nat) (x5_34 : Int32) (H : Heap) (locs : List Loc) (ls : Array Slot) (ws_35 : va_W), 60 - x5_34.toInt < (n_39 : Int) → 0 ≤ x5_34.toInt → x5_34.toInt ≤ 60 → (FT = L7_X12_laysSofar n_39 (xso SM ad ws_35) a3.toInt a4.toInt x5_34.toInt) → Wt G SM ad A s H locs ws_35 → Fr SM [8] ws_29 ws_35 → lv_has ls 11 [(5, .int x5_34), (0, .ref (ad 0)), (1, .int a1), (2, .int a2), (3, .int a3), (4, .int a4)] → W p l e (rmd 5 0 0) s m args below meth c H locs 0 0 Q (F0 m 44 ls []) := by
          intro n_39
          induction n_39 with
          | zero => intro x5_34 H locs ls ws_35 hn_40 b_41 b_42 HE h hF_36 hl; exact ((o36_133 b_41 b_42 hn_40)).elim
          | succ n_39 ih_38 =>
            intro x5_34 H locs ls ws_35 hn_40 b_41 b_42 HE h hF_36 hl
            obtain ⟨R44, hR44⟩ : ∃ z, z = L7_X12_laysSofar n_39 := ⟨_, rfl⟩
            replace HE : FT = g8l_X12_laysSofar R44 (xso SM ad ws_35) a3.toInt a4.toInt x5_34.toInt := HE.trans (by rw [hR44]; rfl)
            refine lv_iload C0.1 C0.2.1 dX12_laysSofar_44 (lv_at hl 0 rfl) ?_
            refine lv_iload_n C0.1 C0.2.1 dX12_laysSofar_46 rfl (lv_at hl 4 rfl) ?_
            replace HE : FT = g9b_X12_laysSofar R44 (xso SM ad ws_35) a3.toInt x5_34.toInt a4.toInt := HE.trans rfl
            refine y_icmp_ge (tgt := 213) C0 dX12_laysSofar_47 (by decide) (fun c_43 => ?_) (fun c_43 => ?_)
            · -- 47
              replace HE : FT = g10_X12_laysSofar (xso SM ad ws_35) := HE.trans (if_neg (Int.not_lt.mpr c_43))
              replace HE : FT = ((xso SM ad ws_35), 0) := HE.trans rfl
              rw [hQ]
              exact y_vret C0 h (Fr.tr (Fr.tr hF_5 (Fr.up u_30.1 kSM_8 (by decide))) hF_36) (congrArg Prod.fst (HE.symm.trans hFT)) dX12_laysSofar_213
            · -- 47
              replace HE : FT = g11_X12_laysSofar R44 (xso SM ad ws_35) a3.toInt a4.toInt x5_34.toInt := HE.trans (if_pos c_43)
              refine y_c1 (n := 0) C0 (by decide) dX12_laysSofar_50 (fun v_44 e_45 => ?_)
              refine lv_istore (lv' := [(6, .int v_44), (5, .int x5_34), (0, .ref (ad 0)), (1, .int a1), (2, .int a2), (3, .int a3), (4, .int a4)]) C0.1 C0.2.1 dX12_laysSofar_51 hl (by decide) rfl (fun ls hl => ?_)
              have lp_49 : ∀ (n_51 : Nat) (x6_46 : Int32) (H : Heap) (locs : List Loc) (ls : Array Slot) (ws_47 : va_W), 100 - x6_46.toInt < (n_51 : Int) → 0 ≤ x6_46.toInt → x6_46.toInt ≤ 100 → (FT = L12_X12_laysSofar R44 n_51 (xso SM ad ws_47) a3.toInt a4.toInt x5_34.toInt x6_46.toInt) → Wt G SM ad A s H locs ws_47 → Fr SM [8] ws_35 ws_47 → lv_has ls 11 [(6, .int x6_46), (5, .int x5_34), (0, .ref (ad 0)), (1, .int a1), (2, .int a2), (3, .int a3), (4, .int a4)] → W p l e (rmd 5 0 0) s m args below meth c H locs 0 0 Q (F0 m 53 ls []) := by
                intro n_51
                induction n_51 with
                | zero => intro x6_46 H locs ls ws_47 hn_52 b_53 b_54 HE h hF_48 hl; exact ((o36_134 b_53 b_54 hn_52)).elim
                | succ n_51 ih_50 =>
                  intro x6_46 H locs ls ws_47 hn_52 b_53 b_54 HE h hF_48 hl
                  obtain ⟨R53, hR53⟩ : ∃ z, z = L12_X12_laysSofar R44 n_51 := ⟨_, rfl⟩
                  replace HE : FT = g13l_X12_laysSofar R44 R53 (xso SM ad ws_47) a3.toInt a4.toInt x5_34.toInt x6_46.toInt := HE.trans (by rw [hR53]; rfl)
                  refine lv_iload C0.1 C0.2.1 dX12_laysSofar_53 (lv_at hl 0 rfl) ?_
                  refine y_c1 (n := 4) C0 (by decide) dX12_laysSofar_55 (fun v_55 e_56 => ?_)
                  refine lv_aload_n C0.1 C0.2.1 dX12_laysSofar_56 rfl (lv_at hl 2 rfl) ?_
                  refine y_ci h (y_rV (As := []) (rest := [.int v_55, .int x6_46]) C0 hZ h (c_X12_crossings l G Z ad _ h.2) k_X12_crossings q_1705 q_79 q_1703 kSM_0 rfl rfl rfl hl.1 rfl rfl (Nat.le_of_ble_eq_true rfl) dX12_laysSofar_57 ⟨Nat.le_of_ble_eq_true rfl, Nat.le_of_ble_eq_true rfl⟩ ⟨Nat.le_of_ble_eq_true rfl, Nat.le_of_ble_eq_true rfl⟩) (fun r_60 H locs ws_57 h u_58 p_59 => ?_)
                  obtain ⟨e_61, e_62, e_63, e_64, e_65⟩ := p_59
                  replace HE : FT = g14c_X12_laysSofar R44 R53 (xso SM ad ws_57) r_60.toInt x6_46.toInt a3.toInt a4.toInt x5_34.toInt := HE.trans (by rw [e_61, e_62]; rfl)
                  refine y_cmul (n := 4) C0 (o36_20 e_56) (o36_135 e_63 e_64 (le_min r_60) (le_max r_60)) (o36_136 e_63 e_64 (le_min r_60) (le_max r_60)) dX12_laysSofar_60 (fun v_66 e_67 => ?_)
                  replace HE : FT = g15b_X12_laysSofar R44 R53 (xso SM ad ws_57) v_66.toInt x6_46.toInt a3.toInt a4.toInt x5_34.toInt := HE.trans (by rw [e_67]; rfl)
                  refine y_icmp_ge (tgt := 207) C0 dX12_laysSofar_61 (by decide) (fun c_68 => ?_) (fun c_68 => ?_)
                  · -- 61
                    replace HE : FT = g16_X12_laysSofar R44 (xso SM ad ws_57) a3.toInt a4.toInt x5_34.toInt := HE.trans (if_neg (Int.not_lt.mpr c_68))
                    refine y_inc (kp := 1) (n := 1) (fun v_69 => [(5, .int v_69), (6, .int x6_46), (0, .ref (ad 0)), (1, .int a1), (2, .int a2), (3, .int a3), (4, .int a4)]) C0 hl rfl (by decide) (by decide) (fun _ => rfl) (o36_137 l3 u3 b_10 b_11 hn_9 e_15 e_17 e_19 c_20 b_41 b_42 hn_40 c_43 (le_min x5_34) (le_max x5_34) (le_min a3) (le_max a3) (le_min x5_3) (le_max x5_3) (le_min v_14) (le_max v_14) (le_min v_16) (le_max v_16) (le_min v_18) (le_max v_18)) (o36_138 l3 u3 b_10 b_11 hn_9 e_15 e_17 e_19 c_20 b_41 b_42 hn_40 c_43 (le_min x5_34) (le_max x5_34) (le_min a3) (le_max a3) (le_min x5_3) (le_max x5_3) (le_min v_14) (le_max v_14) (le_min v_16) (le_max v_16) (le_min v_18) (le_max v_18)) dX12_laysSofar_207 (fun v_69 ls e_70 hl => ?_)
                    refine lv_goto (tgt := 44) C0.1 C0.2.1 dX12_laysSofar_210 (by decide) ?_
                    exact ih_38 v_69 _ _ _ _ (o36_139 l3 u3 b_10 b_11 hn_9 e_15 e_17 e_19 c_20 b_41 b_42 hn_40 c_43 e_70) (o36_140 l3 u3 b_10 b_11 hn_9 e_15 e_17 e_19 c_20 b_41 b_42 hn_40 c_43 e_70) (o36_141 l3 u3 b_10 b_11 hn_9 e_15 e_17 e_19 c_20 b_41 b_42 hn_40 c_43 e_70) (((show FT = R44 (xso SM ad ws_57) a3.toInt a4.toInt v_69.toInt from HE.trans (by rw [e_70]; rfl)).trans (by rw [hR44]))) h (Fr.tr (Fr.tr hF_36 hF_48) (Fr.mono u_58 (by decide))) (lv_sub hl [0, 2, 3, 4, 5, 6] rfl)
                  · -- 61
                    replace HE : FT = g17_X12_laysSofar R44 R53 (xso SM ad ws_57) a3.toInt a4.toInt x5_34.toInt x6_46.toInt := HE.trans (if_pos c_68)
                    refine lv_aload_n C0.1 C0.2.1 dX12_laysSofar_64 rfl (lv_at hl 2 rfl) ?_
                    refine ng_X12_sofar C0 h kSM_0 q_1459 dX12_laysSofar_65 ?_
                    refine y_c2 (n := 100) C0 (by decide) dX12_laysSofar_68 (fun v_71 e_72 => ?_)
                    refine lv_iload C0.1 C0.2.1 dX12_laysSofar_70 (lv_at hl 1 rfl) ?_
                    refine y_cmul (n := 100) C0 (o36_28 e_72) (o36_142 l3 u3 b_10 b_11 hn_9 e_15 e_17 e_19 c_20 b_41 b_42 hn_40 c_43 (le_min x5_34) (le_max x5_34) (le_min a3) (le_max a3) (le_min x5_3) (le_max x5_3) (le_min v_14) (le_max v_14) (le_min v_16) (le_max v_16) (le_min v_18) (le_max v_18)) (o36_143 l3 u3 b_10 b_11 hn_9 e_15 e_17 e_19 c_20 b_41 b_42 hn_40 c_43 (le_min x5_34) (le_max x5_34) (le_min a3) (le_max a3) (le_min x5_3) (le_max x5_3) (le_min v_14) (le_max v_14) (le_min v_16) (le_max v_16) (le_min v_18) (le_max v_18)) dX12_laysSofar_72 (fun v_73 e_74 => ?_)
                    refine lv_iload C0.1 C0.2.1 dX12_laysSofar_73 (lv_at hl 0 rfl) ?_
                    refine y_add C0 (o36_144 l3 u3 b_10 b_11 hn_9 e_15 e_17 e_19 c_20 b_41 b_42 hn_40 c_43 b_53 b_54 hn_52 e_63 e_64 e_67 c_68 e_74 (le_min v_73) (le_max v_73) (le_min x6_46) (le_max x6_46) (le_min a3) (le_max a3) (le_min x5_3) (le_max x5_3) (le_min v_14) (le_max v_14) (le_min v_16) (le_max v_16) (le_min v_18) (le_max v_18) (le_min x5_34) (le_max x5_34) (le_min r_60) (le_max r_60) (le_min v_66) (le_max v_66)) (o36_145 l3 u3 b_10 b_11 hn_9 e_15 e_17 e_19 c_20 b_41 b_42 hn_40 c_43 b_53 b_54 hn_52 e_63 e_64 e_67 c_68 e_74 (le_min v_73) (le_max v_73) (le_min x6_46) (le_max x6_46) (le_min a3) (le_max a3) (le_min x5_3) (le_max x5_3) (le_min v_14) (le_max v_14) (le_min v_16) (le_max v_16) (le_min v_18) (le_max v_18) (le_min x5_34) (le_max x5_34) (le_min r_60) (le_max r_60) (le_min v_66) (le_max v_66)) dX12_laysSofar_75 (fun v_75 e_76 => ?_)
                    refine y_iald C0 h kSM_8 rfl (by decide) (o36_146 l3 u3 b_10 b_11 hn_9 e_15 e_17 e_19 c_20 b_41 b_42 hn_40 c_43 b_53 b_54 hn_52 e_63 e_64 e_67 c_68 e_74 e_76) (o36_147 l3 u3 b_10 b_11 hn_9 e_15 e_17 e_19 c_20 b_41 b_42 hn_40 c_43 b_53 b_54 hn_52 e_63 e_64 e_67 c_68 e_74 e_76) dX12_laysSofar_76 (fun v_77 e_78 e_79 e_80 => ?_)
                    refine y_c5 (n := 1000000000) C0 q_1887 (by decide) dX12_laysSofar_77 (fun v_81 e_82 => ?_)
                    replace HE : FT = g18b_X12_laysSofar R44 R53 (xso SM ad ws_57) v_77.toInt a3.toInt a4.toInt x5_34.toInt x6_46.toInt := HE.trans (by rw [(xg1 e_78 : v_77.toInt = (xso SM ad ws_57) 1 8 v_75.toInt.toNat), e_76, e_74]; rfl)
                    refine y_icmp_ne (tgt := 86) C0 dX12_laysSofar_80 (by decide) (fun c_83 => ?_) (fun c_83 => ?_)
                    · -- 80
                      replace HE : FT = g19_X12_laysSofar R44 R53 (xso SM ad ws_57) a3.toInt a4.toInt x5_34.toInt x6_46.toInt := HE.trans (if_neg (o36_148 e_82 c_83))
                      refine y_c1 (n := 0) C0 (by decide) dX12_laysSofar_86 (fun v_84 e_85 => ?_)
                      refine lv_istore (lv' := [(7, .int v_84), (6, .int x6_46), (5, .int x5_34), (0, .ref (ad 0)), (1, .int a1), (2, .int a2), (3, .int a3), (4, .int a4)]) C0.1 C0.2.1 dX12_laysSofar_87 hl (by decide) rfl (fun ls hl => ?_)
                      have lp_89 : ∀ (n_91 : Nat) (x7_86 : Int32) (H : Heap) (locs : List Loc) (ls : Array Slot) (ws_87 : va_W), 4 - x7_86.toInt < (n_91 : Int) → 0 ≤ x7_86.toInt → x7_86.toInt ≤ 4 → (FT = L21_X12_laysSofar R44 R53 n_91 (xso SM ad ws_87) a3.toInt a4.toInt x5_34.toInt x6_46.toInt x7_86.toInt) → Wt G SM ad A s H locs ws_87 → Fr SM [8] ws_57 ws_87 → lv_has ls 11 [(7, .int x7_86), (6, .int x6_46), (5, .int x5_34), (0, .ref (ad 0)), (1, .int a1), (2, .int a2), (3, .int a3), (4, .int a4)] → W p l e (rmd 5 0 0) s m args below meth c H locs 0 0 Q (F0 m 89 ls []) := by
                        intro n_91
                        induction n_91 with
                        | zero => intro x7_86 H locs ls ws_87 hn_92 b_93 b_94 HE h hF_88 hl; exact ((o36_19 b_93 b_94 hn_92)).elim
                        | succ n_91 ih_90 =>
                          intro x7_86 H locs ls ws_87 hn_92 b_93 b_94 HE h hF_88 hl
                          obtain ⟨R89, hR89⟩ : ∃ z, z = L21_X12_laysSofar R44 R53 n_91 := ⟨_, rfl⟩
                          replace HE : FT = g22l_X12_laysSofar R44 R53 R89 (xso SM ad ws_87) a3.toInt a4.toInt x5_34.toInt x6_46.toInt x7_86.toInt := HE.trans (by rw [hR89]; rfl)
                          refine lv_iload C0.1 C0.2.1 dX12_laysSofar_89 (lv_at hl 0 rfl) ?_
                          refine y_c1 (n := 4) C0 (by decide) dX12_laysSofar_91 (fun v_95 e_96 => ?_)
                          replace HE : FT = g23b_X12_laysSofar R44 R53 R89 (xso SM ad ws_87) x7_86.toInt a3.toInt a4.toInt x5_34.toInt x6_46.toInt := HE.trans rfl
                          refine y_icmp_ge (tgt := 201) C0 dX12_laysSofar_92 (by decide) (fun c_97 => ?_) (fun c_97 => ?_)
                          · -- 92
                            replace HE : FT = g24_X12_laysSofar R44 R53 (xso SM ad ws_87) a3.toInt a4.toInt x5_34.toInt x6_46.toInt := HE.trans (if_neg (o36_21 b_93 b_94 hn_92 e_96 c_97))
                            refine y_inc (kp := 1) (n := 1) (fun v_98 => [(6, .int v_98), (7, .int x7_86), (5, .int x5_34), (0, .ref (ad 0)), (1, .int a1), (2, .int a2), (3, .int a3), (4, .int a4)]) C0 hl rfl (by decide) (by decide) (fun _ => rfl) (o36_150 l3 u3 b_10 b_11 hn_9 e_15 e_17 e_19 c_20 b_41 b_42 hn_40 c_43 b_53 b_54 hn_52 e_63 e_64 e_67 c_68 e_74 e_76 (le_min x6_46) (le_max x6_46) (le_min a3) (le_max a3) (le_min x5_3) (le_max x5_3) (le_min v_14) (le_max v_14) (le_min v_16) (le_max v_16) (le_min v_18) (le_max v_18) (le_min x5_34) (le_max x5_34) (le_min r_60) (le_max r_60) (le_min v_66) (le_max v_66) (le_min v_73) (le_max v_73) (le_min v_75) (le_max v_75)) (o36_151 l3 u3 b_10 b_11 hn_9 e_15 e_17 e_19 c_20 b_41 b_42 hn_40 c_43 b_53 b_54 hn_52 e_63 e_64 e_67 c_68 e_74 e_76 (le_min x6_46) (le_max x6_46) (le_min a3) (le_max a3) (le_min x5_3) (le_max x5_3) (le_min v_14) (le_max v_14) (le_min v_16) (le_max v_16) (le_min v_18) (le_max v_18) (le_min x5_34) (le_max x5_34) (le_min r_60) (le_max r_60) (le_min v_66) (le_max v_66) (le_min v_73) (le_max v_73) (le_min v_75) (le_max v_75)) dX12_laysSofar_201 (fun v_98 ls e_99 hl => ?_)
                            refine lv_goto (tgt := 53) C0.1 C0.2.1 dX12_laysSofar_204 (by decide) ?_
                            exact ih_50 v_98 _ _ _ _ (o36_152 l3 u3 b_10 b_11 hn_9 e_15 e_17 e_19 c_20 b_41 b_42 hn_40 c_43 b_53 b_54 hn_52 e_63 e_64 e_67 c_68 e_74 e_76 e_99) (o36_153 l3 u3 b_10 b_11 hn_9 e_15 e_17 e_19 c_20 b_41 b_42 hn_40 c_43 b_53 b_54 hn_52 e_63 e_64 e_67 c_68 e_74 e_76 e_99) (o36_154 l3 u3 b_10 b_11 hn_9 e_15 e_17 e_19 c_20 b_41 b_42 hn_40 c_43 b_53 b_54 hn_52 e_63 e_64 e_67 c_68 e_74 e_76 e_99) (((show FT = R53 (xso SM ad ws_87) a3.toInt a4.toInt x5_34.toInt v_98.toInt from HE.trans (by rw [e_99]; rfl)).trans (by rw [hR53]))) h (Fr.tr (Fr.tr hF_48 (Fr.mono u_58 (by decide))) hF_88) (lv_sub hl [0, 2, 3, 4, 5, 6, 7] rfl)
                          · -- 92
                            replace HE : FT = g25_X12_laysSofar R44 R53 R89 (xso SM ad ws_87) a3.toInt a4.toInt x5_34.toInt x6_46.toInt x7_86.toInt := HE.trans (if_pos (o36_22 b_93 b_94 hn_92 e_96 c_97))
                            refine lv_aload_n C0.1 C0.2.1 dX12_laysSofar_95 rfl (lv_at hl 3 rfl) ?_
                            refine lv_iload C0.1 C0.2.1 dX12_laysSofar_96 (lv_at hl 2 rfl) ?_
                            refine lv_iload C0.1 C0.2.1 dX12_laysSofar_98 (lv_at hl 1 rfl) ?_
                            refine y_c1 (n := 4) C0 (by decide) dX12_laysSofar_100 (fun v_100 e_101 => ?_)
                            refine y_divc (n := 4) C0 (o36_20 e_101) (by decide) (o36_155 l3 u3 b_10 b_11 hn_9 e_15 e_17 e_19 c_20 b_41 b_42 hn_40 c_43 b_53 b_54 hn_52 e_63 e_64 e_67 c_68 e_74 e_76) dX12_laysSofar_101 (fun v_102 e_103 => ?_)
                            refine lv_iload C0.1 C0.2.1 dX12_laysSofar_102 (lv_at hl 1 rfl) ?_
                            refine y_c1 (n := 4) C0 (by decide) dX12_laysSofar_104 (fun v_104 e_105 => ?_)
                            refine y_remc (n := 4) C0 (o36_20 e_105) (by decide) (o36_156 l3 u3 b_10 b_11 hn_9 e_15 e_17 e_19 c_20 b_41 b_42 hn_40 c_43 b_53 b_54 hn_52 e_63 e_64 e_67 c_68 e_74 e_76 e_103) dX12_laysSofar_105 (fun v_106 e_107 => ?_)
                            refine lv_iload C0.1 C0.2.1 dX12_laysSofar_106 (lv_at hl 0 rfl) ?_
                            refine lv_iload C0.1 C0.2.1 dX12_laysSofar_108 (lv_at hl 7 rfl) ?_
                            refine y_ci h (y_rV (As := [.int x5_34, .int v_102, .int v_106, .int x7_86, .int a4]) (rest := []) C0 hZ h (c_X12_costOf_1 l G Z ad _ h.2 x5_34 v_102 v_106 x7_86 a4 (o36_157 l3 u3 b_10 b_11 hn_9 e_15 e_17 e_19 c_20 b_41 b_42 hn_40 c_43 b_53 b_54 hn_52 e_63 e_64 e_67 c_68 e_74 e_76 e_103 e_107) (o36_158 l3 u3 b_10 b_11 hn_9 e_15 e_17 e_19 c_20 b_41 b_42 hn_40 c_43 b_53 b_54 hn_52 e_63 e_64 e_67 c_68 e_74 e_76 e_103 e_107) (o36_159 l3 u3 b_10 b_11 hn_9 e_15 e_17 e_19 c_20 b_41 b_42 hn_40 c_43 b_53 b_54 hn_52 e_63 e_64 e_67 c_68 e_74 e_76 e_103 e_107) (o36_160 l3 u3 b_10 b_11 hn_9 e_15 e_17 e_19 c_20 b_41 b_42 hn_40 c_43 b_53 b_54 hn_52 e_63 e_64 e_67 c_68 e_74 e_76 e_103 e_107) (o36_161 l3 u3 b_10 b_11 hn_9 e_15 e_17 e_19 c_20 b_41 b_42 hn_40 c_43 b_53 b_54 hn_52 e_63 e_64 e_67 c_68 e_74 e_76 e_103 e_107) (o36_162 l3 u3 b_10 b_11 hn_9 e_15 e_17 e_19 c_20 b_41 b_42 hn_40 c_43 b_53 b_54 hn_52 e_63 e_64 e_67 c_68 e_74 e_76 e_103 e_107) (o36_163 b_93 b_94 hn_92 e_96 c_97) (o36_164 b_93 b_94 hn_92 e_96 c_97) (o36_17 l4 u4) (o36_18 l4 u4) (Laid.pa hLd (Pa.tr (Pa.tr (Pa.tr (Pa.tr (Pa.tr (Pa.fr hF_5 (by decide)) (Pa.ud u_30.1 (by decide))) (Pa.fr hF_36 (by decide))) (Pa.fr hF_48 (by decide))) (Pa.fr u_58 (by decide))) (Pa.fr hF_88 (by decide))))) k_X12_costOf q_1890 q_104 q_1888 kSM_0 rfl rfl rfl hl.1 rfl rfl (Nat.le_of_ble_eq_true rfl) dX12_laysSofar_110 ⟨Nat.le_of_ble_eq_true rfl, Nat.le_of_ble_eq_true rfl⟩ ⟨Nat.le_of_ble_eq_true rfl, Nat.le_of_ble_eq_true rfl⟩) (fun r_111 H locs ws_108 h u_109 p_110 => ?_)
                            obtain ⟨e_112, e_113, e_114⟩ := p_110
                            replace HE : FT = g26c_X12_laysSofar R44 R53 R89 (xso SM ad ws_108) r_111.toInt a3.toInt a4.toInt x5_34.toInt x6_46.toInt x7_86.toInt := HE.trans (by rw [e_112, e_113, e_107, e_103]; rfl)
                            refine lv_istore (lv' := [(8, .int r_111), (7, .int x7_86), (6, .int x6_46), (5, .int x5_34), (0, .ref (ad 0)), (1, .int a1), (2, .int a2), (3, .int a3), (4, .int a4)]) C0.1 C0.2.1 dX12_laysSofar_113 hl (by decide) rfl (fun ls hl => ?_)
                            refine lv_iload C0.1 C0.2.1 dX12_laysSofar_115 (lv_at hl 0 rfl) ?_
                            refine y_c5 (n := 1000000000) C0 q_1887 (by decide) dX12_laysSofar_117 (fun v_115 e_116 => ?_)
                            replace HE : FT = g27b_X12_laysSofar R44 R53 R89 (xso SM ad ws_108) r_111.toInt a3.toInt a4.toInt x5_34.toInt x6_46.toInt x7_86.toInt := HE.trans rfl
                            refine y_icmp_ne (tgt := 126) C0 dX12_laysSofar_120 (by decide) (fun c_117 => ?_) (fun c_117 => ?_)
                            · -- 120
                              replace HE : FT = g28_X12_laysSofar R44 R53 R89 (xso SM ad ws_108) a3.toInt a4.toInt x5_34.toInt x6_46.toInt x7_86.toInt r_111.toInt := HE.trans (if_neg (o36_148 e_116 c_117))
                              refine lv_iload C0.1 C0.2.1 dX12_laysSofar_126 (lv_at hl 2 rfl) ?_
                              refine y_c1 (n := 4) C0 (by decide) dX12_laysSofar_128 (fun v_118 e_119 => ?_)
                              refine y_remc (n := 4) C0 (o36_20 e_119) (by decide) (o36_165 l3 u3 b_10 b_11 hn_9 e_15 e_17 e_19 c_20 b_41 b_42 hn_40 c_43 b_53 b_54 hn_52 e_63 e_64 e_67 c_68 e_74 e_76 e_103 e_107) dX12_laysSofar_129 (fun v_120 e_121 => ?_)
                              refine lv_iload C0.1 C0.2.1 dX12_laysSofar_130 (lv_at hl 1 rfl) ?_
                              refine y_ci h (y_rS (As := [.int v_120, .int x7_86]) (rest := []) C0 hZ h (c_X12_directionBy l G Z ad _ h.2 v_120 x7_86 (o36_166 l3 u3 b_10 b_11 hn_9 e_15 e_17 e_19 c_20 b_41 b_42 hn_40 c_43 b_53 b_54 hn_52 e_63 e_64 e_67 c_68 e_74 e_76 e_103 e_107 e_121) (o36_167 l3 u3 b_10 b_11 hn_9 e_15 e_17 e_19 c_20 b_41 b_42 hn_40 c_43 b_53 b_54 hn_52 e_63 e_64 e_67 c_68 e_74 e_76 e_103 e_107 e_121) (o36_163 b_93 b_94 hn_92 e_96 c_97) (o36_164 b_93 b_94 hn_92 e_96 c_97)) k_X12_directionBy q_1761 q_1760 hl.1 rfl rfl (Nat.le_of_ble_eq_true rfl) dX12_laysSofar_132 ⟨Nat.le_of_ble_eq_true rfl, Nat.le_of_ble_eq_true rfl⟩ ⟨Nat.le_of_ble_eq_true rfl, Nat.le_of_ble_eq_true rfl⟩) (fun r_125 H locs ws_122 h u_123 p_124 => ?_)
                              obtain ⟨e_126, e_127, e_128, e_129, e_130⟩ := p_124
                              replace HE : FT = g30c_X12_laysSofar R44 R53 R89 (xso SM ad ws_122) r_125.toInt a3.toInt a4.toInt x5_34.toInt x6_46.toInt x7_86.toInt r_111.toInt := HE.trans (by rw [e_126, e_127, e_121]; rfl)
                              refine lv_istore (lv' := [(9, .int r_125), (8, .int r_111), (7, .int x7_86), (6, .int x6_46), (5, .int x5_34), (0, .ref (ad 0)), (1, .int a1), (2, .int a2), (3, .int a3), (4, .int a4)]) C0.1 C0.2.1 dX12_laysSofar_135 hl (by decide) rfl (fun ls hl => ?_)
                              refine y_c2 (n := 100) C0 (by decide) dX12_laysSofar_137 (fun v_131 e_132 => ?_)
                              refine lv_iload C0.1 C0.2.1 dX12_laysSofar_139 (lv_at hl 4 rfl) ?_
                              refine y_c1 (n := 1) C0 (by decide) dX12_laysSofar_141 (fun v_133 e_134 => ?_)
                              refine y_add C0 (o36_168 l3 u3 b_10 b_11 hn_9 e_15 e_17 e_19 c_20 b_41 b_42 hn_40 c_43 b_53 b_54 hn_52 e_63 e_64 e_67 c_68 e_74 e_76 e_103 e_107 e_121 e_134 (le_min x5_34) (le_max x5_34) (le_min v_133) (le_max v_133) (le_min a3) (le_max a3) (le_min x5_3) (le_max x5_3) (le_min v_14) (le_max v_14) (le_min v_16) (le_max v_16) (le_min v_18) (le_max v_18) (le_min x6_46) (le_max x6_46) (le_min r_60) (le_max r_60) (le_min v_66) (le_max v_66) (le_min v_73) (le_max v_73) (le_min v_75) (le_max v_75) (le_min v_102) (le_max v_102) (le_min v_106) (le_max v_106) (le_min v_120) (le_max v_120)) (o36_169 l3 u3 b_10 b_11 hn_9 e_15 e_17 e_19 c_20 b_41 b_42 hn_40 c_43 b_53 b_54 hn_52 e_63 e_64 e_67 c_68 e_74 e_76 e_103 e_107 e_121 e_134 (le_min x5_34) (le_max x5_34) (le_min v_133) (le_max v_133) (le_min a3) (le_max a3) (le_min x5_3) (le_max x5_3) (le_min v_14) (le_max v_14) (le_min v_16) (le_max v_16) (le_min v_18) (le_max v_18) (le_min x6_46) (le_max x6_46) (le_min r_60) (le_max r_60) (le_min v_66) (le_max v_66) (le_min v_73) (le_max v_73) (le_min v_75) (le_max v_75) (le_min v_102) (le_max v_102) (le_min v_106) (le_max v_106) (le_min v_120) (le_max v_120)) dX12_laysSofar_142 (fun v_135 e_136 => ?_)
                              refine y_cmul (n := 100) C0 (o36_28 e_132) (o36_170 l3 u3 b_10 b_11 hn_9 e_15 e_17 e_19 c_20 b_41 b_42 hn_40 c_43 b_53 b_54 hn_52 e_63 e_64 e_67 c_68 e_74 e_76 e_103 e_107 e_121 e_134 e_136 (le_min v_135) (le_max v_135) (le_min a3) (le_max a3) (le_min x5_3) (le_max x5_3) (le_min v_14) (le_max v_14) (le_min v_16) (le_max v_16) (le_min v_18) (le_max v_18) (le_min x5_34) (le_max x5_34) (le_min x6_46) (le_max x6_46) (le_min r_60) (le_max r_60) (le_min v_66) (le_max v_66) (le_min v_73) (le_max v_73) (le_min v_75) (le_max v_75) (le_min v_102) (le_max v_102) (le_min v_106) (le_max v_106) (le_min v_120) (le_max v_120) (le_min v_133) (le_max v_133)) (o36_171 l3 u3 b_10 b_11 hn_9 e_15 e_17 e_19 c_20 b_41 b_42 hn_40 c_43 b_53 b_54 hn_52 e_63 e_64 e_67 c_68 e_74 e_76 e_103 e_107 e_121 e_134 e_136 (le_min v_135) (le_max v_135) (le_min a3) (le_max a3) (le_min x5_3) (le_max x5_3) (le_min v_14) (le_max v_14) (le_min v_16) (le_max v_16) (le_min v_18) (le_max v_18) (le_min x5_34) (le_max x5_34) (le_min x6_46) (le_max x6_46) (le_min r_60) (le_max r_60) (le_min v_66) (le_max v_66) (le_min v_73) (le_max v_73) (le_min v_75) (le_max v_75) (le_min v_102) (le_max v_102) (le_min v_106) (le_max v_106) (le_min v_120) (le_max v_120) (le_min v_133) (le_max v_133)) dX12_laysSofar_143 (fun v_137 e_138 => ?_)
                              refine y_c1 (n := 4) C0 (by decide) dX12_laysSofar_144 (fun v_139 e_140 => ?_)
                              refine lv_aload_n C0.1 C0.2.1 dX12_laysSofar_145 rfl (lv_at hl 5 rfl) ?_
                              refine lv_iload C0.1 C0.2.1 dX12_laysSofar_146 (lv_at hl 3 rfl) ?_
                              refine y_c1 (n := 4) C0 (by decide) dX12_laysSofar_148 (fun v_141 e_142 => ?_)
                              refine y_divc (n := 4) C0 (o36_20 e_142) (by decide) (o36_172 l3 u3 b_10 b_11 hn_9 e_15 e_17 e_19 c_20 b_41 b_42 hn_40 c_43 b_53 b_54 hn_52 e_63 e_64 e_67 c_68 e_74 e_76 e_103 e_107 e_121 e_134 e_136 e_138) dX12_laysSofar_149 (fun v_143 e_144 => ?_)
                              refine lv_iload C0.1 C0.2.1 dX12_laysSofar_150 (lv_at hl 0 rfl) ?_
                              refine y_ci h (y_rV (As := [.int v_143, .int r_125]) (rest := [.int v_139, .int v_137]) C0 hZ h (c_X12_streetFrom l G Z ad _ h.2 v_143 r_125 (o36_173 l3 u3 b_10 b_11 hn_9 e_15 e_17 e_19 c_20 b_41 b_42 hn_40 c_43 b_53 b_54 hn_52 e_63 e_64 e_67 c_68 e_74 e_76 e_103 e_107 e_121 e_134 e_136 e_138 e_144) (o36_174 l3 u3 b_10 b_11 hn_9 e_15 e_17 e_19 c_20 b_41 b_42 hn_40 c_43 b_53 b_54 hn_52 e_63 e_64 e_67 c_68 e_74 e_76 e_103 e_107 e_121 e_134 e_136 e_138 e_144) (o36_69 e_128 e_129) (o36_70 e_128 e_129) (Laid.pa hLd (Pa.tr (Pa.tr (Pa.tr (Pa.tr (Pa.tr (Pa.tr (Pa.tr (Pa.fr hF_5 (by decide)) (Pa.ud u_30.1 (by decide))) (Pa.fr hF_36 (by decide))) (Pa.fr hF_48 (by decide))) (Pa.fr u_58 (by decide))) (Pa.fr hF_88 (by decide))) (Pa.fr u_109 (by decide))) (Pa.fr u_123 (by decide))))) k_X12_streetFrom q_1713 q_80 q_1711 kSM_0 rfl rfl rfl hl.1 rfl rfl (Nat.le_of_ble_eq_true rfl) dX12_laysSofar_152 ⟨Nat.le_of_ble_eq_true rfl, Nat.le_of_ble_eq_true rfl⟩ ⟨Nat.le_of_ble_eq_true rfl, Nat.le_of_ble_eq_true rfl⟩) (fun r_148 H locs ws_145 h u_146 p_147 => ?_)
                              obtain ⟨e_149, e_150, e_151, e_152, e_153⟩ := p_147
                              have g_154 := sf_ge (Pw.tr (Pw.fr u_109 (by decide)) (Pw.fr u_123 (by decide))) e_114 (o36_148 e_116 c_117) e_153 (o36_175 l3 u3 b_10 b_11 hn_9 e_15 e_17 e_19 c_20 b_41 b_42 hn_40 c_43 b_53 b_54 hn_52 e_63 e_64 e_67 c_68 e_74 e_76 e_103 e_107 e_121 e_134 e_136 e_138 e_144) (o36_176 l3 u3 b_10 b_11 hn_9 e_15 e_17 e_19 c_20 b_41 b_42 hn_40 c_43 b_53 b_54 hn_52 e_63 e_64 e_67 c_68 e_74 e_76 e_103 e_107 e_121 e_134 e_136 e_138 e_144) e_130 (o36_177 l3 u3 b_10 b_11 hn_9 e_15 e_17 e_19 c_20 b_41 b_42 hn_40 c_43 b_53 b_54 hn_52 e_63 e_64 e_67 c_68 e_74 e_76 e_103 e_107 e_121 e_134 e_136 e_138 e_144) (o36_178 b_93 b_94 hn_92 e_96 c_97)
                              replace HE : FT = g31c_X12_laysSofar R44 R53 R89 (xso SM ad ws_145) r_148.toInt v_137.toInt a3.toInt a4.toInt x5_34.toInt x6_46.toInt x7_86.toInt r_111.toInt r_125.toInt := HE.trans (by rw [e_149, e_138, e_136, e_134, e_150, e_144]; rfl)
                              refine y_cmul (n := 4) C0 (o36_20 e_140) (o36_179 e_151 e_152 g_154 (le_min r_148) (le_max r_148)) (o36_180 e_151 e_152 g_154 (le_min r_148) (le_max r_148)) dX12_laysSofar_155 (fun v_155 e_156 => ?_)
                              refine y_add C0 (o36_181 l3 u3 b_10 b_11 hn_9 e_15 e_17 e_19 c_20 b_41 b_42 hn_40 c_43 b_53 b_54 hn_52 e_63 e_64 e_67 c_68 e_74 e_76 e_103 e_107 e_121 e_134 e_136 e_138 e_144 e_151 e_152 g_154 e_156 (le_min v_137) (le_max v_137) (le_min v_155) (le_max v_155) (le_min a3) (le_max a3) (le_min x5_3) (le_max x5_3) (le_min v_14) (le_max v_14) (le_min v_16) (le_max v_16) (le_min v_18) (le_max v_18) (le_min x5_34) (le_max x5_34) (le_min x6_46) (le_max x6_46) (le_min r_60) (le_max r_60) (le_min v_66) (le_max v_66) (le_min v_73) (le_max v_73) (le_min v_75) (le_max v_75) (le_min v_102) (le_max v_102) (le_min v_106) (le_max v_106) (le_min v_120) (le_max v_120) (le_min v_133) (le_max v_133) (le_min v_135) (le_max v_135) (le_min v_143) (le_max v_143) (le_min r_148) (le_max r_148)) (o36_182 l3 u3 b_10 b_11 hn_9 e_15 e_17 e_19 c_20 b_41 b_42 hn_40 c_43 b_53 b_54 hn_52 e_63 e_64 e_67 c_68 e_74 e_76 e_103 e_107 e_121 e_134 e_136 e_138 e_144 e_151 e_152 g_154 e_156 (le_min v_137) (le_max v_137) (le_min v_155) (le_max v_155) (le_min a3) (le_max a3) (le_min x5_3) (le_max x5_3) (le_min v_14) (le_max v_14) (le_min v_16) (le_max v_16) (le_min v_18) (le_max v_18) (le_min x5_34) (le_max x5_34) (le_min x6_46) (le_max x6_46) (le_min r_60) (le_max r_60) (le_min v_66) (le_max v_66) (le_min v_73) (le_max v_73) (le_min v_75) (le_max v_75) (le_min v_102) (le_max v_102) (le_min v_106) (le_max v_106) (le_min v_120) (le_max v_120) (le_min v_133) (le_max v_133) (le_min v_135) (le_max v_135) (le_min v_143) (le_max v_143) (le_min r_148) (le_max r_148)) dX12_laysSofar_156 (fun v_157 e_158 => ?_)
                              refine lv_iload C0.1 C0.2.1 dX12_laysSofar_157 (lv_at hl 0 rfl) ?_
                              refine y_add C0 (o36_183 l3 u3 b_10 b_11 hn_9 e_15 e_17 e_19 c_20 b_41 b_42 hn_40 c_43 b_53 b_54 hn_52 e_63 e_64 e_67 c_68 e_74 e_76 e_103 e_107 e_121 e_128 e_129 e_134 e_136 e_138 e_144 e_151 e_152 g_154 e_156 e_158 (le_min v_157) (le_max v_157) (le_min r_125) (le_max r_125) (le_min a3) (le_max a3) (le_min x5_3) (le_max x5_3) (le_min v_14) (le_max v_14) (le_min v_16) (le_max v_16) (le_min v_18) (le_max v_18) (le_min x5_34) (le_max x5_34) (le_min x6_46) (le_max x6_46) (le_min r_60) (le_max r_60) (le_min v_66) (le_max v_66) (le_min v_73) (le_max v_73) (le_min v_75) (le_max v_75) (le_min v_102) (le_max v_102) (le_min v_106) (le_max v_106) (le_min v_120) (le_max v_120) (le_min v_133) (le_max v_133) (le_min v_135) (le_max v_135) (le_min v_137) (le_max v_137) (le_min v_143) (le_max v_143) (le_min r_148) (le_max r_148) (le_min v_155) (le_max v_155)) (o36_184 l3 u3 b_10 b_11 hn_9 e_15 e_17 e_19 c_20 b_41 b_42 hn_40 c_43 b_53 b_54 hn_52 e_63 e_64 e_67 c_68 e_74 e_76 e_103 e_107 e_121 e_128 e_129 e_134 e_136 e_138 e_144 e_151 e_152 g_154 e_156 e_158 (le_min v_157) (le_max v_157) (le_min r_125) (le_max r_125) (le_min a3) (le_max a3) (le_min x5_3) (le_max x5_3) (le_min v_14) (le_max v_14) (le_min v_16) (le_max v_16) (le_min v_18) (le_max v_18) (le_min x5_34) (le_max x5_34) (le_min x6_46) (le_max x6_46) (le_min r_60) (le_max r_60) (le_min v_66) (le_max v_66) (le_min v_73) (le_max v_73) (le_min v_75) (le_max v_75) (le_min v_102) (le_max v_102) (le_min v_106) (le_max v_106) (le_min v_120) (le_max v_120) (le_min v_133) (le_max v_133) (le_min v_135) (le_max v_135) (le_min v_137) (le_max v_137) (le_min v_143) (le_max v_143) (le_min r_148) (le_max r_148) (le_min v_155) (le_max v_155)) dX12_laysSofar_159 (fun v_159 e_160 => ?_)
                              refine lv_istore (lv' := [(10, .int v_159), (9, .int r_125), (8, .int r_111), (7, .int x7_86), (6, .int x6_46), (5, .int x5_34), (0, .ref (ad 0)), (1, .int a1), (2, .int a2), (3, .int a3), (4, .int a4)]) C0.1 C0.2.1 dX12_laysSofar_160 hl (by decide) rfl (fun ls hl => ?_)
                              refine lv_aload_n C0.1 C0.2.1 dX12_laysSofar_162 rfl (lv_at hl 6 rfl) ?_
                              refine ng_X12_sofar C0 h kSM_0 q_1459 dX12_laysSofar_163 ?_
                              refine lv_iload C0.1 C0.2.1 dX12_laysSofar_166 (lv_at hl 0 rfl) ?_
                              refine lv_aload_n C0.1 C0.2.1 dX12_laysSofar_168 rfl (lv_at hl 6 rfl) ?_
                              refine ng_X12_sofar C0 h kSM_0 q_1459 dX12_laysSofar_169 ?_
                              refine lv_iload C0.1 C0.2.1 dX12_laysSofar_172 (lv_at hl 0 rfl) ?_
                              refine y_iald C0 h kSM_8 rfl (by decide) (o36_185 l3 u3 b_10 b_11 hn_9 e_15 e_17 e_19 c_20 b_41 b_42 hn_40 c_43 b_53 b_54 hn_52 e_63 e_64 e_67 c_68 e_74 e_76 e_103 e_107 e_121 e_128 e_129 e_134 e_136 e_138 e_144 e_151 e_152 g_154 e_156 e_158 e_160) (o36_186 l3 u3 b_10 b_11 hn_9 e_15 e_17 e_19 c_20 b_41 b_42 hn_40 c_43 b_53 b_54 hn_52 e_63 e_64 e_67 c_68 e_74 e_76 e_103 e_107 e_121 e_128 e_129 e_134 e_136 e_138 e_144 e_151 e_152 g_154 e_156 e_158 e_160) dX12_laysSofar_174 (fun v_161 e_162 e_163 e_164 => ?_)
                              refine lv_aload_n C0.1 C0.2.1 dX12_laysSofar_175 rfl (lv_at hl 6 rfl) ?_
                              refine ng_X12_sofar C0 h kSM_0 q_1459 dX12_laysSofar_176 ?_
                              refine y_c2 (n := 100) C0 (by decide) dX12_laysSofar_179 (fun v_165 e_166 => ?_)
                              refine lv_iload C0.1 C0.2.1 dX12_laysSofar_181 (lv_at hl 5 rfl) ?_
                              refine y_cmul (n := 100) C0 (o36_28 e_166) (o36_187 l3 u3 b_10 b_11 hn_9 e_15 e_17 e_19 c_20 b_41 b_42 hn_40 c_43 b_53 b_54 hn_52 e_63 e_64 e_67 c_68 e_74 e_76 e_103 e_107 e_121 e_128 e_129 e_134 e_136 e_138 e_144 e_151 e_152 g_154 e_156 e_158 e_160 (le_min x5_34) (le_max x5_34) (le_min a3) (le_max a3) (le_min x5_3) (le_max x5_3) (le_min v_14) (le_max v_14) (le_min v_16) (le_max v_16) (le_min v_18) (le_max v_18) (le_min x6_46) (le_max x6_46) (le_min r_60) (le_max r_60) (le_min v_66) (le_max v_66) (le_min v_73) (le_max v_73) (le_min v_75) (le_max v_75) (le_min v_102) (le_max v_102) (le_min v_106) (le_max v_106) (le_min v_120) (le_max v_120) (le_min r_125) (le_max r_125) (le_min v_133) (le_max v_133) (le_min v_135) (le_max v_135) (le_min v_137) (le_max v_137) (le_min v_143) (le_max v_143) (le_min r_148) (le_max r_148) (le_min v_155) (le_max v_155) (le_min v_157) (le_max v_157) (le_min v_159) (le_max v_159)) (o36_188 l3 u3 b_10 b_11 hn_9 e_15 e_17 e_19 c_20 b_41 b_42 hn_40 c_43 b_53 b_54 hn_52 e_63 e_64 e_67 c_68 e_74 e_76 e_103 e_107 e_121 e_128 e_129 e_134 e_136 e_138 e_144 e_151 e_152 g_154 e_156 e_158 e_160 (le_min x5_34) (le_max x5_34) (le_min a3) (le_max a3) (le_min x5_3) (le_max x5_3) (le_min v_14) (le_max v_14) (le_min v_16) (le_max v_16) (le_min v_18) (le_max v_18) (le_min x6_46) (le_max x6_46) (le_min r_60) (le_max r_60) (le_min v_66) (le_max v_66) (le_min v_73) (le_max v_73) (le_min v_75) (le_max v_75) (le_min v_102) (le_max v_102) (le_min v_106) (le_max v_106) (le_min v_120) (le_max v_120) (le_min r_125) (le_max r_125) (le_min v_133) (le_max v_133) (le_min v_135) (le_max v_135) (le_min v_137) (le_max v_137) (le_min v_143) (le_max v_143) (le_min r_148) (le_max r_148) (le_min v_155) (le_max v_155) (le_min v_157) (le_max v_157) (le_min v_159) (le_max v_159)) dX12_laysSofar_183 (fun v_167 e_168 => ?_)
                              refine lv_iload C0.1 C0.2.1 dX12_laysSofar_184 (lv_at hl 4 rfl) ?_
                              refine y_add C0 (o36_189 l3 u3 b_10 b_11 hn_9 e_15 e_17 e_19 c_20 b_41 b_42 hn_40 c_43 b_53 b_54 hn_52 e_63 e_64 e_67 c_68 e_74 e_76 e_103 e_107 e_121 e_128 e_129 e_134 e_136 e_138 e_144 e_151 e_152 g_154 e_156 e_158 e_160 e_168 (le_min v_167) (le_max v_167) (le_min x6_46) (le_max x6_46) (le_min a3) (le_max a3) (le_min x5_3) (le_max x5_3) (le_min v_14) (le_max v_14) (le_min v_16) (le_max v_16) (le_min v_18) (le_max v_18) (le_min x5_34) (le_max x5_34) (le_min r_60) (le_max r_60) (le_min v_66) (le_max v_66) (le_min v_73) (le_max v_73) (le_min v_75) (le_max v_75) (le_min v_102) (le_max v_102) (le_min v_106) (le_max v_106) (le_min v_120) (le_max v_120) (le_min r_125) (le_max r_125) (le_min v_133) (le_max v_133) (le_min v_135) (le_max v_135) (le_min v_137) (le_max v_137) (le_min v_143) (le_max v_143) (le_min r_148) (le_max r_148) (le_min v_155) (le_max v_155) (le_min v_157) (le_max v_157) (le_min v_159) (le_max v_159)) (o36_190 l3 u3 b_10 b_11 hn_9 e_15 e_17 e_19 c_20 b_41 b_42 hn_40 c_43 b_53 b_54 hn_52 e_63 e_64 e_67 c_68 e_74 e_76 e_103 e_107 e_121 e_128 e_129 e_134 e_136 e_138 e_144 e_151 e_152 g_154 e_156 e_158 e_160 e_168 (le_min v_167) (le_max v_167) (le_min x6_46) (le_max x6_46) (le_min a3) (le_max a3) (le_min x5_3) (le_max x5_3) (le_min v_14) (le_max v_14) (le_min v_16) (le_max v_16) (le_min v_18) (le_max v_18) (le_min x5_34) (le_max x5_34) (le_min r_60) (le_max r_60) (le_min v_66) (le_max v_66) (le_min v_73) (le_max v_73) (le_min v_75) (le_max v_75) (le_min v_102) (le_max v_102) (le_min v_106) (le_max v_106) (le_min v_120) (le_max v_120) (le_min r_125) (le_max r_125) (le_min v_133) (le_max v_133) (le_min v_135) (le_max v_135) (le_min v_137) (le_max v_137) (le_min v_143) (le_max v_143) (le_min r_148) (le_max r_148) (le_min v_155) (le_max v_155) (le_min v_157) (le_max v_157) (le_min v_159) (le_max v_159)) dX12_laysSofar_186 (fun v_169 e_170 => ?_)
                              refine y_iald C0 h kSM_8 rfl (by decide) (o36_191 l3 u3 b_10 b_11 hn_9 e_15 e_17 e_19 c_20 b_41 b_42 hn_40 c_43 b_53 b_54 hn_52 e_63 e_64 e_67 c_68 e_74 e_76 e_103 e_107 e_121 e_128 e_129 e_134 e_136 e_138 e_144 e_151 e_152 g_154 e_156 e_158 e_160 e_168 e_170) (o36_192 l3 u3 b_10 b_11 hn_9 e_15 e_17 e_19 c_20 b_41 b_42 hn_40 c_43 b_53 b_54 hn_52 e_63 e_64 e_67 c_68 e_74 e_76 e_103 e_107 e_121 e_128 e_129 e_134 e_136 e_138 e_144 e_151 e_152 g_154 e_156 e_158 e_160 e_168 e_170) dX12_laysSofar_187 (fun v_171 e_172 e_173 e_174 => ?_)
                              refine lv_iload C0.1 C0.2.1 dX12_laysSofar_188 (lv_at hl 2 rfl) ?_
                              refine xr_iadd C0 dX12_laysSofar_190 (fun v_175 e_176 => ?_)
                              refine y_ci h (y_rS (As := [.int v_161, .int v_175]) (rest := [.int v_159, .ref (ad 8)]) C0 hZ h (c_X12_lesser l G Z ad _ h.2 v_161 v_175) k_X12_lesser q_1784 q_1783 hl.1 rfl rfl (Nat.le_of_ble_eq_true rfl) dX12_laysSofar_191 ⟨Nat.le_of_ble_eq_true rfl, Nat.le_of_ble_eq_true rfl⟩ ⟨Nat.le_of_ble_eq_true rfl, Nat.le_of_ble_eq_true rfl⟩) (fun r_180 H locs ws_177 h u_178 p_179 => ?_)
                              obtain ⟨e_181, e_182, e_183, e_184⟩ := p_179
                              replace HE : FT = g32c_X12_laysSofar R44 R53 R89 (xso SM ad ws_177) r_180.toInt v_159.toInt a3.toInt a4.toInt x5_34.toInt x6_46.toInt x7_86.toInt := HE.trans (by rw [e_181, e_182, e_176, (xg1 e_172 : v_171.toInt = (xso SM ad ws_145) 1 8 v_169.toInt.toNat), e_170, e_168, (xg1 e_162 : v_161.toInt = (xso SM ad ws_145) 1 8 v_159.toInt.toNat), e_160, e_158, e_156]; rfl)
                              have hO_187 := h.2
                              refine y_iast C0 h kSM_8 rfl (by decide) (o36_193 l3 u3 b_10 b_11 hn_9 e_15 e_17 e_19 c_20 b_41 b_42 hn_40 c_43 b_53 b_54 hn_52 e_63 e_64 e_67 c_68 e_74 e_76 e_103 e_107 e_121 e_128 e_129 e_134 e_136 e_138 e_144 e_151 e_152 g_154 e_156 e_158 e_160 e_168 e_170) (o36_194 l3 u3 b_10 b_11 hn_9 e_15 e_17 e_19 c_20 b_41 b_42 hn_40 c_43 b_53 b_54 hn_52 e_63 e_64 e_67 c_68 e_74 e_76 e_103 e_107 e_121 e_128 e_129 e_134 e_136 e_138 e_144 e_151 e_152 g_154 e_156 e_158 e_160 e_168 e_170) (le_min r_180) (le_max r_180) dX12_laysSofar_194 (fun H locs ws_185 h u_186 => ?_)
                              replace HE : FT = g33w_X12_laysSofar R44 R53 R89 (xso SM ad ws_185) a3.toInt a4.toInt x5_34.toInt x6_46.toInt x7_86.toInt := HE.trans (by rw [(xso_A (i := 8) hO_187 h.2 kSM_8 rfl u_186)]; rfl)
                              refine y_inc (kp := 3) (n := 1) (fun v_188 => [(7, .int v_188), (10, .int v_159), (9, .int r_125), (8, .int r_111), (6, .int x6_46), (5, .int x5_34), (0, .ref (ad 0)), (1, .int a1), (2, .int a2), (3, .int a3), (4, .int a4)]) C0 hl rfl (by decide) (by decide) (fun _ => rfl) (o36_195 b_93 b_94 hn_92 e_96 c_97 (le_min x7_86) (le_max x7_86) (le_min v_95) (le_max v_95)) (o36_196 b_93 b_94 hn_92 e_96 c_97 (le_min x7_86) (le_max x7_86) (le_min v_95) (le_max v_95)) dX12_laysSofar_195 (fun v_188 ls e_189 hl => ?_)
                              refine lv_goto (tgt := 89) C0.1 C0.2.1 dX12_laysSofar_198 (by decide) ?_
                              exact ih_90 v_188 _ _ _ _ (o36_197 b_93 b_94 hn_92 e_96 c_97 e_189) (o36_198 b_93 b_94 hn_92 e_96 c_97 e_189) (o36_199 b_93 b_94 hn_92 e_96 c_97 e_189) (((show FT = R89 (xso SM ad ws_185) a3.toInt a4.toInt x5_34.toInt x6_46.toInt v_188.toInt from HE.trans (by rw [e_189]; rfl)).trans (by rw [hR89]))) h (Fr.tr (Fr.tr (Fr.tr (Fr.tr (Fr.tr hF_88 (Fr.mono u_109 (by decide))) (Fr.mono u_123 (by decide))) (Fr.mono u_146 (by decide))) (Fr.mono u_178 (by decide))) (Fr.up u_186.1 kSM_8 (by decide))) (lv_sub hl [0, 4, 5, 6, 7, 8, 9, 10] rfl)
                            · -- 120
                              replace HE : FT = g29_X12_laysSofar R44 R53 R89 (xso SM ad ws_108) a3.toInt a4.toInt x5_34.toInt x6_46.toInt x7_86.toInt := HE.trans (if_pos (o36_149 e_116 c_117))
                              refine lv_goto (tgt := 195) C0.1 C0.2.1 dX12_laysSofar_123 (by decide) ?_
                              refine y_inc (kp := 1) (n := 1) (fun v_190 => [(7, .int v_190), (8, .int r_111), (6, .int x6_46), (5, .int x5_34), (0, .ref (ad 0)), (1, .int a1), (2, .int a2), (3, .int a3), (4, .int a4)]) C0 hl rfl (by decide) (by decide) (fun _ => rfl) (o36_195 b_93 b_94 hn_92 e_96 c_97 (le_min x7_86) (le_max x7_86) (le_min v_95) (le_max v_95)) (o36_196 b_93 b_94 hn_92 e_96 c_97 (le_min x7_86) (le_max x7_86) (le_min v_95) (le_max v_95)) dX12_laysSofar_195 (fun v_190 ls e_191 hl => ?_)
                              refine lv_goto (tgt := 89) C0.1 C0.2.1 dX12_laysSofar_198 (by decide) ?_
                              exact ih_90 v_190 _ _ _ _ (o36_197 b_93 b_94 hn_92 e_96 c_97 e_191) (o36_198 b_93 b_94 hn_92 e_96 c_97 e_191) (o36_199 b_93 b_94 hn_92 e_96 c_97 e_191) (((show FT = R89 (xso SM ad ws_108) a3.toInt a4.toInt x5_34.toInt x6_46.toInt v_190.toInt from HE.trans (by rw [e_191]; rfl)).trans (by rw [hR89]))) h (Fr.tr hF_88 (Fr.mono u_109 (by decide))) (lv_sub hl [0, 2, 3, 4, 5, 6, 7, 8] rfl)
                      exact lp_89 ((4 - v_84.toInt + 1).toNat) v_84 _ _ _ _ (o36_62 e_85) (o36_63 e_85) (o36_64 e_85) ((show FT = L21_X12_laysSofar R44 R53 (Int.toNat (4 - v_84.toInt + 1)) (xso SM ad ws_57) a3.toInt a4.toInt x5_34.toInt x6_46.toInt v_84.toInt from HE.trans (by rw [e_85]; rfl))) h Fr.rf (lv_sub hl [0, 1, 2, 3, 4, 5, 6, 7] rfl)
                    · -- 80
                      replace HE : FT = g20_X12_laysSofar R44 R53 (xso SM ad ws_57) a3.toInt a4.toInt x5_34.toInt x6_46.toInt := HE.trans (if_pos (o36_149 e_82 c_83))
                      refine lv_goto (tgt := 201) C0.1 C0.2.1 dX12_laysSofar_83 (by decide) ?_
                      refine y_inc (kp := 0) (n := 1) (fun v_192 => [(6, .int v_192), (5, .int x5_34), (0, .ref (ad 0)), (1, .int a1), (2, .int a2), (3, .int a3), (4, .int a4)]) C0 hl rfl (by decide) (by decide) (fun _ => rfl) (o36_150 l3 u3 b_10 b_11 hn_9 e_15 e_17 e_19 c_20 b_41 b_42 hn_40 c_43 b_53 b_54 hn_52 e_63 e_64 e_67 c_68 e_74 e_76 (le_min x6_46) (le_max x6_46) (le_min a3) (le_max a3) (le_min x5_3) (le_max x5_3) (le_min v_14) (le_max v_14) (le_min v_16) (le_max v_16) (le_min v_18) (le_max v_18) (le_min x5_34) (le_max x5_34) (le_min r_60) (le_max r_60) (le_min v_66) (le_max v_66) (le_min v_73) (le_max v_73) (le_min v_75) (le_max v_75)) (o36_151 l3 u3 b_10 b_11 hn_9 e_15 e_17 e_19 c_20 b_41 b_42 hn_40 c_43 b_53 b_54 hn_52 e_63 e_64 e_67 c_68 e_74 e_76 (le_min x6_46) (le_max x6_46) (le_min a3) (le_max a3) (le_min x5_3) (le_max x5_3) (le_min v_14) (le_max v_14) (le_min v_16) (le_max v_16) (le_min v_18) (le_max v_18) (le_min x5_34) (le_max x5_34) (le_min r_60) (le_max r_60) (le_min v_66) (le_max v_66) (le_min v_73) (le_max v_73) (le_min v_75) (le_max v_75)) dX12_laysSofar_201 (fun v_192 ls e_193 hl => ?_)
                      refine lv_goto (tgt := 53) C0.1 C0.2.1 dX12_laysSofar_204 (by decide) ?_
                      exact ih_50 v_192 _ _ _ _ (o36_152 l3 u3 b_10 b_11 hn_9 e_15 e_17 e_19 c_20 b_41 b_42 hn_40 c_43 b_53 b_54 hn_52 e_63 e_64 e_67 c_68 e_74 e_76 e_193) (o36_153 l3 u3 b_10 b_11 hn_9 e_15 e_17 e_19 c_20 b_41 b_42 hn_40 c_43 b_53 b_54 hn_52 e_63 e_64 e_67 c_68 e_74 e_76 e_193) (o36_154 l3 u3 b_10 b_11 hn_9 e_15 e_17 e_19 c_20 b_41 b_42 hn_40 c_43 b_53 b_54 hn_52 e_63 e_64 e_67 c_68 e_74 e_76 e_193) (((show FT = R53 (xso SM ad ws_57) a3.toInt a4.toInt x5_34.toInt v_192.toInt from HE.trans (by rw [e_193]; rfl)).trans (by rw [hR53]))) h (Fr.tr hF_48 (Fr.mono u_58 (by decide))) (lv_sub hl [0, 1, 2, 3, 4, 5, 6] rfl)
              exact lp_49 ((100 - v_44.toInt + 1).toNat) v_44 _ _ _ _ (o36_200 e_45) (o36_63 e_45) (o36_201 e_45) ((show FT = L12_X12_laysSofar R44 (Int.toNat (100 - v_44.toInt + 1)) (xso SM ad ws_35) a3.toInt a4.toInt x5_34.toInt v_44.toInt from HE.trans (by rw [e_45]; rfl))) h Fr.rf (lv_sub hl [0, 1, 2, 3, 4, 5, 6] rfl)
        exact lp_37 ((60 - v_32.toInt + 1).toNat) v_32 _ _ _ _ (o36_202 e_33) (o36_63 e_33) (o36_203 e_33) ((show FT = L7_X12_laysSofar (Int.toNat (60 - v_32.toInt + 1)) (xso SM ad ws_29) a3.toInt a4.toInt v_32.toInt from HE.trans (by rw [e_33]; rfl))) h Fr.rf (lv_sub hl [0, 1, 2, 3, 4, 5] rfl)
      · -- 11
        replace HE : FT = g5_X12_laysSofar R3 (xso SM ad ws_4) a1.toInt a2.toInt a3.toInt a4.toInt x5_3.toInt := HE.trans (if_pos c_20)
        refine lv_aload_n C0.1 C0.2.1 dX12_laysSofar_14 rfl (lv_at hl 1 rfl) ?_
        refine ng_X12_sofar C0 h kSM_0 q_1459 dX12_laysSofar_15 ?_
        refine lv_iload C0.1 C0.2.1 dX12_laysSofar_18 (lv_at hl 0 rfl) ?_
        refine y_c5 (n := 1000000000) C0 q_1887 (by decide) dX12_laysSofar_20 (fun v_194 e_195 => ?_)
        have hO_198 := h.2
        refine y_iast C0 h kSM_8 rfl (by decide) (o36_204 l3 u3 b_10 b_11 hn_9 e_15 e_17 e_19 c_20) (o36_205 l3 u3 b_10 b_11 hn_9 e_15 e_17 e_19 c_20) (le_min v_194) (le_max v_194) dX12_laysSofar_23 (fun H locs ws_196 h u_197 => ?_)
        replace HE : FT = g34w_X12_laysSofar R3 (xso SM ad ws_196) a1.toInt a2.toInt a3.toInt a4.toInt x5_3.toInt := HE.trans (by rw [(xso_A (i := 8) hO_198 h.2 kSM_8 rfl u_197), e_195]; rfl)
        refine y_inc (kp := 0) (n := 1) (fun v_199 => [(5, .int v_199), (0, .ref (ad 0)), (1, .int a1), (2, .int a2), (3, .int a3), (4, .int a4)]) C0 hl rfl (by decide) (by decide) (fun _ => rfl) (o36_206 l3 u3 b_10 b_11 hn_9 e_15 e_17 e_19 c_20 (le_min x5_3) (le_max x5_3) (le_min a3) (le_max a3) (le_min v_14) (le_max v_14) (le_min v_16) (le_max v_16) (le_min v_18) (le_max v_18)) (o36_207 l3 u3 b_10 b_11 hn_9 e_15 e_17 e_19 c_20 (le_min x5_3) (le_max x5_3) (le_min a3) (le_max a3) (le_min v_14) (le_max v_14) (le_min v_16) (le_max v_16) (le_min v_18) (le_max v_18)) dX12_laysSofar_24 (fun v_199 ls e_200 hl => ?_)
        refine lv_goto (tgt := 3) C0.1 C0.2.1 dX12_laysSofar_27 (by decide) ?_
        exact ih_7 v_199 _ _ _ _ (o36_208 l3 u3 b_10 b_11 hn_9 e_15 e_17 e_19 c_20 e_200) (o36_209 l3 u3 b_10 b_11 hn_9 e_15 e_17 e_19 c_20 e_200) (o36_210 l3 u3 b_10 b_11 hn_9 e_15 e_17 e_19 c_20 e_200) (((show FT = R3 (xso SM ad ws_196) a1.toInt a2.toInt a3.toInt a4.toInt v_199.toInt from HE.trans (by rw [e_200]; rfl)).trans (by rw [hR3]))) h (Fr.tr hF_5 (Fr.up u_197.1 kSM_8 (by decide))) (lv_sub hl [0, 1, 2, 3, 4, 5] rfl)
  exact lp_6 ((6100 - v_1.toInt + 1).toNat) v_1 _ _ _ _ (o36_211 e_2) (o36_63 e_2) (o36_212 e_2) ((show FT = L1_X12_laysSofar (Int.toNat (6100 - v_1.toInt + 1)) (xso SM ad ws0) a1.toInt a2.toInt a3.toInt a4.toInt v_1.toInt from HE.trans (by rw [e_2]; rfl))) h Fr.rf (lv_sub hl [0, 1, 2, 3, 4, 5] rfl)
noncomputable def g4_X12_stillBy (s : XS) (x3_6 : Int) : XR := (s, x3_6)
noncomputable def g8_X12_stillBy (R7 : XS → Int → Int → Int → Int → XR) (s : XS) (a1 : Int) (a2 : Int) (x3_6 : Int) (x4_5 : Int) : XR := R7 s a1 a2 x3_6 ((x4_5 + 1))
noncomputable def g13c_X12_stillBy (R7 : XS → Int → Int → Int → Int → XR) (s : XS) (r_108 : Int) (a1 : Int) (a2 : Int) (x4_5 : Int) : XR := R7 s a1 a2 r_108 ((x4_5 + 1))
noncomputable def g12c_X12_stillBy (R7 : XS → Int → Int → Int → Int → XR) (s : XS) (r_91 : Int) (v_82 : Int) (r_31 : Int) (x3_6 : Int) (a1 : Int) (a2 : Int) (x4_5 : Int) : XR := g13c_X12_stillBy R7 ((f_X12_lesser s x3_6 (Xiadd r_31 (s 1 9 (Int.toNat (v_82 + r_91))))).1) (((f_X12_lesser s x3_6 (Xiadd r_31 (s 1 9 (Int.toNat (v_82 + r_91))))).2)) a1 a2 x4_5
noncomputable def g11c_X12_stillBy (R7 : XS → Int → Int → Int → Int → XR) (s : XS) (r_73 : Int) (v_49 : Int) (r_31 : Int) (x3_6 : Int) (a1 : Int) (a2 : Int) (x4_5 : Int) : XR := g12c_X12_stillBy R7 ((f_X12_directionBy s (a2 % 4) x4_5).1) (((f_X12_directionBy s (a2 % 4) x4_5).2)) ((v_49 + (4 * r_73))) r_31 x3_6 a1 a2 x4_5
noncomputable def g10c_X12_stillBy (R7 : XS → Int → Int → Int → Int → XR) (s : XS) (r_64 : Int) (v_55 : Int) (v_49 : Int) (r_31 : Int) (x3_6 : Int) (a1 : Int) (a2 : Int) (x4_5 : Int) : XR := g11c_X12_stillBy R7 ((f_X12_streetFrom s v_55 r_64).1) (((f_X12_streetFrom s v_55 r_64).2)) v_49 r_31 x3_6 a1 a2 x4_5
noncomputable def g9_X12_stillBy (R7 : XS → Int → Int → Int → Int → XR) (s : XS) (a1 : Int) (a2 : Int) (x3_6 : Int) (x4_5 : Int) (r_31 : Int) : XR := g10c_X12_stillBy R7 ((f_X12_directionBy s (a2 % 4) x4_5).1) (((f_X12_directionBy s (a2 % 4) x4_5).2)) ((a2 / 4)) ((100 * (a1 + 1))) r_31 x3_6 a1 a2 x4_5
noncomputable def g7b_X12_stillBy (R7 : XS → Int → Int → Int → Int → XR) (s : XS) (r_31 : Int) (a1 : Int) (a2 : Int) (x3_6 : Int) (x4_5 : Int) : XR := if r_31 = 1000000000 then g8_X12_stillBy R7 s a1 a2 x3_6 x4_5 else g9_X12_stillBy R7 s a1 a2 x3_6 x4_5 r_31
noncomputable def g6c_X12_stillBy (R7 : XS → Int → Int → Int → Int → XR) (s : XS) (r_31 : Int) (a1 : Int) (a2 : Int) (x3_6 : Int) (x4_5 : Int) : XR := g7b_X12_stillBy R7 s r_31 a1 a2 x3_6 x4_5
noncomputable def g5_X12_stillBy (R7 : XS → Int → Int → Int → Int → XR) (s : XS) (a1 : Int) (a2 : Int) (x3_6 : Int) (x4_5 : Int) : XR := g6c_X12_stillBy R7 ((f_X12_costOf_0 s a1 (a2 / 4) (a2 % 4) x4_5 0).1) (((f_X12_costOf_0 s a1 (a2 / 4) (a2 % 4) x4_5 0).2)) a1 a2 x3_6 x4_5
noncomputable def g3b_X12_stillBy (R7 : XS → Int → Int → Int → Int → XR) (s : XS) (x4_5 : Int) (a1 : Int) (a2 : Int) (x3_6 : Int) : XR := if x4_5 < 4 then g5_X12_stillBy R7 s a1 a2 x3_6 x4_5 else g4_X12_stillBy s x3_6
noncomputable def g2l_X12_stillBy (R7 : XS → Int → Int → Int → Int → XR) (s : XS) (a1 : Int) (a2 : Int) (x3_6 : Int) (x4_5 : Int) : XR := g3b_X12_stillBy R7 s x4_5 a1 a2 x3_6
noncomputable def L1_X12_stillBy (n : Nat) : XS → Int → Int → Int → Int → XR := Nat.rec (motive := fun _ => XS → Int → Int → Int → Int → XR) (fun s _ _ _ _ => (s, 0)) (fun _ R7 => g2l_X12_stillBy R7) n
noncomputable def f_X12_stillBy (s : XS) (a1 : Int) (a2 : Int) : XR := L1_X12_stillBy (Int.toNat (4 - 0 + 1)) s a1 a2 1000000000 0
set_option maxHeartbeats 4000000 in
set_option maxRecDepth 100000 in
theorem c_X12_stillBy (l : Launch) (G : GG) (Z : RZ) (ad : Nat → Nat) (ws0 : va_W) (hT : Ty G SM ad ws0) (a1 : Int32) (a2 : Int32) (l1 : 0 ≤ a1.toInt) (u1 : a1.toInt ≤ 59) (l2 : 0 ≤ a2.toInt) (u2 : a2.toInt ≤ 99) (hLd : Laid ws0) : Mq l yX12_stillBy cX12_stillBy 6 (some .int) 5 G Z [.ref (ad 0), .int a1, .int a2] ws0 (PI G SM ad [] ws0 (fun r u => (xso SM ad u = (f_X12_stillBy (xso SM ad ws0) a1.toInt a2.toInt).1) ∧ (r.toInt = (f_X12_stillBy (xso SM ad ws0) a1.toInt a2.toInt).2))) := by
  refine Mq.start (by decide) (Nat.le_of_ble_eq_true rfl) ?_
  intro p e s m below meth c A ls C0 hZ h hl
  have hl : lv_has ls 6 [(0, .ref (ad 0)), (1, .int a1), (2, .int a2)] := hl
  have h : Wt G SM ad A s s.heap [] ws0 := ⟨h, hT⟩
  obtain ⟨args, hargs⟩ : ∃ z, z = ([.ref (ad 0), .int a1, .int a2] : List Value).toArray := ⟨_, rfl⟩
  rw [← hargs] at C0 ⊢
  have C0 : Cx p s m args meth c RX12 cX12_stillBy 6 (some .int) := C0
  obtain ⟨Q, hQ⟩ : ∃ z, z = MQ below ((PI G SM ad [] ws0 (fun r u => (xso SM ad u = (f_X12_stillBy (xso SM ad ws0) a1.toInt a2.toInt).1) ∧ (r.toInt = (f_X12_stillBy (xso SM ad ws0) a1.toInt a2.toInt).2))) A) args s 0 0 A := ⟨_, rfl⟩
  rw [← hQ]
  obtain ⟨FT, hFT⟩ : ∃ z, z = f_X12_stillBy (xso SM ad ws0) a1.toInt a2.toInt := ⟨_, rfl⟩
  have HE : FT = f_X12_stillBy (xso SM ad ws0) a1.toInt a2.toInt := hFT
  refine y_c5 (n := 1000000000) C0 q_1887 (by decide) dX12_stillBy_0 (fun v_1 e_2 => ?_)
  refine lv_istore_n (lv' := [(3, .int v_1), (0, .ref (ad 0)), (1, .int a1), (2, .int a2)]) C0.1 C0.2.1 dX12_stillBy_3 rfl hl (by decide) rfl (fun ls hl => ?_)
  refine y_c1 (n := 0) C0 (by decide) dX12_stillBy_4 (fun v_3 e_4 => ?_)
  refine lv_istore (lv' := [(4, .int v_3), (3, .int v_1), (0, .ref (ad 0)), (1, .int a1), (2, .int a2)]) C0.1 C0.2.1 dX12_stillBy_5 hl (by decide) rfl (fun ls hl => ?_)
  have lp_9 : ∀ (n_11 : Nat) (x4_5 : Int32) (x3_6 : Int32) (H : Heap) (locs : List Loc) (ls : Array Slot) (ws_7 : va_W), 4 - x4_5.toInt < (n_11 : Int) → 0 ≤ x4_5.toInt → x4_5.toInt ≤ 4 → (FT = L1_X12_stillBy n_11 (xso SM ad ws_7) a1.toInt a2.toInt x3_6.toInt x4_5.toInt) → Wt G SM ad A s H locs ws_7 → Fr SM [] ws0 ws_7 → lv_has ls 6 [(4, .int x4_5), (3, .int x3_6), (0, .ref (ad 0)), (1, .int a1), (2, .int a2)] → W p l e (rmd 5 0 0) s m args below meth c H locs 0 0 Q (F0 m 7 ls []) := by
    intro n_11
    induction n_11 with
    | zero => intro x4_5 x3_6 H locs ls ws_7 hn_12 b_13 b_14 HE h hF_8 hl; exact ((o36_19 b_13 b_14 hn_12)).elim
    | succ n_11 ih_10 =>
      intro x4_5 x3_6 H locs ls ws_7 hn_12 b_13 b_14 HE h hF_8 hl
      obtain ⟨R7, hR7⟩ : ∃ z, z = L1_X12_stillBy n_11 := ⟨_, rfl⟩
      replace HE : FT = g2l_X12_stillBy R7 (xso SM ad ws_7) a1.toInt a2.toInt x3_6.toInt x4_5.toInt := HE.trans (by rw [hR7]; rfl)
      refine lv_iload C0.1 C0.2.1 dX12_stillBy_7 (lv_at hl 0 rfl) ?_
      refine y_c1 (n := 4) C0 (by decide) dX12_stillBy_9 (fun v_15 e_16 => ?_)
      replace HE : FT = g3b_X12_stillBy R7 (xso SM ad ws_7) x4_5.toInt a1.toInt a2.toInt x3_6.toInt := HE.trans rfl
      refine y_icmp_ge (tgt := 89) C0 dX12_stillBy_10 (by decide) (fun c_17 => ?_) (fun c_17 => ?_)
      · -- 10
        replace HE : FT = g4_X12_stillBy (xso SM ad ws_7) x3_6.toInt := HE.trans (if_neg (o36_21 b_13 b_14 hn_12 e_16 c_17))
        refine lv_iload_n C0.1 C0.2.1 dX12_stillBy_89 rfl (lv_at hl 1 rfl) ?_
        replace HE : FT = ((xso SM ad ws_7), x3_6.toInt) := HE.trans rfl
        rw [hQ]
        exact y_iret C0 h hF_8 ⟨(congrArg Prod.fst (HE.symm.trans hFT)), (congrArg Prod.snd (HE.symm.trans hFT))⟩ dX12_stillBy_90
      · -- 10
        replace HE : FT = g5_X12_stillBy R7 (xso SM ad ws_7) a1.toInt a2.toInt x3_6.toInt x4_5.toInt := HE.trans (if_pos (o36_22 b_13 b_14 hn_12 e_16 c_17))
        refine lv_aload_n C0.1 C0.2.1 dX12_stillBy_13 rfl (lv_at hl 2 rfl) ?_
        refine lv_iload_n C0.1 C0.2.1 dX12_stillBy_14 rfl (lv_at hl 3 rfl) ?_
        refine lv_iload_n C0.1 C0.2.1 dX12_stillBy_15 rfl (lv_at hl 4 rfl) ?_
        refine y_c1 (n := 4) C0 (by decide) dX12_stillBy_16 (fun v_18 e_19 => ?_)
        refine y_divc (n := 4) C0 (o36_20 e_19) (by decide) (o36_213 l2 u2) dX12_stillBy_17 (fun v_20 e_21 => ?_)
        refine lv_iload_n C0.1 C0.2.1 dX12_stillBy_18 rfl (lv_at hl 4 rfl) ?_
        refine y_c1 (n := 4) C0 (by decide) dX12_stillBy_19 (fun v_22 e_23 => ?_)
        refine y_remc (n := 4) C0 (o36_20 e_23) (by decide) (o36_214 l2 u2 e_21) dX12_stillBy_20 (fun v_24 e_25 => ?_)
        refine lv_iload C0.1 C0.2.1 dX12_stillBy_21 (lv_at hl 0 rfl) ?_
        refine y_c1 (n := 0) C0 (by decide) dX12_stillBy_23 (fun v_26 e_27 => ?_)
        refine y_ci h (y_rV (As := [.int a1, .int v_20, .int v_24, .int x4_5, .int v_26]) (rest := []) C0 hZ h (c_X12_costOf_0 l G Z ad _ h.2 a1 v_20 v_24 x4_5 v_26 (o36_215 l1 u1) (o36_216 l1 u1) (o36_217 l2 u2 e_21 e_25) (o36_218 l2 u2 e_21 e_25) (o36_219 l2 u2 e_21 e_25) (o36_220 l2 u2 e_21 e_25) (o36_163 b_13 b_14 hn_12 e_16 c_17) (o36_164 b_13 b_14 hn_12 e_16 c_17) (o36_63 e_27) (o36_221 e_27) (Laid.pa hLd (Pa.fr hF_8 (by decide)))) k_X12_costOf q_1890 q_104 q_1888 kSM_0 rfl rfl rfl hl.1 rfl rfl (Nat.le_of_ble_eq_true rfl) dX12_stillBy_24 ⟨Nat.le_of_ble_eq_true rfl, Nat.le_of_ble_eq_true rfl⟩ ⟨Nat.le_of_ble_eq_true rfl, Nat.le_of_ble_eq_true rfl⟩) (fun r_31 H locs ws_28 h u_29 p_30 => ?_)
        obtain ⟨e_32, e_33, e_34, e_35, e_36, e_37⟩ := p_30
        replace HE : FT = g6c_X12_stillBy R7 (xso SM ad ws_28) r_31.toInt a1.toInt a2.toInt x3_6.toInt x4_5.toInt := HE.trans (by rw [e_32, e_33, e_27, e_25, e_21]; rfl)
        refine lv_istore (lv' := [(5, .int r_31), (4, .int x4_5), (3, .int x3_6), (0, .ref (ad 0)), (1, .int a1), (2, .int a2)]) C0.1 C0.2.1 dX12_stillBy_27 hl (by decide) rfl (fun ls hl => ?_)
        refine lv_iload C0.1 C0.2.1 dX12_stillBy_29 (lv_at hl 0 rfl) ?_
        refine y_c5 (n := 1000000000) C0 q_1887 (by decide) dX12_stillBy_31 (fun v_38 e_39 => ?_)
        replace HE : FT = g7b_X12_stillBy R7 (xso SM ad ws_28) r_31.toInt a1.toInt a2.toInt x3_6.toInt x4_5.toInt := HE.trans rfl
        refine y_icmp_eq (tgt := 83) C0 dX12_stillBy_34 (by decide) (fun c_40 => ?_) (fun c_40 => ?_)
        · -- 34
          replace HE : FT = g8_X12_stillBy R7 (xso SM ad ws_28) a1.toInt a2.toInt x3_6.toInt x4_5.toInt := HE.trans (if_pos (o36_222 e_34 e_35 e_36 e_39 c_40))
          refine y_inc (kp := 1) (n := 1) (fun v_41 => [(4, .int v_41), (5, .int r_31), (3, .int x3_6), (0, .ref (ad 0)), (1, .int a1), (2, .int a2)]) C0 hl rfl (by decide) (by decide) (fun _ => rfl) (o36_195 b_13 b_14 hn_12 e_16 c_17 (le_min x4_5) (le_max x4_5) (le_min v_15) (le_max v_15)) (o36_196 b_13 b_14 hn_12 e_16 c_17 (le_min x4_5) (le_max x4_5) (le_min v_15) (le_max v_15)) dX12_stillBy_83 (fun v_41 ls e_42 hl => ?_)
          refine lv_goto (tgt := 7) C0.1 C0.2.1 dX12_stillBy_86 (by decide) ?_
          exact ih_10 v_41 x3_6 _ _ _ _ (o36_197 b_13 b_14 hn_12 e_16 c_17 e_42) (o36_198 b_13 b_14 hn_12 e_16 c_17 e_42) (o36_199 b_13 b_14 hn_12 e_16 c_17 e_42) (((show FT = R7 (xso SM ad ws_28) a1.toInt a2.toInt x3_6.toInt v_41.toInt from HE.trans (by rw [e_42]; rfl)).trans (by rw [hR7]))) h (Fr.tr hF_8 u_29) (lv_sub hl [0, 2, 3, 4, 5] rfl)
        · -- 34
          replace HE : FT = g9_X12_stillBy R7 (xso SM ad ws_28) a1.toInt a2.toInt x3_6.toInt x4_5.toInt r_31.toInt := HE.trans (if_neg (o36_223 e_34 e_35 e_36 e_39 c_40))
          refine lv_iload_n C0.1 C0.2.1 dX12_stillBy_37 rfl (lv_at hl 2 rfl) ?_
          refine lv_iload C0.1 C0.2.1 dX12_stillBy_38 (lv_at hl 0 rfl) ?_
          refine lv_aload_n C0.1 C0.2.1 dX12_stillBy_40 rfl (lv_at hl 3 rfl) ?_
          refine ng_X12_still C0 h kSM_0 q_1460 dX12_stillBy_41 ?_
          refine y_c2 (n := 100) C0 (by decide) dX12_stillBy_44 (fun v_43 e_44 => ?_)
          refine lv_iload_n C0.1 C0.2.1 dX12_stillBy_46 rfl (lv_at hl 4 rfl) ?_
          refine y_c1 (n := 1) C0 (by decide) dX12_stillBy_47 (fun v_45 e_46 => ?_)
          refine y_add C0 (o36_224 l1 u1 e_46 (le_min a1) (le_max a1) (le_min v_45) (le_max v_45)) (o36_225 l1 u1 e_46 (le_min a1) (le_max a1) (le_min v_45) (le_max v_45)) dX12_stillBy_48 (fun v_47 e_48 => ?_)
          refine y_cmul (n := 100) C0 (o36_28 e_44) (o36_226 l1 u1 e_46 e_48 (le_min v_47) (le_max v_47) (le_min a1) (le_max a1) (le_min v_45) (le_max v_45)) (o36_227 l1 u1 e_46 e_48 (le_min v_47) (le_max v_47) (le_min a1) (le_max a1) (le_min v_45) (le_max v_45)) dX12_stillBy_49 (fun v_49 e_50 => ?_)
          refine y_c1 (n := 4) C0 (by decide) dX12_stillBy_50 (fun v_51 e_52 => ?_)
          refine lv_aload_n C0.1 C0.2.1 dX12_stillBy_51 rfl (lv_at hl 3 rfl) ?_
          refine lv_iload_n C0.1 C0.2.1 dX12_stillBy_52 rfl (lv_at hl 5 rfl) ?_
          refine y_c1 (n := 4) C0 (by decide) dX12_stillBy_53 (fun v_53 e_54 => ?_)
          refine y_divc (n := 4) C0 (o36_20 e_54) (by decide) (o36_228 l2 u2 e_21 e_25) dX12_stillBy_54 (fun v_55 e_56 => ?_)
          refine lv_iload_n C0.1 C0.2.1 dX12_stillBy_55 rfl (lv_at hl 5 rfl) ?_
          refine y_c1 (n := 4) C0 (by decide) dX12_stillBy_56 (fun v_57 e_58 => ?_)
          refine y_remc (n := 4) C0 (o36_20 e_58) (by decide) (o36_229 l2 u2 e_21 e_25 e_56) dX12_stillBy_57 (fun v_59 e_60 => ?_)
          refine lv_iload C0.1 C0.2.1 dX12_stillBy_58 (lv_at hl 1 rfl) ?_
          refine y_ci h (y_rS (As := [.int v_59, .int x4_5]) (rest := [.int v_55, .ref (ad 0), .int v_51, .int v_49, .ref (ad 9), .int r_31, .int x3_6]) C0 hZ h (c_X12_directionBy l G Z ad _ h.2 v_59 x4_5 (o36_230 l2 u2 e_21 e_25 e_56 e_60) (o36_231 l2 u2 e_21 e_25 e_56 e_60) (o36_163 b_13 b_14 hn_12 e_16 c_17) (o36_164 b_13 b_14 hn_12 e_16 c_17)) k_X12_directionBy q_1761 q_1760 hl.1 rfl rfl (Nat.le_of_ble_eq_true rfl) dX12_stillBy_60 ⟨Nat.le_of_ble_eq_true rfl, Nat.le_of_ble_eq_true rfl⟩ ⟨Nat.le_of_ble_eq_true rfl, Nat.le_of_ble_eq_true rfl⟩) (fun r_64 H locs ws_61 h u_62 p_63 => ?_)
          obtain ⟨e_65, e_66, e_67, e_68, e_69⟩ := p_63
          replace HE : FT = g10c_X12_stillBy R7 (xso SM ad ws_61) r_64.toInt v_55.toInt v_49.toInt r_31.toInt x3_6.toInt a1.toInt a2.toInt x4_5.toInt := HE.trans (by rw [e_65, e_50, e_48, e_46, e_56, e_66, e_60]; rfl)
          refine y_ci h (y_rV (As := [.int v_55, .int r_64]) (rest := [.int v_51, .int v_49, .ref (ad 9), .int r_31, .int x3_6]) C0 hZ h (c_X12_streetFrom l G Z ad _ h.2 v_55 r_64 (o36_232 l2 u2 e_21 e_25 e_56 e_60) (o36_233 l2 u2 e_21 e_25 e_56 e_60) (o36_69 e_67 e_68) (o36_70 e_67 e_68) (Laid.pa hLd (Pa.tr (Pa.tr (Pa.fr hF_8 (by decide)) (Pa.fr u_29 (by decide))) (Pa.fr u_62 (by decide))))) k_X12_streetFrom q_1713 q_80 q_1711 kSM_0 rfl rfl rfl hl.1 rfl rfl (Nat.le_of_ble_eq_true rfl) dX12_stillBy_63 ⟨Nat.le_of_ble_eq_true rfl, Nat.le_of_ble_eq_true rfl⟩ ⟨Nat.le_of_ble_eq_true rfl, Nat.le_of_ble_eq_true rfl⟩) (fun r_73 H locs ws_70 h u_71 p_72 => ?_)
          obtain ⟨e_74, e_75, e_76, e_77, e_78⟩ := p_72
          have g_79 := sf_ge (Pw.tr (Pw.fr u_29 (by decide)) (Pw.fr u_62 (by decide))) e_37 (o36_223 e_34 e_35 e_36 e_39 c_40) e_78 (o36_234 l2 u2 e_21 e_25 e_56 e_60) (o36_235 l2 u2 e_21 e_25 e_56 e_60) e_69 (o36_236 l2 u2 e_21 e_25 e_56 e_60) (o36_178 b_13 b_14 hn_12 e_16 c_17)
          replace HE : FT = g11c_X12_stillBy R7 (xso SM ad ws_70) r_73.toInt v_49.toInt r_31.toInt x3_6.toInt a1.toInt a2.toInt x4_5.toInt := HE.trans (by rw [e_74, e_75]; rfl)
          refine y_cmul (n := 4) C0 (o36_20 e_52) (o36_179 e_76 e_77 g_79 (le_min r_73) (le_max r_73)) (o36_180 e_76 e_77 g_79 (le_min r_73) (le_max r_73)) dX12_stillBy_66 (fun v_80 e_81 => ?_)
          refine y_add C0 (o36_237 l1 u1 e_46 e_48 e_50 e_76 e_77 g_79 e_81 (le_min v_49) (le_max v_49) (le_min v_80) (le_max v_80) (le_min a1) (le_max a1) (le_min v_45) (le_max v_45) (le_min v_47) (le_max v_47) (le_min r_73) (le_max r_73)) (o36_238 l1 u1 e_46 e_48 e_50 e_76 e_77 g_79 e_81 (le_min v_49) (le_max v_49) (le_min v_80) (le_max v_80) (le_min a1) (le_max a1) (le_min v_45) (le_max v_45) (le_min v_47) (le_max v_47) (le_min r_73) (le_max r_73)) dX12_stillBy_67 (fun v_82 e_83 => ?_)
          refine lv_iload_n C0.1 C0.2.1 dX12_stillBy_68 rfl (lv_at hl 5 rfl) ?_
          refine y_c1 (n := 4) C0 (by decide) dX12_stillBy_69 (fun v_84 e_85 => ?_)
          refine y_remc (n := 4) C0 (o36_20 e_85) (by decide) (o36_239 l2 u2 e_21 e_25 e_56 e_60) dX12_stillBy_70 (fun v_86 e_87 => ?_)
          refine lv_iload C0.1 C0.2.1 dX12_stillBy_71 (lv_at hl 1 rfl) ?_
          refine y_ci h (y_rS (As := [.int v_86, .int x4_5]) (rest := [.int v_82, .ref (ad 9), .int r_31, .int x3_6]) C0 hZ h (c_X12_directionBy l G Z ad _ h.2 v_86 x4_5 (o36_240 l2 u2 e_21 e_25 e_56 e_60 e_87) (o36_241 l2 u2 e_21 e_25 e_56 e_60 e_87) (o36_163 b_13 b_14 hn_12 e_16 c_17) (o36_164 b_13 b_14 hn_12 e_16 c_17)) k_X12_directionBy q_1761 q_1760 hl.1 rfl rfl (Nat.le_of_ble_eq_true rfl) dX12_stillBy_73 ⟨Nat.le_of_ble_eq_true rfl, Nat.le_of_ble_eq_true rfl⟩ ⟨Nat.le_of_ble_eq_true rfl, Nat.le_of_ble_eq_true rfl⟩) (fun r_91 H locs ws_88 h u_89 p_90 => ?_)
          obtain ⟨e_92, e_93, e_94, e_95, e_96⟩ := p_90
          replace HE : FT = g12c_X12_stillBy R7 (xso SM ad ws_88) r_91.toInt v_82.toInt r_31.toInt x3_6.toInt a1.toInt a2.toInt x4_5.toInt := HE.trans (by rw [e_92, e_83, e_81, e_93, e_87]; rfl)
          refine y_add C0 (o36_242 l1 u1 e_46 e_48 e_50 e_76 e_77 g_79 e_81 e_83 e_94 e_95 (le_min v_82) (le_max v_82) (le_min r_91) (le_max r_91) (le_min a1) (le_max a1) (le_min v_45) (le_max v_45) (le_min v_47) (le_max v_47) (le_min v_49) (le_max v_49) (le_min r_73) (le_max r_73) (le_min v_80) (le_max v_80)) (o36_243 l1 u1 e_46 e_48 e_50 e_76 e_77 g_79 e_81 e_83 e_94 e_95 (le_min v_82) (le_max v_82) (le_min r_91) (le_max r_91) (le_min a1) (le_max a1) (le_min v_45) (le_max v_45) (le_min v_47) (le_max v_47) (le_min v_49) (le_max v_49) (le_min r_73) (le_max r_73) (le_min v_80) (le_max v_80)) dX12_stillBy_76 (fun v_97 e_98 => ?_)
          refine y_iald C0 h kSM_9 rfl (by decide) (o36_244 l1 u1 e_46 e_48 e_50 e_76 e_77 g_79 e_81 e_83 e_94 e_95 e_98) (o36_245 l1 u1 e_46 e_48 e_50 e_76 e_77 g_79 e_81 e_83 e_94 e_95 e_98) dX12_stillBy_77 (fun v_99 e_100 e_101 e_102 => ?_)
          refine xr_iadd C0 dX12_stillBy_78 (fun v_103 e_104 => ?_)
          refine y_ci h (y_rS (As := [.int x3_6, .int v_103]) (rest := []) C0 hZ h (c_X12_lesser l G Z ad _ h.2 x3_6 v_103) k_X12_lesser q_1784 q_1783 hl.1 rfl rfl (Nat.le_of_ble_eq_true rfl) dX12_stillBy_79 ⟨Nat.le_of_ble_eq_true rfl, Nat.le_of_ble_eq_true rfl⟩ ⟨Nat.le_of_ble_eq_true rfl, Nat.le_of_ble_eq_true rfl⟩) (fun r_108 H locs ws_105 h u_106 p_107 => ?_)
          obtain ⟨e_109, e_110, e_111, e_112⟩ := p_107
          replace HE : FT = g13c_X12_stillBy R7 (xso SM ad ws_105) r_108.toInt a1.toInt a2.toInt x4_5.toInt := HE.trans (by rw [e_109, e_110, e_104, (xg1 e_100 : v_99.toInt = (xso SM ad ws_88) 1 9 v_97.toInt.toNat), e_98]; rfl)
          refine lv_istore_n (lv' := [(3, .int r_108), (5, .int r_31), (4, .int x4_5), (0, .ref (ad 0)), (1, .int a1), (2, .int a2)]) C0.1 C0.2.1 dX12_stillBy_82 rfl hl (by decide) rfl (fun ls hl => ?_)
          refine y_inc (kp := 2) (n := 1) (fun v_113 => [(4, .int v_113), (3, .int r_108), (5, .int r_31), (0, .ref (ad 0)), (1, .int a1), (2, .int a2)]) C0 hl rfl (by decide) (by decide) (fun _ => rfl) (o36_195 b_13 b_14 hn_12 e_16 c_17 (le_min x4_5) (le_max x4_5) (le_min v_15) (le_max v_15)) (o36_196 b_13 b_14 hn_12 e_16 c_17 (le_min x4_5) (le_max x4_5) (le_min v_15) (le_max v_15)) dX12_stillBy_83 (fun v_113 ls e_114 hl => ?_)
          refine lv_goto (tgt := 7) C0.1 C0.2.1 dX12_stillBy_86 (by decide) ?_
          exact ih_10 v_113 r_108 _ _ _ _ (o36_197 b_13 b_14 hn_12 e_16 c_17 e_114) (o36_198 b_13 b_14 hn_12 e_16 c_17 e_114) (o36_199 b_13 b_14 hn_12 e_16 c_17 e_114) (((show FT = R7 (xso SM ad ws_105) a1.toInt a2.toInt r_108.toInt v_113.toInt from HE.trans (by rw [e_114]; rfl)).trans (by rw [hR7]))) h (Fr.tr (Fr.tr (Fr.tr (Fr.tr (Fr.tr hF_8 u_29) u_62) u_71) u_89) u_106) (lv_sub hl [0, 1, 3, 4, 5] rfl)
  exact lp_9 ((4 - v_3.toInt + 1).toNat) v_3 v_1 _ _ _ _ (o36_62 e_4) (o36_63 e_4) (o36_64 e_4) ((show FT = L1_X12_stillBy (Int.toNat (4 - v_3.toInt + 1)) (xso SM ad ws0) a1.toInt a2.toInt v_1.toInt v_3.toInt from HE.trans (by rw [e_4, e_2]; rfl))) h Fr.rf (lv_sub hl [0, 1, 2, 3, 4] rfl)
noncomputable def g10_X12_laysStill (s : XS) : XR := (s, 0)
noncomputable def g16_X12_laysStill (R47 : XS → Int → XR) (s : XS) (x3_30 : Int) : XR := R47 s ((x3_30 + (-1)))
noncomputable def g19w_X12_laysStill (R47 : XS → Int → XR) (R54 : XS → Int → Int → XR) (s : XS) (x3_30 : Int) (x4_42 : Int) : XR := R54 s x3_30 ((x4_42 + 1))
noncomputable def g18c_X12_laysStill (R47 : XS → Int → XR) (R54 : XS → Int → Int → XR) (s : XS) (r_76 : Int) (v_71 : Int) (x3_30 : Int) (x4_42 : Int) : XR := g19w_X12_laysStill R47 R54 (xup s 1 9 (Int.toNat v_71) (r_76)) x3_30 x4_42
noncomputable def g17_X12_laysStill (R47 : XS → Int → XR) (R54 : XS → Int → Int → XR) (s : XS) (x3_30 : Int) (x4_42 : Int) : XR := g18c_X12_laysStill R47 R54 ((f_X12_stillBy s x3_30 x4_42).1) (((f_X12_stillBy s x3_30 x4_42).2)) (((100 * x3_30) + x4_42)) x3_30 x4_42
noncomputable def g15b_X12_laysStill (R47 : XS → Int → XR) (R54 : XS → Int → Int → XR) (s : XS) (v_62 : Int) (x4_42 : Int) (x3_30 : Int) : XR := if x4_42 < v_62 then g17_X12_laysStill R47 R54 s x3_30 x4_42 else g16_X12_laysStill R47 s x3_30
noncomputable def g14c_X12_laysStill (R47 : XS → Int → XR) (R54 : XS → Int → Int → XR) (s : XS) (r_56 : Int) (x4_42 : Int) (x3_30 : Int) : XR := g15b_X12_laysStill R47 R54 s ((4 * r_56)) x4_42 x3_30
noncomputable def g13l_X12_laysStill (R47 : XS → Int → XR) (R54 : XS → Int → Int → XR) (s : XS) (x3_30 : Int) (x4_42 : Int) : XR := g14c_X12_laysStill R47 R54 ((f_X12_crossings s).1) (((f_X12_crossings s).2)) x4_42 x3_30
noncomputable def L12_X12_laysStill (R47 : XS → Int → XR) (n : Nat) : XS → Int → Int → XR := Nat.rec (motive := fun _ => XS → Int → Int → XR) (fun s _ _ => (s, 0)) (fun _ R54 => g13l_X12_laysStill R47 R54) n
noncomputable def g11_X12_laysStill (R47 : XS → Int → XR) (s : XS) (x3_30 : Int) : XR := L12_X12_laysStill R47 (Int.toNat (100 - 0 + 1)) s x3_30 0
noncomputable def g9b_X12_laysStill (R47 : XS → Int → XR) (s : XS) (x3_30 : Int) : XR := if x3_30 < 0 then g10_X12_laysStill s else g11_X12_laysStill R47 s x3_30
noncomputable def g8l_X12_laysStill (R47 : XS → Int → XR) (s : XS) (x3_30 : Int) : XR := g9b_X12_laysStill R47 s x3_30
noncomputable def L7_X12_laysStill (n : Nat) : XS → Int → XR := Nat.rec (motive := fun _ => XS → Int → XR) (fun s _ => (s, 0)) (fun _ R47 => g8l_X12_laysStill R47) n
noncomputable def g5_X12_laysStill (s : XS) (a2 : Int) : XR := L7_X12_laysStill (Int.toNat ((a2 - 1) - (-1) + 1)) s ((a2 - 1))
noncomputable def g23w_X12_laysStill (R2 : XS → Int → Int → Int → XR) (s : XS) (a1 : Int) (a2 : Int) (x3_3 : Int) : XR := R2 s a1 a2 ((x3_3 + 1))
noncomputable def g21_X12_laysStill (R2 : XS → Int → Int → Int → XR) (s : XS) (v_88 : Int) (a1 : Int) (a2 : Int) (x3_3 : Int) : XR := g23w_X12_laysStill R2 (xup s 1 9 (Int.toNat v_88) (1000000000)) a1 a2 x3_3
noncomputable def g24w_X12_laysStill (R2 : XS → Int → Int → Int → XR) (s : XS) (a1 : Int) (a2 : Int) (x3_3 : Int) : XR := R2 s a1 a2 ((x3_3 + 1))
noncomputable def g22_X12_laysStill (R2 : XS → Int → Int → Int → XR) (s : XS) (v_88 : Int) (a1 : Int) (a2 : Int) (x3_3 : Int) : XR := g24w_X12_laysStill R2 (xup s 1 9 (Int.toNat v_88) (0)) a1 a2 x3_3
noncomputable def g20b_X12_laysStill (R2 : XS → Int → Int → Int → XR) (s : XS) (a1 : Int) (v_92 : Int) (v_88 : Int) (a2 : Int) (x3_3 : Int) : XR := if v_92 = a1 then g22_X12_laysStill R2 s v_88 a1 a2 x3_3 else g21_X12_laysStill R2 s v_88 a1 a2 x3_3
noncomputable def g6_X12_laysStill (R2 : XS → Int → Int → Int → XR) (s : XS) (a1 : Int) (a2 : Int) (x3_3 : Int) : XR := g20b_X12_laysStill R2 s a1 ((x3_3 / 4)) (((100 * a2) + x3_3)) a2 x3_3
noncomputable def g4b_X12_laysStill (R2 : XS → Int → Int → Int → XR) (s : XS) (v_23 : Int) (x3_3 : Int) (a1 : Int) (a2 : Int) : XR := if x3_3 < v_23 then g6_X12_laysStill R2 s a1 a2 x3_3 else g5_X12_laysStill s a2
noncomputable def g3c_X12_laysStill (R2 : XS → Int → Int → Int → XR) (s : XS) (r_17 : Int) (x3_3 : Int) (a1 : Int) (a2 : Int) : XR := g4b_X12_laysStill R2 s ((4 * r_17)) x3_3 a1 a2
noncomputable def g2l_X12_laysStill (R2 : XS → Int → Int → Int → XR) (s : XS) (a1 : Int) (a2 : Int) (x3_3 : Int) : XR := g3c_X12_laysStill R2 ((f_X12_crossings s).1) (((f_X12_crossings s).2)) x3_3 a1 a2
noncomputable def L1_X12_laysStill (n : Nat) : XS → Int → Int → Int → XR := Nat.rec (motive := fun _ => XS → Int → Int → Int → XR) (fun s _ _ _ => (s, 0)) (fun _ R2 => g2l_X12_laysStill R2) n
noncomputable def f_X12_laysStill (s : XS) (a1 : Int) (a2 : Int) : XR := L1_X12_laysStill (Int.toNat (100 - 0 + 1)) s a1 a2 0
set_option maxHeartbeats 4000000 in
set_option maxRecDepth 100000 in
theorem c_X12_laysStill (l : Launch) (G : GG) (Z : RZ) (ad : Nat → Nat) (ws0 : va_W) (hT : Ty G SM ad ws0) (a1 : Int32) (a2 : Int32) (l2 : 0 ≤ a2.toInt) (u2 : a2.toInt ≤ 60) (hLd : Laid ws0) : Mq l yX12_laysStill cX12_laysStill 5 none 6 G Z [.ref (ad 0), .int a1, .int a2] ws0 (PV G SM ad [9] ws0 (fun u => (xso SM ad u = (f_X12_laysStill (xso SM ad ws0) a1.toInt a2.toInt).1))) := by
  refine Mq.start (by decide) (Nat.le_of_ble_eq_true rfl) ?_
  intro p e s m below meth c A ls C0 hZ h hl
  have hl : lv_has ls 5 [(0, .ref (ad 0)), (1, .int a1), (2, .int a2)] := hl
  have h : Wt G SM ad A s s.heap [] ws0 := ⟨h, hT⟩
  obtain ⟨args, hargs⟩ : ∃ z, z = ([.ref (ad 0), .int a1, .int a2] : List Value).toArray := ⟨_, rfl⟩
  rw [← hargs] at C0 ⊢
  have C0 : Cx p s m args meth c RX12 cX12_laysStill 5 none := C0
  obtain ⟨Q, hQ⟩ : ∃ z, z = MQ below ((PV G SM ad [9] ws0 (fun u => (xso SM ad u = (f_X12_laysStill (xso SM ad ws0) a1.toInt a2.toInt).1))) A) args s 0 0 A := ⟨_, rfl⟩
  rw [← hQ]
  obtain ⟨FT, hFT⟩ : ∃ z, z = f_X12_laysStill (xso SM ad ws0) a1.toInt a2.toInt := ⟨_, rfl⟩
  have HE : FT = f_X12_laysStill (xso SM ad ws0) a1.toInt a2.toInt := hFT
  refine y_c1 (n := 0) C0 (by decide) dX12_laysStill_0 (fun v_1 e_2 => ?_)
  refine lv_istore_n (lv' := [(3, .int v_1), (0, .ref (ad 0)), (1, .int a1), (2, .int a2)]) C0.1 C0.2.1 dX12_laysStill_1 rfl hl (by decide) rfl (fun ls hl => ?_)
  have lp_6 : ∀ (n_8 : Nat) (x3_3 : Int32) (H : Heap) (locs : List Loc) (ls : Array Slot) (ws_4 : va_W), 100 - x3_3.toInt < (n_8 : Int) → 0 ≤ x3_3.toInt → x3_3.toInt ≤ 100 → (FT = L1_X12_laysStill n_8 (xso SM ad ws_4) a1.toInt a2.toInt x3_3.toInt) → Wt G SM ad A s H locs ws_4 → Fr SM [9] ws0 ws_4 → lv_has ls 5 [(3, .int x3_3), (0, .ref (ad 0)), (1, .int a1), (2, .int a2)] → W p l e (rmd 6 0 0) s m args below meth c H locs 0 0 Q (F0 m 2 ls []) := by
    intro n_8
    induction n_8 with
    | zero => intro x3_3 H locs ls ws_4 hn_9 b_10 b_11 HE h hF_5 hl; exact ((o36_134 b_10 b_11 hn_9)).elim
    | succ n_8 ih_7 =>
      intro x3_3 H locs ls ws_4 hn_9 b_10 b_11 HE h hF_5 hl
      obtain ⟨R2, hR2⟩ : ∃ z, z = L1_X12_laysStill n_8 := ⟨_, rfl⟩
      replace HE : FT = g2l_X12_laysStill R2 (xso SM ad ws_4) a1.toInt a2.toInt x3_3.toInt := HE.trans (by rw [hR2]; rfl)
      refine lv_iload_n C0.1 C0.2.1 dX12_laysStill_2 rfl (lv_at hl 0 rfl) ?_
      refine y_c1 (n := 4) C0 (by decide) dX12_laysStill_3 (fun v_12 e_13 => ?_)
      refine lv_aload_n C0.1 C0.2.1 dX12_laysStill_4 rfl (lv_at hl 1 rfl) ?_
      refine y_ci h (y_rV (As := []) (rest := [.int v_12, .int x3_3]) C0 hZ h (c_X12_crossings l G Z ad _ h.2) k_X12_crossings q_1705 q_79 q_1703 kSM_0 rfl rfl rfl hl.1 rfl rfl (Nat.le_of_ble_eq_true rfl) dX12_laysStill_5 ⟨Nat.le_of_ble_eq_true rfl, Nat.le_of_ble_eq_true rfl⟩ ⟨Nat.le_of_ble_eq_true rfl, Nat.le_of_ble_eq_true rfl⟩) (fun r_17 H locs ws_14 h u_15 p_16 => ?_)
      obtain ⟨e_18, e_19, e_20, e_21, e_22⟩ := p_16
      replace HE : FT = g3c_X12_laysStill R2 (xso SM ad ws_14) r_17.toInt x3_3.toInt a1.toInt a2.toInt := HE.trans (by rw [e_18, e_19]; rfl)
      refine y_cmul (n := 4) C0 (o36_20 e_13) (o36_135 e_20 e_21 (le_min r_17) (le_max r_17)) (o36_136 e_20 e_21 (le_min r_17) (le_max r_17)) dX12_laysStill_8 (fun v_23 e_24 => ?_)
      replace HE : FT = g4b_X12_laysStill R2 (xso SM ad ws_14) v_23.toInt x3_3.toInt a1.toInt a2.toInt := HE.trans (by rw [e_24]; rfl)
      refine y_icmp_ge (tgt := 43) C0 dX12_laysStill_9 (by decide) (fun c_25 => ?_) (fun c_25 => ?_)
      · -- 9
        replace HE : FT = g5_X12_laysStill (xso SM ad ws_14) a2.toInt := HE.trans (if_neg (Int.not_lt.mpr c_25))
        refine lv_iload_n C0.1 C0.2.1 dX12_laysStill_43 rfl (lv_at hl 3 rfl) ?_
        refine y_c1 (n := 1) C0 (by decide) dX12_laysStill_44 (fun v_26 e_27 => ?_)
        refine y_sub C0 (o36_246 l2 u2 e_27 (le_min a2) (le_max a2) (le_min v_26) (le_max v_26)) (o36_247 l2 u2 e_27 (le_min a2) (le_max a2) (le_min v_26) (le_max v_26)) dX12_laysStill_45 (fun v_28 e_29 => ?_)
        refine lv_istore_n (lv' := [(3, .int v_28), (0, .ref (ad 0)), (1, .int a1), (2, .int a2)]) C0.1 C0.2.1 dX12_laysStill_46 rfl hl (by decide) rfl (fun ls hl => ?_)
        have lp_33 : ∀ (n_35 : Nat) (x3_30 : Int32) (H : Heap) (locs : List Loc) (ls : Array Slot) (ws_31 : va_W), x3_30.toInt - (-1) < (n_35 : Int) → (-1) ≤ x3_30.toInt → x3_30.toInt ≤ 59 → (FT = L7_X12_laysStill n_35 (xso SM ad ws_31) x3_30.toInt) → Wt G SM ad A s H locs ws_31 → Fr SM [9] ws_14 ws_31 → lv_has ls 5 [(3, .int x3_30), (0, .ref (ad 0)), (1, .int a1), (2, .int a2)] → W p l e (rmd 6 0 0) s m args below meth c H locs 0 0 Q (F0 m 47 ls []) := by
          intro n_35
          induction n_35 with
          | zero => intro x3_30 H locs ls ws_31 hn_36 b_37 b_38 HE h hF_32 hl; exact ((o36_248 b_37 b_38 hn_36)).elim
          | succ n_35 ih_34 =>
            intro x3_30 H locs ls ws_31 hn_36 b_37 b_38 HE h hF_32 hl
            obtain ⟨R47, hR47⟩ : ∃ z, z = L7_X12_laysStill n_35 := ⟨_, rfl⟩
            replace HE : FT = g8l_X12_laysStill R47 (xso SM ad ws_31) x3_30.toInt := HE.trans (by rw [hR47]; rfl)
            refine lv_iload_n C0.1 C0.2.1 dX12_laysStill_47 rfl (lv_at hl 0 rfl) ?_
            replace HE : FT = g9b_X12_laysStill R47 (xso SM ad ws_31) x3_30.toInt := HE.trans rfl
            refine y_if_lt (tgt := 96) C0 dX12_laysStill_48 (by decide) (fun c_39 => ?_) (fun c_39 => ?_)
            · -- 48
              replace HE : FT = g10_X12_laysStill (xso SM ad ws_31) := HE.trans (if_pos c_39)
              replace HE : FT = ((xso SM ad ws_31), 0) := HE.trans rfl
              rw [hQ]
              exact y_vret C0 h (Fr.tr (Fr.tr hF_5 (Fr.mono u_15 (by decide))) hF_32) (congrArg Prod.fst (HE.symm.trans hFT)) dX12_laysStill_96
            · -- 48
              replace HE : FT = g11_X12_laysStill R47 (xso SM ad ws_31) x3_30.toInt := HE.trans (if_neg (Int.not_lt.mpr c_39))
              refine y_c1 (n := 0) C0 (by decide) dX12_laysStill_51 (fun v_40 e_41 => ?_)
              refine lv_istore (lv' := [(4, .int v_40), (3, .int x3_30), (0, .ref (ad 0)), (1, .int a1), (2, .int a2)]) C0.1 C0.2.1 dX12_laysStill_52 hl (by decide) rfl (fun ls hl => ?_)
              have lp_45 : ∀ (n_47 : Nat) (x4_42 : Int32) (H : Heap) (locs : List Loc) (ls : Array Slot) (ws_43 : va_W), 100 - x4_42.toInt < (n_47 : Int) → 0 ≤ x4_42.toInt → x4_42.toInt ≤ 100 → (FT = L12_X12_laysStill R47 n_47 (xso SM ad ws_43) x3_30.toInt x4_42.toInt) → Wt G SM ad A s H locs ws_43 → Fr SM [9] ws_31 ws_43 → lv_has ls 5 [(4, .int x4_42), (3, .int x3_30), (0, .ref (ad 0)), (1, .int a1), (2, .int a2)] → W p l e (rmd 6 0 0) s m args below meth c H locs 0 0 Q (F0 m 54 ls []) := by
                intro n_47
                induction n_47 with
                | zero => intro x4_42 H locs ls ws_43 hn_48 b_49 b_50 HE h hF_44 hl; exact ((o36_134 b_49 b_50 hn_48)).elim
                | succ n_47 ih_46 =>
                  intro x4_42 H locs ls ws_43 hn_48 b_49 b_50 HE h hF_44 hl
                  obtain ⟨R54, hR54⟩ : ∃ z, z = L12_X12_laysStill R47 n_47 := ⟨_, rfl⟩
                  replace HE : FT = g13l_X12_laysStill R47 R54 (xso SM ad ws_43) x3_30.toInt x4_42.toInt := HE.trans (by rw [hR54]; rfl)
                  refine lv_iload C0.1 C0.2.1 dX12_laysStill_54 (lv_at hl 0 rfl) ?_
                  refine y_c1 (n := 4) C0 (by decide) dX12_laysStill_56 (fun v_51 e_52 => ?_)
                  refine lv_aload_n C0.1 C0.2.1 dX12_laysStill_57 rfl (lv_at hl 2 rfl) ?_
                  refine y_ci h (y_rV (As := []) (rest := [.int v_51, .int x4_42]) C0 hZ h (c_X12_crossings l G Z ad _ h.2) k_X12_crossings q_1705 q_79 q_1703 kSM_0 rfl rfl rfl hl.1 rfl rfl (Nat.le_of_ble_eq_true rfl) dX12_laysStill_58 ⟨Nat.le_of_ble_eq_true rfl, Nat.le_of_ble_eq_true rfl⟩ ⟨Nat.le_of_ble_eq_true rfl, Nat.le_of_ble_eq_true rfl⟩) (fun r_56 H locs ws_53 h u_54 p_55 => ?_)
                  obtain ⟨e_57, e_58, e_59, e_60, e_61⟩ := p_55
                  replace HE : FT = g14c_X12_laysStill R47 R54 (xso SM ad ws_53) r_56.toInt x4_42.toInt x3_30.toInt := HE.trans (by rw [e_57, e_58]; rfl)
                  refine y_cmul (n := 4) C0 (o36_20 e_52) (o36_135 e_59 e_60 (le_min r_56) (le_max r_56)) (o36_136 e_59 e_60 (le_min r_56) (le_max r_56)) dX12_laysStill_61 (fun v_62 e_63 => ?_)
                  replace HE : FT = g15b_X12_laysStill R47 R54 (xso SM ad ws_53) v_62.toInt x4_42.toInt x3_30.toInt := HE.trans (by rw [e_63]; rfl)
                  refine y_icmp_ge (tgt := 90) C0 dX12_laysStill_62 (by decide) (fun c_64 => ?_) (fun c_64 => ?_)
                  · -- 62
                    replace HE : FT = g16_X12_laysStill R47 (xso SM ad ws_53) x3_30.toInt := HE.trans (if_neg (Int.not_lt.mpr c_64))
                    refine y_inc (kp := 1) (n := (-1)) (fun v_65 => [(3, .int v_65), (4, .int x4_42), (0, .ref (ad 0)), (1, .int a1), (2, .int a2)]) C0 hl rfl (by decide) (by decide) (fun _ => rfl) (o36_249 b_37 b_38 hn_36 c_39 (le_min x3_30) (le_max x3_30)) (o36_250 b_37 b_38 hn_36 c_39 (le_min x3_30) (le_max x3_30)) dX12_laysStill_90 (fun v_65 ls e_66 hl => ?_)
                    refine lv_goto (tgt := 47) C0.1 C0.2.1 dX12_laysStill_93 (by decide) ?_
                    exact ih_34 v_65 _ _ _ _ (o36_251 b_37 b_38 hn_36 c_39 e_66) (o36_252 b_37 b_38 hn_36 c_39 e_66) (o36_253 b_37 b_38 hn_36 c_39 e_66) (((show FT = R47 (xso SM ad ws_53) v_65.toInt from HE.trans (by rw [e_66]; rfl)).trans (by rw [hR47]))) h (Fr.tr (Fr.tr hF_32 hF_44) (Fr.mono u_54 (by decide))) (lv_sub hl [0, 2, 3, 4] rfl)
                  · -- 62
                    replace HE : FT = g17_X12_laysStill R47 R54 (xso SM ad ws_53) x3_30.toInt x4_42.toInt := HE.trans (if_pos c_64)
                    refine lv_aload_n C0.1 C0.2.1 dX12_laysStill_65 rfl (lv_at hl 2 rfl) ?_
                    refine ng_X12_still C0 h kSM_0 q_1460 dX12_laysStill_66 ?_
                    refine y_c2 (n := 100) C0 (by decide) dX12_laysStill_69 (fun v_67 e_68 => ?_)
                    refine lv_iload_n C0.1 C0.2.1 dX12_laysStill_71 rfl (lv_at hl 1 rfl) ?_
                    refine y_cmul (n := 100) C0 (o36_28 e_68) (o36_254 b_37 b_38 hn_36 c_39 (le_min x3_30) (le_max x3_30)) (o36_255 b_37 b_38 hn_36 c_39 (le_min x3_30) (le_max x3_30)) dX12_laysStill_72 (fun v_69 e_70 => ?_)
                    refine lv_iload C0.1 C0.2.1 dX12_laysStill_73 (lv_at hl 0 rfl) ?_
                    refine y_add C0 (o36_256 b_37 b_38 hn_36 c_39 b_49 b_50 hn_48 e_59 e_60 e_63 c_64 e_70 (le_min v_69) (le_max v_69) (le_min x4_42) (le_max x4_42) (le_min x3_30) (le_max x3_30) (le_min r_56) (le_max r_56) (le_min v_62) (le_max v_62)) (o36_257 b_37 b_38 hn_36 c_39 b_49 b_50 hn_48 e_59 e_60 e_63 c_64 e_70 (le_min v_69) (le_max v_69) (le_min x4_42) (le_max x4_42) (le_min x3_30) (le_max x3_30) (le_min r_56) (le_max r_56) (le_min v_62) (le_max v_62)) dX12_laysStill_75 (fun v_71 e_72 => ?_)
                    refine lv_aload_n C0.1 C0.2.1 dX12_laysStill_76 rfl (lv_at hl 2 rfl) ?_
                    refine lv_iload_n C0.1 C0.2.1 dX12_laysStill_77 rfl (lv_at hl 1 rfl) ?_
                    refine lv_iload C0.1 C0.2.1 dX12_laysStill_78 (lv_at hl 0 rfl) ?_
                    refine y_ci h (y_rV (As := [.int x3_30, .int x4_42]) (rest := [.int v_71, .ref (ad 9)]) C0 hZ h (c_X12_stillBy l G Z ad _ h.2 x3_30 x4_42 (o36_258 b_37 b_38 hn_36 c_39 b_49 b_50 hn_48 e_59 e_60 e_63 c_64 e_70 e_72) (o36_259 b_37 b_38 hn_36 c_39 b_49 b_50 hn_48 e_59 e_60 e_63 c_64 e_70 e_72) (o36_260 b_37 b_38 hn_36 c_39 b_49 b_50 hn_48 e_59 e_60 e_63 c_64 e_70 e_72) (o36_261 b_37 b_38 hn_36 c_39 b_49 b_50 hn_48 e_59 e_60 e_63 c_64 e_70 e_72) (Laid.pa hLd (Pa.tr (Pa.tr (Pa.tr (Pa.tr (Pa.fr hF_5 (by decide)) (Pa.fr u_15 (by decide))) (Pa.fr hF_32 (by decide))) (Pa.fr hF_44 (by decide))) (Pa.fr u_54 (by decide))))) k_X12_stillBy q_1918 q_110 q_1916 kSM_0 rfl rfl rfl hl.1 rfl rfl (Nat.le_of_ble_eq_true rfl) dX12_laysStill_80 ⟨Nat.le_of_ble_eq_true rfl, Nat.le_of_ble_eq_true rfl⟩ ⟨Nat.le_of_ble_eq_true rfl, Nat.le_of_ble_eq_true rfl⟩) (fun r_76 H locs ws_73 h u_74 p_75 => ?_)
                    obtain ⟨e_77, e_78⟩ := p_75
                    replace HE : FT = g18c_X12_laysStill R47 R54 (xso SM ad ws_73) r_76.toInt v_71.toInt x3_30.toInt x4_42.toInt := HE.trans (by rw [e_77, e_72, e_70, e_78]; rfl)
                    have hO_81 := h.2
                    refine y_iast C0 h kSM_9 rfl (by decide) (o36_262 b_37 b_38 hn_36 c_39 b_49 b_50 hn_48 e_59 e_60 e_63 c_64 e_70 e_72) (o36_263 b_37 b_38 hn_36 c_39 b_49 b_50 hn_48 e_59 e_60 e_63 c_64 e_70 e_72) (le_min r_76) (le_max r_76) dX12_laysStill_83 (fun H locs ws_79 h u_80 => ?_)
                    replace HE : FT = g19w_X12_laysStill R47 R54 (xso SM ad ws_79) x3_30.toInt x4_42.toInt := HE.trans (by rw [(xso_A (i := 9) hO_81 h.2 kSM_9 rfl u_80)]; rfl)
                    refine y_inc (kp := 0) (n := 1) (fun v_82 => [(4, .int v_82), (3, .int x3_30), (0, .ref (ad 0)), (1, .int a1), (2, .int a2)]) C0 hl rfl (by decide) (by decide) (fun _ => rfl) (o36_264 b_37 b_38 hn_36 c_39 b_49 b_50 hn_48 e_59 e_60 e_63 c_64 e_70 e_72 (le_min x4_42) (le_max x4_42) (le_min x3_30) (le_max x3_30) (le_min r_56) (le_max r_56) (le_min v_62) (le_max v_62) (le_min v_69) (le_max v_69) (le_min v_71) (le_max v_71)) (o36_265 b_37 b_38 hn_36 c_39 b_49 b_50 hn_48 e_59 e_60 e_63 c_64 e_70 e_72 (le_min x4_42) (le_max x4_42) (le_min x3_30) (le_max x3_30) (le_min r_56) (le_max r_56) (le_min v_62) (le_max v_62) (le_min v_69) (le_max v_69) (le_min v_71) (le_max v_71)) dX12_laysStill_84 (fun v_82 ls e_83 hl => ?_)
                    refine lv_goto (tgt := 54) C0.1 C0.2.1 dX12_laysStill_87 (by decide) ?_
                    exact ih_46 v_82 _ _ _ _ (o36_266 b_37 b_38 hn_36 c_39 b_49 b_50 hn_48 e_59 e_60 e_63 c_64 e_70 e_72 e_83) (o36_267 b_37 b_38 hn_36 c_39 b_49 b_50 hn_48 e_59 e_60 e_63 c_64 e_70 e_72 e_83) (o36_268 b_37 b_38 hn_36 c_39 b_49 b_50 hn_48 e_59 e_60 e_63 c_64 e_70 e_72 e_83) (((show FT = R54 (xso SM ad ws_79) x3_30.toInt v_82.toInt from HE.trans (by rw [e_83]; rfl)).trans (by rw [hR54]))) h (Fr.tr (Fr.tr (Fr.tr hF_44 (Fr.mono u_54 (by decide))) (Fr.mono u_74 (by decide))) (Fr.up u_80.1 kSM_9 (by decide))) (lv_sub hl [0, 1, 2, 3, 4] rfl)
              exact lp_45 ((100 - v_40.toInt + 1).toNat) v_40 _ _ _ _ (o36_200 e_41) (o36_63 e_41) (o36_201 e_41) ((show FT = L12_X12_laysStill R47 (Int.toNat (100 - v_40.toInt + 1)) (xso SM ad ws_31) x3_30.toInt v_40.toInt from HE.trans (by rw [e_41]; rfl))) h Fr.rf (lv_sub hl [0, 1, 2, 3, 4] rfl)
        exact lp_33 ((v_28.toInt - (-1) + 1).toNat) v_28 _ _ _ _ (o36_269 l2 u2 e_27 e_29) (o36_270 l2 u2 e_27 e_29) (o36_271 l2 u2 e_27 e_29) ((show FT = L7_X12_laysStill (Int.toNat (v_28.toInt - (-1) + 1)) (xso SM ad ws_14) v_28.toInt from HE.trans (by rw [e_29, e_27]; rfl))) h Fr.rf (lv_sub hl [0, 1, 2, 3] rfl)
      · -- 9
        replace HE : FT = g6_X12_laysStill R2 (xso SM ad ws_14) a1.toInt a2.toInt x3_3.toInt := HE.trans (if_pos c_25)
        refine lv_aload_n C0.1 C0.2.1 dX12_laysStill_12 rfl (lv_at hl 1 rfl) ?_
        refine ng_X12_still C0 h kSM_0 q_1460 dX12_laysStill_13 ?_
        refine y_c2 (n := 100) C0 (by decide) dX12_laysStill_16 (fun v_84 e_85 => ?_)
        refine lv_iload_n C0.1 C0.2.1 dX12_laysStill_18 rfl (lv_at hl 3 rfl) ?_
        refine y_cmul (n := 100) C0 (o36_28 e_85) (o36_87 l2 u2 (le_min a2) (le_max a2)) (o36_88 l2 u2 (le_min a2) (le_max a2)) dX12_laysStill_19 (fun v_86 e_87 => ?_)
        refine lv_iload_n C0.1 C0.2.1 dX12_laysStill_20 rfl (lv_at hl 0 rfl) ?_
        refine y_add C0 (o36_272 l2 u2 b_10 b_11 hn_9 e_20 e_21 e_24 c_25 e_87 (le_min v_86) (le_max v_86) (le_min x3_3) (le_max x3_3) (le_min a2) (le_max a2) (le_min r_17) (le_max r_17) (le_min v_23) (le_max v_23)) (o36_273 l2 u2 b_10 b_11 hn_9 e_20 e_21 e_24 c_25 e_87 (le_min v_86) (le_max v_86) (le_min x3_3) (le_max x3_3) (le_min a2) (le_max a2) (le_min r_17) (le_max r_17) (le_min v_23) (le_max v_23)) dX12_laysStill_21 (fun v_88 e_89 => ?_)
        refine lv_iload_n C0.1 C0.2.1 dX12_laysStill_22 rfl (lv_at hl 0 rfl) ?_
        refine y_c1 (n := 4) C0 (by decide) dX12_laysStill_23 (fun v_90 e_91 => ?_)
        refine y_divc (n := 4) C0 (o36_20 e_91) (by decide) (o36_274 l2 u2 b_10 b_11 hn_9 e_20 e_21 e_24 c_25 e_87 e_89) dX12_laysStill_24 (fun v_92 e_93 => ?_)
        refine lv_iload_n C0.1 C0.2.1 dX12_laysStill_25 rfl (lv_at hl 2 rfl) ?_
        replace HE : FT = g20b_X12_laysStill R2 (xso SM ad ws_14) a1.toInt v_92.toInt v_88.toInt a2.toInt x3_3.toInt := HE.trans (by rw [e_89, e_87, e_93]; rfl)
        refine y_icmp_ne (tgt := 33) C0 dX12_laysStill_26 (by decide) (fun c_94 => ?_) (fun c_94 => ?_)
        · -- 26
          replace HE : FT = g21_X12_laysStill R2 (xso SM ad ws_14) v_88.toInt a1.toInt a2.toInt x3_3.toInt := HE.trans (if_neg c_94)
          refine y_c5 (n := 1000000000) C0 q_1887 (by decide) dX12_laysStill_33 (fun v_95 e_96 => ?_)
          have hO_99 := h.2
          refine y_iast C0 h kSM_9 rfl (by decide) (o36_275 l2 u2 b_10 b_11 hn_9 e_20 e_21 e_24 c_25 e_87 e_89 e_93 c_94) (o36_276 l2 u2 b_10 b_11 hn_9 e_20 e_21 e_24 c_25 e_87 e_89 e_93 c_94) (le_min v_95) (le_max v_95) dX12_laysStill_36 (fun H locs ws_97 h u_98 => ?_)
          replace HE : FT = g23w_X12_laysStill R2 (xso SM ad ws_97) a1.toInt a2.toInt x3_3.toInt := HE.trans (by rw [(xso_A (i := 9) hO_99 h.2 kSM_9 rfl u_98), e_96]; rfl)
          refine y_inc (kp := 0) (n := 1) (fun v_100 => [(3, .int v_100), (0, .ref (ad 0)), (1, .int a1), (2, .int a2)]) C0 hl rfl (by decide) (by decide) (fun _ => rfl) (o36_277 l2 u2 b_10 b_11 hn_9 e_20 e_21 e_24 c_25 e_87 e_89 e_93 c_94 (le_min x3_3) (le_max x3_3) (le_min a2) (le_max a2) (le_min r_17) (le_max r_17) (le_min v_23) (le_max v_23) (le_min v_86) (le_max v_86) (le_min v_88) (le_max v_88) (le_min v_92) (le_max v_92) (le_min a1) (le_max a1)) (o36_278 l2 u2 b_10 b_11 hn_9 e_20 e_21 e_24 c_25 e_87 e_89 e_93 c_94 (le_min x3_3) (le_max x3_3) (le_min a2) (le_max a2) (le_min r_17) (le_max r_17) (le_min v_23) (le_max v_23) (le_min v_86) (le_max v_86) (le_min v_88) (le_max v_88) (le_min v_92) (le_max v_92) (le_min a1) (le_max a1)) dX12_laysStill_37 (fun v_100 ls e_101 hl => ?_)
          refine lv_goto (tgt := 2) C0.1 C0.2.1 dX12_laysStill_40 (by decide) ?_
          exact ih_7 v_100 _ _ _ _ (o36_279 l2 u2 b_10 b_11 hn_9 e_20 e_21 e_24 c_25 e_87 e_89 e_93 c_94 e_101) (o36_280 l2 u2 b_10 b_11 hn_9 e_20 e_21 e_24 c_25 e_87 e_89 e_93 c_94 e_101) (o36_281 l2 u2 b_10 b_11 hn_9 e_20 e_21 e_24 c_25 e_87 e_89 e_93 c_94 e_101) (((show FT = R2 (xso SM ad ws_97) a1.toInt a2.toInt v_100.toInt from HE.trans (by rw [e_101]; rfl)).trans (by rw [hR2]))) h (Fr.tr (Fr.tr hF_5 (Fr.mono u_15 (by decide))) (Fr.up u_98.1 kSM_9 (by decide))) (lv_sub hl [0, 1, 2, 3] rfl)
        · -- 26
          replace HE : FT = g22_X12_laysStill R2 (xso SM ad ws_14) v_88.toInt a1.toInt a2.toInt x3_3.toInt := HE.trans (if_pos c_94)
          refine y_c1 (n := 0) C0 (by decide) dX12_laysStill_29 (fun v_102 e_103 => ?_)
          refine lv_goto (tgt := 36) C0.1 C0.2.1 dX12_laysStill_30 (by decide) ?_
          have hO_106 := h.2
          refine y_iast C0 h kSM_9 rfl (by decide) (o36_282 l2 u2 b_10 b_11 hn_9 e_20 e_21 e_24 c_25 e_87 e_89 e_93 c_94) (o36_283 l2 u2 b_10 b_11 hn_9 e_20 e_21 e_24 c_25 e_87 e_89 e_93 c_94) (le_min v_102) (le_max v_102) dX12_laysStill_36 (fun H locs ws_104 h u_105 => ?_)
          replace HE : FT = g24w_X12_laysStill R2 (xso SM ad ws_104) a1.toInt a2.toInt x3_3.toInt := HE.trans (by rw [(xso_A (i := 9) hO_106 h.2 kSM_9 rfl u_105), e_103]; rfl)
          refine y_inc (kp := 0) (n := 1) (fun v_107 => [(3, .int v_107), (0, .ref (ad 0)), (1, .int a1), (2, .int a2)]) C0 hl rfl (by decide) (by decide) (fun _ => rfl) (o36_284 l2 u2 b_10 b_11 hn_9 e_20 e_21 e_24 c_25 e_87 e_89 e_93 c_94 (le_min x3_3) (le_max x3_3) (le_min a2) (le_max a2) (le_min r_17) (le_max r_17) (le_min v_23) (le_max v_23) (le_min v_86) (le_max v_86) (le_min v_88) (le_max v_88) (le_min v_92) (le_max v_92) (le_min a1) (le_max a1)) (o36_285 l2 u2 b_10 b_11 hn_9 e_20 e_21 e_24 c_25 e_87 e_89 e_93 c_94 (le_min x3_3) (le_max x3_3) (le_min a2) (le_max a2) (le_min r_17) (le_max r_17) (le_min v_23) (le_max v_23) (le_min v_86) (le_max v_86) (le_min v_88) (le_max v_88) (le_min v_92) (le_max v_92) (le_min a1) (le_max a1)) dX12_laysStill_37 (fun v_107 ls e_108 hl => ?_)
          refine lv_goto (tgt := 2) C0.1 C0.2.1 dX12_laysStill_40 (by decide) ?_
          exact ih_7 v_107 _ _ _ _ (o36_286 l2 u2 b_10 b_11 hn_9 e_20 e_21 e_24 c_25 e_87 e_89 e_93 c_94 e_108) (o36_287 l2 u2 b_10 b_11 hn_9 e_20 e_21 e_24 c_25 e_87 e_89 e_93 c_94 e_108) (o36_288 l2 u2 b_10 b_11 hn_9 e_20 e_21 e_24 c_25 e_87 e_89 e_93 c_94 e_108) (((show FT = R2 (xso SM ad ws_104) a1.toInt a2.toInt v_107.toInt from HE.trans (by rw [e_108]; rfl)).trans (by rw [hR2]))) h (Fr.tr (Fr.tr hF_5 (Fr.mono u_15 (by decide))) (Fr.up u_105.1 kSM_9 (by decide))) (lv_sub hl [0, 1, 2, 3] rfl)
  exact lp_6 ((100 - v_1.toInt + 1).toNat) v_1 _ _ _ _ (o36_200 e_2) (o36_63 e_2) (o36_201 e_2) ((show FT = L1_X12_laysStill (Int.toNat (100 - v_1.toInt + 1)) (xso SM ad ws0) a1.toInt a2.toInt v_1.toInt from HE.trans (by rw [e_2]; rfl))) h Fr.rf (lv_sub hl [0, 1, 2, 3] rfl)
noncomputable def g4_X12_leastAt (s : XS) (x3_6 : Int) : XR := (s, x3_6)
noncomputable def g6c_X12_leastAt (R7 : XS → Int → Int → Int → Int → XR) (s : XS) (r_37 : Int) (a1 : Int) (a2 : Int) (x4_5 : Int) : XR := R7 s a1 a2 r_37 ((x4_5 + 1))
noncomputable def g5_X12_leastAt (R7 : XS → Int → Int → Int → Int → XR) (s : XS) (a1 : Int) (a2 : Int) (x3_6 : Int) (x4_5 : Int) : XR := g6c_X12_leastAt R7 ((f_X12_lesser s x3_6 (s 1 8 (Int.toNat (((100 * a1) + (4 * a2)) + x4_5)))).1) (((f_X12_lesser s x3_6 (s 1 8 (Int.toNat (((100 * a1) + (4 * a2)) + x4_5)))).2)) a1 a2 x4_5
noncomputable def g3b_X12_leastAt (R7 : XS → Int → Int → Int → Int → XR) (s : XS) (x4_5 : Int) (a1 : Int) (a2 : Int) (x3_6 : Int) : XR := if x4_5 < 4 then g5_X12_leastAt R7 s a1 a2 x3_6 x4_5 else g4_X12_leastAt s x3_6
noncomputable def g2l_X12_leastAt (R7 : XS → Int → Int → Int → Int → XR) (s : XS) (a1 : Int) (a2 : Int) (x3_6 : Int) (x4_5 : Int) : XR := g3b_X12_leastAt R7 s x4_5 a1 a2 x3_6
noncomputable def L1_X12_leastAt (n : Nat) : XS → Int → Int → Int → Int → XR := Nat.rec (motive := fun _ => XS → Int → Int → Int → Int → XR) (fun s _ _ _ _ => (s, 0)) (fun _ R7 => g2l_X12_leastAt R7) n
noncomputable def f_X12_leastAt (s : XS) (a1 : Int) (a2 : Int) : XR := L1_X12_leastAt (Int.toNat (4 - 0 + 1)) s a1 a2 1000000000 0
set_option maxHeartbeats 4000000 in
set_option maxRecDepth 100000 in
theorem c_X12_leastAt (l : Launch) (G : GG) (Z : RZ) (ad : Nat → Nat) (ws0 : va_W) (hT : Ty G SM ad ws0) (a1 : Int32) (a2 : Int32) (l1 : 0 ≤ a1.toInt) (u1 : a1.toInt ≤ 60) (l2 : 0 ≤ a2.toInt) (u2 : a2.toInt ≤ 24) : Mq l yX12_leastAt cX12_leastAt 5 (some .int) 2 G Z [.ref (ad 0), .int a1, .int a2] ws0 (PI G SM ad [] ws0 (fun r u => (xso SM ad u = (f_X12_leastAt (xso SM ad ws0) a1.toInt a2.toInt).1) ∧ (r.toInt = (f_X12_leastAt (xso SM ad ws0) a1.toInt a2.toInt).2) ∧ (r.toInt = lA ws0 a1.toInt a2.toInt 4))) := by
  refine Mq.start (by decide) (Nat.le_of_ble_eq_true rfl) ?_
  intro p e s m below meth c A ls C0 hZ h hl
  have hl : lv_has ls 5 [(0, .ref (ad 0)), (1, .int a1), (2, .int a2)] := hl
  have h : Wt G SM ad A s s.heap [] ws0 := ⟨h, hT⟩
  obtain ⟨args, hargs⟩ : ∃ z, z = ([.ref (ad 0), .int a1, .int a2] : List Value).toArray := ⟨_, rfl⟩
  rw [← hargs] at C0 ⊢
  have C0 : Cx p s m args meth c RX12 cX12_leastAt 5 (some .int) := C0
  obtain ⟨Q, hQ⟩ : ∃ z, z = MQ below ((PI G SM ad [] ws0 (fun r u => (xso SM ad u = (f_X12_leastAt (xso SM ad ws0) a1.toInt a2.toInt).1) ∧ (r.toInt = (f_X12_leastAt (xso SM ad ws0) a1.toInt a2.toInt).2) ∧ (r.toInt = lA ws0 a1.toInt a2.toInt 4))) A) args s 0 0 A := ⟨_, rfl⟩
  rw [← hQ]
  obtain ⟨FT, hFT⟩ : ∃ z, z = f_X12_leastAt (xso SM ad ws0) a1.toInt a2.toInt := ⟨_, rfl⟩
  have HE : FT = f_X12_leastAt (xso SM ad ws0) a1.toInt a2.toInt := hFT
  refine y_c5 (n := 1000000000) C0 q_1887 (by decide) dX12_leastAt_0 (fun v_1 e_2 => ?_)
  refine lv_istore_n (lv' := [(3, .int v_1), (0, .ref (ad 0)), (1, .int a1), (2, .int a2)]) C0.1 C0.2.1 dX12_leastAt_3 rfl hl (by decide) rfl (fun ls hl => ?_)
  refine y_c1 (n := 0) C0 (by decide) dX12_leastAt_4 (fun v_3 e_4 => ?_)
  refine lv_istore (lv' := [(4, .int v_3), (3, .int v_1), (0, .ref (ad 0)), (1, .int a1), (2, .int a2)]) C0.1 C0.2.1 dX12_leastAt_5 hl (by decide) rfl (fun ls hl => ?_)
  have lp_9 : ∀ (n_11 : Nat) (x4_5 : Int32) (x3_6 : Int32) (H : Heap) (locs : List Loc) (ls : Array Slot) (ws_7 : va_W), 4 - x4_5.toInt < (n_11 : Int) → 0 ≤ x4_5.toInt → x4_5.toInt ≤ 4 → (x3_6.toInt = lA ws0 a1.toInt a2.toInt x4_5.toInt.toNat) → (FT = L1_X12_leastAt n_11 (xso SM ad ws_7) a1.toInt a2.toInt x3_6.toInt x4_5.toInt) → Wt G SM ad A s H locs ws_7 → Fr SM [] ws0 ws_7 → lv_has ls 5 [(4, .int x4_5), (3, .int x3_6), (0, .ref (ad 0)), (1, .int a1), (2, .int a2)] → W p l e (rmd 2 0 0) s m args below meth c H locs 0 0 Q (F0 m 7 ls []) := by
    intro n_11
    induction n_11 with
    | zero => intro x4_5 x3_6 H locs ls ws_7 hn_12 b_13 b_14 hLA HE h hF_8 hl; exact ((o36_19 b_13 b_14 hn_12)).elim
    | succ n_11 ih_10 =>
      intro x4_5 x3_6 H locs ls ws_7 hn_12 b_13 b_14 hLA HE h hF_8 hl
      obtain ⟨R7, hR7⟩ : ∃ z, z = L1_X12_leastAt n_11 := ⟨_, rfl⟩
      replace HE : FT = g2l_X12_leastAt R7 (xso SM ad ws_7) a1.toInt a2.toInt x3_6.toInt x4_5.toInt := HE.trans (by rw [hR7]; rfl)
      refine lv_iload C0.1 C0.2.1 dX12_leastAt_7 (lv_at hl 0 rfl) ?_
      refine y_c1 (n := 4) C0 (by decide) dX12_leastAt_9 (fun v_15 e_16 => ?_)
      replace HE : FT = g3b_X12_leastAt R7 (xso SM ad ws_7) x4_5.toInt a1.toInt a2.toInt x3_6.toInt := HE.trans rfl
      refine y_icmp_ge (tgt := 40) C0 dX12_leastAt_10 (by decide) (fun c_17 => ?_) (fun c_17 => ?_)
      · -- 10
        replace HE : FT = g4_X12_leastAt (xso SM ad ws_7) x3_6.toInt := HE.trans (if_neg (o36_21 b_13 b_14 hn_12 e_16 c_17))
        refine lv_iload_n C0.1 C0.2.1 dX12_leastAt_40 rfl (lv_at hl 1 rfl) ?_
        replace HE : FT = ((xso SM ad ws_7), x3_6.toInt) := HE.trans rfl
        rw [hQ]
        exact y_iret C0 h hF_8 ⟨(congrArg Prod.fst (HE.symm.trans hFT)), (congrArg Prod.snd (HE.symm.trans hFT)), (lA_e hLA (o36_289 b_13 b_14 hn_12 e_16 c_17))⟩ dX12_leastAt_41
      · -- 10
        replace HE : FT = g5_X12_leastAt R7 (xso SM ad ws_7) a1.toInt a2.toInt x3_6.toInt x4_5.toInt := HE.trans (if_pos (o36_22 b_13 b_14 hn_12 e_16 c_17))
        refine lv_iload_n C0.1 C0.2.1 dX12_leastAt_13 rfl (lv_at hl 1 rfl) ?_
        refine lv_aload_n C0.1 C0.2.1 dX12_leastAt_14 rfl (lv_at hl 2 rfl) ?_
        refine ng_X12_sofar C0 h kSM_0 q_1459 dX12_leastAt_15 ?_
        refine y_c2 (n := 100) C0 (by decide) dX12_leastAt_18 (fun v_18 e_19 => ?_)
        refine lv_iload_n C0.1 C0.2.1 dX12_leastAt_20 rfl (lv_at hl 3 rfl) ?_
        refine y_cmul (n := 100) C0 (o36_28 e_19) (o36_87 l1 u1 (le_min a1) (le_max a1)) (o36_88 l1 u1 (le_min a1) (le_max a1)) dX12_leastAt_21 (fun v_20 e_21 => ?_)
        refine y_c1 (n := 4) C0 (by decide) dX12_leastAt_22 (fun v_22 e_23 => ?_)
        refine lv_iload_n C0.1 C0.2.1 dX12_leastAt_23 rfl (lv_at hl 4 rfl) ?_
        refine y_cmul (n := 4) C0 (o36_20 e_23) (o36_89 l2 u2 (le_min a2) (le_max a2)) (o36_90 l2 u2 (le_min a2) (le_max a2)) dX12_leastAt_24 (fun v_24 e_25 => ?_)
        refine y_add C0 (o36_91 l1 u1 l2 u2 e_21 e_25 (le_min v_20) (le_max v_20) (le_min v_24) (le_max v_24) (le_min a1) (le_max a1) (le_min a2) (le_max a2)) (o36_92 l1 u1 l2 u2 e_21 e_25 (le_min v_20) (le_max v_20) (le_min v_24) (le_max v_24) (le_min a1) (le_max a1) (le_min a2) (le_max a2)) dX12_leastAt_25 (fun v_26 e_27 => ?_)
        refine lv_iload C0.1 C0.2.1 dX12_leastAt_26 (lv_at hl 0 rfl) ?_
        refine y_add C0 (o36_290 l1 u1 l2 u2 b_13 b_14 hn_12 e_16 c_17 e_21 e_25 e_27 (le_min v_26) (le_max v_26) (le_min x4_5) (le_max x4_5) (le_min a1) (le_max a1) (le_min a2) (le_max a2) (le_min v_15) (le_max v_15) (le_min v_20) (le_max v_20) (le_min v_24) (le_max v_24)) (o36_291 l1 u1 l2 u2 b_13 b_14 hn_12 e_16 c_17 e_21 e_25 e_27 (le_min v_26) (le_max v_26) (le_min x4_5) (le_max x4_5) (le_min a1) (le_max a1) (le_min a2) (le_max a2) (le_min v_15) (le_max v_15) (le_min v_20) (le_max v_20) (le_min v_24) (le_max v_24)) dX12_leastAt_28 (fun v_28 e_29 => ?_)
        refine y_iald C0 h kSM_8 rfl (by decide) (o36_292 l1 u1 l2 u2 b_13 b_14 hn_12 e_16 c_17 e_21 e_25 e_27 e_29) (o36_293 l1 u1 l2 u2 b_13 b_14 hn_12 e_16 c_17 e_21 e_25 e_27 e_29) dX12_leastAt_29 (fun v_30 e_31 e_32 e_33 => ?_)
        refine y_ci h (y_rS (As := [.int x3_6, .int v_30]) (rest := []) C0 hZ h (c_X12_lesser l G Z ad _ h.2 x3_6 v_30) k_X12_lesser q_1784 q_1783 hl.1 rfl rfl (Nat.le_of_ble_eq_true rfl) dX12_leastAt_30 ⟨Nat.le_of_ble_eq_true rfl, Nat.le_of_ble_eq_true rfl⟩ ⟨Nat.le_of_ble_eq_true rfl, Nat.le_of_ble_eq_true rfl⟩) (fun r_37 H locs ws_34 h u_35 p_36 => ?_)
        obtain ⟨e_38, e_39, e_40, e_41⟩ := p_36
        replace HE : FT = g6c_X12_leastAt R7 (xso SM ad ws_34) r_37.toInt a1.toInt a2.toInt x4_5.toInt := HE.trans (by rw [e_38, e_39, (xg1 e_31 : v_30.toInt = (xso SM ad ws_7) 1 8 v_28.toInt.toNat), e_29, e_27, e_25, e_21]; rfl)
        refine lv_istore_n (lv' := [(3, .int r_37), (4, .int x4_5), (0, .ref (ad 0)), (1, .int a1), (2, .int a2)]) C0.1 C0.2.1 dX12_leastAt_33 rfl hl (by decide) rfl (fun ls hl => ?_)
        refine y_inc (kp := 1) (n := 1) (fun v_42 => [(4, .int v_42), (3, .int r_37), (0, .ref (ad 0)), (1, .int a1), (2, .int a2)]) C0 hl rfl (by decide) (by decide) (fun _ => rfl) (o36_294 l1 u1 l2 u2 b_13 b_14 hn_12 e_16 c_17 e_21 e_25 e_27 e_29 (le_min x4_5) (le_max x4_5) (le_min a1) (le_max a1) (le_min a2) (le_max a2) (le_min v_15) (le_max v_15) (le_min v_20) (le_max v_20) (le_min v_24) (le_max v_24) (le_min v_26) (le_max v_26) (le_min v_28) (le_max v_28)) (o36_295 l1 u1 l2 u2 b_13 b_14 hn_12 e_16 c_17 e_21 e_25 e_27 e_29 (le_min x4_5) (le_max x4_5) (le_min a1) (le_max a1) (le_min a2) (le_max a2) (le_min v_15) (le_max v_15) (le_min v_20) (le_max v_20) (le_min v_24) (le_max v_24) (le_min v_26) (le_max v_26) (le_min v_28) (le_max v_28)) dX12_leastAt_34 (fun v_42 ls e_43 hl => ?_)
        refine lv_goto (tgt := 7) C0.1 C0.2.1 dX12_leastAt_37 (by decide) ?_
        exact ih_10 v_42 r_37 _ _ _ _ (o36_296 l1 u1 l2 u2 b_13 b_14 hn_12 e_16 c_17 e_21 e_25 e_27 e_29 e_43) (o36_297 l1 u1 l2 u2 b_13 b_14 hn_12 e_16 c_17 e_21 e_25 e_27 e_29 e_43) (o36_298 l1 u1 l2 u2 b_13 b_14 hn_12 e_16 c_17 e_21 e_25 e_27 e_29 e_43) ((lA_s hLA (o36_299 l1 u1 l2 u2 b_13 b_14 hn_12 e_16 c_17 e_21 e_25 e_27 e_29 e_43) (Eq.trans (Eq.symm (Fr.aI hF_8 kSM_8 (by decide))) e_31) (o36_300 l1 u1 l2 u2 b_13 b_14 hn_12 e_16 c_17 e_21 e_25 e_27 e_29 e_43) e_43 (o36_301 e_40 e_41))) (((show FT = R7 (xso SM ad ws_34) a1.toInt a2.toInt r_37.toInt v_42.toInt from HE.trans (by rw [e_43]; rfl)).trans (by rw [hR7]))) h (Fr.tr hF_8 u_35) (lv_sub hl [0, 1, 2, 3, 4] rfl)
  exact lp_9 ((4 - v_3.toInt + 1).toNat) v_3 v_1 _ _ _ _ (o36_62 e_4) (o36_63 e_4) (o36_64 e_4) ((lA_i e_2 e_4)) ((show FT = L1_X12_leastAt (Int.toNat (4 - v_3.toInt + 1)) (xso SM ad ws0) a1.toInt a2.toInt v_1.toInt v_3.toInt from HE.trans (by rw [e_4, e_2]; rfl))) h Fr.rf (lv_sub hl [0, 1, 2, 3, 4] rfl)
noncomputable def g4_X12_leastWithin (s : XS) (x3_6 : Int) : XR := (s, x3_6)
noncomputable def g7c_X12_leastWithin (R7 : XS → Int → Int → Int → Int → XR) (s : XS) (r_27 : Int) (a1 : Int) (a2 : Int) (x4_5 : Int) : XR := R7 s a1 a2 r_27 ((x4_5 + 1))
noncomputable def g6c_X12_leastWithin (R7 : XS → Int → Int → Int → Int → XR) (s : XS) (r_20 : Int) (x3_6 : Int) (a1 : Int) (a2 : Int) (x4_5 : Int) : XR := g7c_X12_leastWithin R7 ((f_X12_lesser s x3_6 r_20).1) (((f_X12_lesser s x3_6 r_20).2)) a1 a2 x4_5
noncomputable def g5_X12_leastWithin (R7 : XS → Int → Int → Int → Int → XR) (s : XS) (a1 : Int) (a2 : Int) (x3_6 : Int) (x4_5 : Int) : XR := g6c_X12_leastWithin R7 ((f_X12_leastAt s x4_5 a1).1) (((f_X12_leastAt s x4_5 a1).2)) x3_6 a1 a2 x4_5
noncomputable def g3b_X12_leastWithin (R7 : XS → Int → Int → Int → Int → XR) (s : XS) (a2 : Int) (x4_5 : Int) (a1 : Int) (x3_6 : Int) : XR := if a2 < x4_5 then g4_X12_leastWithin s x3_6 else g5_X12_leastWithin R7 s a1 a2 x3_6 x4_5
noncomputable def g2l_X12_leastWithin (R7 : XS → Int → Int → Int → Int → XR) (s : XS) (a1 : Int) (a2 : Int) (x3_6 : Int) (x4_5 : Int) : XR := g3b_X12_leastWithin R7 s a2 x4_5 a1 x3_6
noncomputable def L1_X12_leastWithin (n : Nat) : XS → Int → Int → Int → Int → XR := Nat.rec (motive := fun _ => XS → Int → Int → Int → Int → XR) (fun s _ _ _ _ => (s, 0)) (fun _ R7 => g2l_X12_leastWithin R7) n
noncomputable def f_X12_leastWithin (s : XS) (a1 : Int) (a2 : Int) : XR := L1_X12_leastWithin (Int.toNat (61 - 0 + 1)) s a1 a2 1000000000 0
set_option maxHeartbeats 4000000 in
set_option maxRecDepth 100000 in
theorem c_X12_leastWithin (l : Launch) (G : GG) (Z : RZ) (ad : Nat → Nat) (ws0 : va_W) (hT : Ty G SM ad ws0) (a1 : Int32) (a2 : Int32) (l1 : 0 ≤ a1.toInt) (u1 : a1.toInt ≤ 24) (l2 : 0 ≤ a2.toInt) (u2 : a2.toInt ≤ 60) : Mq l yX12_leastWithin cX12_leastWithin 5 (some .int) 3 G Z [.ref (ad 0), .int a1, .int a2] ws0 (PI G SM ad [] ws0 (fun r u => (xso SM ad u = (f_X12_leastWithin (xso SM ad ws0) a1.toInt a2.toInt).1) ∧ (r.toInt = (f_X12_leastWithin (xso SM ad ws0) a1.toInt a2.toInt).2) ∧ (r.toInt = 1000000000 ∨ ∃ j : Int, 0 ≤ j ∧ j ≤ a2.toInt ∧ lA ws0 j a1.toInt 4 ≤ r.toInt))) := by
  refine Mq.start (by decide) (Nat.le_of_ble_eq_true rfl) ?_
  intro p e s m below meth c A ls C0 hZ h hl
  have hl : lv_has ls 5 [(0, .ref (ad 0)), (1, .int a1), (2, .int a2)] := hl
  have h : Wt G SM ad A s s.heap [] ws0 := ⟨h, hT⟩
  obtain ⟨args, hargs⟩ : ∃ z, z = ([.ref (ad 0), .int a1, .int a2] : List Value).toArray := ⟨_, rfl⟩
  rw [← hargs] at C0 ⊢
  have C0 : Cx p s m args meth c RX12 cX12_leastWithin 5 (some .int) := C0
  obtain ⟨Q, hQ⟩ : ∃ z, z = MQ below ((PI G SM ad [] ws0 (fun r u => (xso SM ad u = (f_X12_leastWithin (xso SM ad ws0) a1.toInt a2.toInt).1) ∧ (r.toInt = (f_X12_leastWithin (xso SM ad ws0) a1.toInt a2.toInt).2) ∧ (r.toInt = 1000000000 ∨ ∃ j : Int, 0 ≤ j ∧ j ≤ a2.toInt ∧ lA ws0 j a1.toInt 4 ≤ r.toInt))) A) args s 0 0 A := ⟨_, rfl⟩
  rw [← hQ]
  obtain ⟨FT, hFT⟩ : ∃ z, z = f_X12_leastWithin (xso SM ad ws0) a1.toInt a2.toInt := ⟨_, rfl⟩
  have HE : FT = f_X12_leastWithin (xso SM ad ws0) a1.toInt a2.toInt := hFT
  refine y_c5 (n := 1000000000) C0 q_1887 (by decide) dX12_leastWithin_0 (fun v_1 e_2 => ?_)
  refine lv_istore_n (lv' := [(3, .int v_1), (0, .ref (ad 0)), (1, .int a1), (2, .int a2)]) C0.1 C0.2.1 dX12_leastWithin_3 rfl hl (by decide) rfl (fun ls hl => ?_)
  refine y_c1 (n := 0) C0 (by decide) dX12_leastWithin_4 (fun v_3 e_4 => ?_)
  refine lv_istore (lv' := [(4, .int v_3), (3, .int v_1), (0, .ref (ad 0)), (1, .int a1), (2, .int a2)]) C0.1 C0.2.1 dX12_leastWithin_5 hl (by decide) rfl (fun ls hl => ?_)
  have lp_9 : ∀ (n_11 : Nat) (x4_5 : Int32) (x3_6 : Int32) (H : Heap) (locs : List Loc) (ls : Array Slot) (ws_7 : va_W), 61 - x4_5.toInt < (n_11 : Int) → 0 ≤ x4_5.toInt → x4_5.toInt ≤ 61 → x4_5.toInt ≤ a2.toInt + 1 → (x3_6.toInt = 1000000000 ∨ ∃ j : Int, 0 ≤ j ∧ j < x4_5.toInt ∧ lA ws0 j a1.toInt 4 ≤ x3_6.toInt) → (FT = L1_X12_leastWithin n_11 (xso SM ad ws_7) a1.toInt a2.toInt x3_6.toInt x4_5.toInt) → Wt G SM ad A s H locs ws_7 → Fr SM [] ws0 ws_7 → lv_has ls 5 [(4, .int x4_5), (3, .int x3_6), (0, .ref (ad 0)), (1, .int a1), (2, .int a2)] → W p l e (rmd 3 0 0) s m args below meth c H locs 0 0 Q (F0 m 7 ls []) := by
    intro n_11
    induction n_11 with
    | zero => intro x4_5 x3_6 H locs ls ws_7 hn_12 b_13 b_14 b_15 hLW HE h hF_8 hl; exact ((o36_302 l2 u2 b_13 b_14 b_15 hn_12)).elim
    | succ n_11 ih_10 =>
      intro x4_5 x3_6 H locs ls ws_7 hn_12 b_13 b_14 b_15 hLW HE h hF_8 hl
      obtain ⟨R7, hR7⟩ : ∃ z, z = L1_X12_leastWithin n_11 := ⟨_, rfl⟩
      replace HE : FT = g2l_X12_leastWithin R7 (xso SM ad ws_7) a1.toInt a2.toInt x3_6.toInt x4_5.toInt := HE.trans (by rw [hR7]; rfl)
      refine lv_iload C0.1 C0.2.1 dX12_leastWithin_7 (lv_at hl 0 rfl) ?_
      refine lv_iload_n C0.1 C0.2.1 dX12_leastWithin_9 rfl (lv_at hl 4 rfl) ?_
      replace HE : FT = g3b_X12_leastWithin R7 (xso SM ad ws_7) a2.toInt x4_5.toInt a1.toInt x3_6.toInt := HE.trans rfl
      refine y_icmp_gt (tgt := 31) C0 dX12_leastWithin_10 (by decide) (fun c_16 => ?_) (fun c_16 => ?_)
      · -- 10
        replace HE : FT = g4_X12_leastWithin (xso SM ad ws_7) x3_6.toInt := HE.trans (if_pos c_16)
        refine lv_iload_n C0.1 C0.2.1 dX12_leastWithin_31 rfl (lv_at hl 1 rfl) ?_
        replace HE : FT = ((xso SM ad ws_7), x3_6.toInt) := HE.trans rfl
        rw [hQ]
        exact y_iret C0 h hF_8 ⟨(congrArg Prod.fst (HE.symm.trans hFT)), (congrArg Prod.snd (HE.symm.trans hFT)), (lW_e hLW (o36_303 l2 u2 b_13 b_14 b_15 hn_12 c_16))⟩ dX12_leastWithin_32
      · -- 10
        replace HE : FT = g5_X12_leastWithin R7 (xso SM ad ws_7) a1.toInt a2.toInt x3_6.toInt x4_5.toInt := HE.trans (if_neg (Int.not_lt.mpr c_16))
        refine lv_iload_n C0.1 C0.2.1 dX12_leastWithin_13 rfl (lv_at hl 1 rfl) ?_
        refine lv_aload_n C0.1 C0.2.1 dX12_leastWithin_14 rfl (lv_at hl 2 rfl) ?_
        refine lv_iload C0.1 C0.2.1 dX12_leastWithin_15 (lv_at hl 0 rfl) ?_
        refine lv_iload_n C0.1 C0.2.1 dX12_leastWithin_17 rfl (lv_at hl 3 rfl) ?_
        refine y_ci h (y_rV (As := [.int x4_5, .int a1]) (rest := [.int x3_6]) C0 hZ h (c_X12_leastAt l G Z ad _ h.2 x4_5 a1 (o36_304 l2 u2 b_13 b_14 b_15 hn_12 c_16) (o36_305 l2 u2 b_13 b_14 b_15 hn_12 c_16) (o36_71 l1 u1) (o36_72 l1 u1)) k_X12_leastAt q_1898 q_106 q_1896 kSM_0 rfl rfl rfl hl.1 rfl rfl (Nat.le_of_ble_eq_true rfl) dX12_leastWithin_18 ⟨Nat.le_of_ble_eq_true rfl, Nat.le_of_ble_eq_true rfl⟩ ⟨Nat.le_of_ble_eq_true rfl, Nat.le_of_ble_eq_true rfl⟩) (fun r_20 H locs ws_17 h u_18 p_19 => ?_)
        obtain ⟨e_21, e_22, e_23⟩ := p_19
        replace HE : FT = g6c_X12_leastWithin R7 (xso SM ad ws_17) r_20.toInt x3_6.toInt a1.toInt a2.toInt x4_5.toInt := HE.trans (by rw [e_21, e_22]; rfl)
        refine y_ci h (y_rS (As := [.int x3_6, .int r_20]) (rest := []) C0 hZ h (c_X12_lesser l G Z ad _ h.2 x3_6 r_20) k_X12_lesser q_1784 q_1783 hl.1 rfl rfl (Nat.le_of_ble_eq_true rfl) dX12_leastWithin_21 ⟨Nat.le_of_ble_eq_true rfl, Nat.le_of_ble_eq_true rfl⟩ ⟨Nat.le_of_ble_eq_true rfl, Nat.le_of_ble_eq_true rfl⟩) (fun r_27 H locs ws_24 h u_25 p_26 => ?_)
        obtain ⟨e_28, e_29, e_30, e_31⟩ := p_26
        replace HE : FT = g7c_X12_leastWithin R7 (xso SM ad ws_24) r_27.toInt a1.toInt a2.toInt x4_5.toInt := HE.trans (by rw [e_28, e_29]; rfl)
        refine lv_istore_n (lv' := [(3, .int r_27), (4, .int x4_5), (0, .ref (ad 0)), (1, .int a1), (2, .int a2)]) C0.1 C0.2.1 dX12_leastWithin_24 rfl hl (by decide) rfl (fun ls hl => ?_)
        refine y_inc (kp := 1) (n := 1) (fun v_32 => [(4, .int v_32), (3, .int r_27), (0, .ref (ad 0)), (1, .int a1), (2, .int a2)]) C0 hl rfl (by decide) (by decide) (fun _ => rfl) (o36_306 l2 u2 b_13 b_14 b_15 hn_12 c_16 (le_min x4_5) (le_max x4_5) (le_min a2) (le_max a2)) (o36_307 l2 u2 b_13 b_14 b_15 hn_12 c_16 (le_min x4_5) (le_max x4_5) (le_min a2) (le_max a2)) dX12_leastWithin_25 (fun v_32 ls e_33 hl => ?_)
        refine lv_goto (tgt := 7) C0.1 C0.2.1 dX12_leastWithin_28 (by decide) ?_
        exact ih_10 v_32 r_27 _ _ _ _ (o36_308 l2 u2 b_13 b_14 b_15 hn_12 c_16 e_33) (o36_309 l2 u2 b_13 b_14 b_15 hn_12 c_16 e_33) (o36_310 l2 u2 b_13 b_14 b_15 hn_12 c_16 e_33) (o36_311 l2 u2 b_13 b_14 b_15 hn_12 c_16 e_33) ((lW_s hLW (Eq.trans e_23 (lA_cg (M := []) hF_8 (by decide) _ _ 4)) (o36_312 l2 u2 b_13 b_14 b_15 hn_12 c_16 e_33) e_33 (o36_313 e_30 e_31))) (((show FT = R7 (xso SM ad ws_24) a1.toInt a2.toInt r_27.toInt v_32.toInt from HE.trans (by rw [e_33]; rfl)).trans (by rw [hR7]))) h (Fr.tr (Fr.tr hF_8 u_18) u_25) (lv_sub hl [0, 1, 2, 3, 4] rfl)
  exact lp_9 ((61 - v_3.toInt + 1).toNat) v_3 v_1 _ _ _ _ (o36_67 e_4) (o36_63 e_4) (o36_68 e_4) (o36_314 l2 u2 e_4) ((lW_i e_2)) ((show FT = L1_X12_leastWithin (Int.toNat (61 - v_3.toInt + 1)) (xso SM ad ws0) a1.toInt a2.toInt v_1.toInt v_3.toInt from HE.trans (by rw [e_4, e_2]; rfl))) h Fr.rf (lv_sub hl [0, 1, 2, 3, 4] rfl)
noncomputable def g3c_X12_laysFor (s : XS) : XR := (s, 0)
noncomputable def g2c_X12_laysFor (s : XS) (a1 : Int) (a2 : Int) (a3 : Int) : XR := g3c_X12_laysFor ((f_X12_laysSofar s (s 1 1 (Int.toNat (36 + a1))) (s 1 1 (Int.toNat (41 + a1))) a2 a3).1)
noncomputable def g1w_X12_laysFor (s : XS) (a1 : Int) (a2 : Int) (a3 : Int) : XR := g2c_X12_laysFor ((f_X12_laysLaws s a2).1) a1 a2 a3
noncomputable def f_X12_laysFor (s : XS) (a1 : Int) (a2 : Int) (a3 : Int) : XR := g1w_X12_laysFor (xup s 0 0 26 0) a1 a2 a3
set_option maxHeartbeats 4000000 in
set_option maxRecDepth 100000 in
theorem c_X12_laysFor (l : Launch) (G : GG) (Z : RZ) (ad : Nat → Nat) (ws0 : va_W) (hT : Ty G SM ad ws0) (a1 : Int32) (a2 : Int32) (a3 : Int32) (l1 : 0 ≤ a1.toInt) (u1 : a1.toInt ≤ 4) (l2 : 0 ≤ a2.toInt) (u2 : a2.toInt ≤ 60) (l3 : 0 ≤ a3.toInt) (u3 : a3.toInt ≤ 1) (hJ : J ws0) (hLd : Laid ws0) : Mq l yX12_laysFor cX12_laysFor 4 none 6 G Z [.ref (ad 0), .int a1, .int a2, .int a3] ws0 (PV G SM ad [0, 5, 8, 10, 11, 12] ws0 (fun u => (xso SM ad u = (f_X12_laysFor (xso SM ad ws0) a1.toInt a2.toInt a3.toInt).1))) := by
  refine Mq.start (by decide) (Nat.le_of_ble_eq_true rfl) ?_
  intro p e s m below meth c A ls C0 hZ h hl
  have hl : lv_has ls 4 [(0, .ref (ad 0)), (1, .int a1), (2, .int a2), (3, .int a3)] := hl
  have h : Wt G SM ad A s s.heap [] ws0 := ⟨h, hT⟩
  obtain ⟨args, hargs⟩ : ∃ z, z = ([.ref (ad 0), .int a1, .int a2, .int a3] : List Value).toArray := ⟨_, rfl⟩
  rw [← hargs] at C0 ⊢
  have C0 : Cx p s m args meth c RX12 cX12_laysFor 4 none := C0
  obtain ⟨Q, hQ⟩ : ∃ z, z = MQ below ((PV G SM ad [0, 5, 8, 10, 11, 12] ws0 (fun u => (xso SM ad u = (f_X12_laysFor (xso SM ad ws0) a1.toInt a2.toInt a3.toInt).1))) A) args s 0 0 A := ⟨_, rfl⟩
  rw [← hQ]
  obtain ⟨FT, hFT⟩ : ∃ z, z = f_X12_laysFor (xso SM ad ws0) a1.toInt a2.toInt a3.toInt := ⟨_, rfl⟩
  have HE : FT = f_X12_laysFor (xso SM ad ws0) a1.toInt a2.toInt a3.toInt := hFT
  refine lv_aload_n C0.1 C0.2.1 dX12_laysFor_0 rfl (lv_at hl 0 rfl) ?_
  refine y_c1 (n := 0) C0 (by decide) dX12_laysFor_1 (fun v_1 e_2 => ?_)
  refine np_X12_from0 C0 h kSM_0 q_1464 (le_min v_1) (le_max v_1) dX12_laysFor_2 (fun H locs ws_3 h u_4 Xu_4 => ?_)
  replace HE : FT = g1w_X12_laysFor (xso SM ad ws_3) a1.toInt a2.toInt a3.toInt := HE.trans (by rw [Xu_4, e_2]; rfl)
  refine lv_aload_n C0.1 C0.2.1 dX12_laysFor_5 rfl (lv_at hl 0 rfl) ?_
  refine lv_iload_n C0.1 C0.2.1 dX12_laysFor_6 rfl (lv_at hl 2 rfl) ?_
  refine y_cv h (y_rV (As := [.int a2]) (rest := []) C0 hZ h (c_X12_laysLaws l G Z ad _ h.2 a2 (o36_315 l2 u2) (o36_316 l2 u2) (J.pa hT hJ (Pa.ud u_4.1 (by decide))) (Laid.pa hLd (Pa.ud u_4.1 (by decide)))) k_X12_laysLaws q_1881 q_102 q_1879 kSM_0 rfl rfl rfl hl.1 rfl rfl (Nat.le_of_ble_eq_true rfl) dX12_laysFor_7 ⟨Nat.le_of_ble_eq_true rfl, Nat.le_of_ble_eq_true rfl⟩ ⟨Nat.le_of_ble_eq_true rfl, Nat.le_of_ble_eq_true rfl⟩) (fun H locs ws_5 h u_6 p_7 => ?_)
  have e_8 := p_7
  replace HE : FT = g2c_X12_laysFor (xso SM ad ws_5) a1.toInt a2.toInt a3.toInt := HE.trans (by rw [e_8]; rfl)
  refine lv_aload_n C0.1 C0.2.1 dX12_laysFor_10 rfl (lv_at hl 0 rfl) ?_
  refine lv_aload_n C0.1 C0.2.1 dX12_laysFor_11 rfl (lv_at hl 0 rfl) ?_
  refine ng_X12_all C0 h kSM_0 q_1439 dX12_laysFor_12 ?_
  refine y_c2 (n := 36) C0 (by decide) dX12_laysFor_15 (fun v_9 e_10 => ?_)
  refine lv_iload_n C0.1 C0.2.1 dX12_laysFor_17 rfl (lv_at hl 1 rfl) ?_
  refine y_add C0 (o36_317 l1 u1 e_10 (le_min v_9) (le_max v_9) (le_min a1) (le_max a1)) (o36_318 l1 u1 e_10 (le_min v_9) (le_max v_9) (le_min a1) (le_max a1)) dX12_laysFor_18 (fun v_11 e_12 => ?_)
  refine y_iald C0 h kSM_1 rfl (by decide) (o36_319 l1 u1 e_10 e_12) (o36_320 l1 u1 e_10 e_12) dX12_laysFor_19 (fun v_13 e_14 e_15 e_16 => ?_)
  have f_17 := o36_321 v_11.toInt.toNat (o36_322 l1 u1 e_10 e_12) (o36_323 l1 u1 e_10 e_12)
  refine lv_aload_n C0.1 C0.2.1 dX12_laysFor_20 rfl (lv_at hl 0 rfl) ?_
  refine ng_X12_all C0 h kSM_0 q_1439 dX12_laysFor_21 ?_
  refine y_c2 (n := 41) C0 (by decide) dX12_laysFor_24 (fun v_18 e_19 => ?_)
  refine lv_iload_n C0.1 C0.2.1 dX12_laysFor_26 rfl (lv_at hl 1 rfl) ?_
  refine y_add C0 (o36_324 l1 u1 e_10 e_12 e_19 (le_min v_18) (le_max v_18) (le_min a1) (le_max a1) (le_min v_9) (le_max v_9) (le_min v_11) (le_max v_11)) (o36_325 l1 u1 e_10 e_12 e_19 (le_min v_18) (le_max v_18) (le_min a1) (le_max a1) (le_min v_9) (le_max v_9) (le_min v_11) (le_max v_11)) dX12_laysFor_27 (fun v_20 e_21 => ?_)
  refine y_iald C0 h kSM_1 rfl (by decide) (o36_326 l1 u1 e_10 e_12 e_19 e_21) (o36_327 l1 u1 e_10 e_12 e_19 e_21) dX12_laysFor_28 (fun v_22 e_23 e_24 e_25 => ?_)
  have f_26 := o36_328 v_20.toInt.toNat (o36_329 l1 u1 e_10 e_12 e_19 e_21) (o36_330 l1 u1 e_10 e_12 e_19 e_21)
  refine lv_iload_n C0.1 C0.2.1 dX12_laysFor_29 rfl (lv_at hl 2 rfl) ?_
  refine lv_iload_n C0.1 C0.2.1 dX12_laysFor_30 rfl (lv_at hl 3 rfl) ?_
  refine y_cv h (y_rV (As := [.int v_13, .int v_22, .int a2, .int a3]) (rest := []) C0 hZ h (c_X12_laysSofar l G Z ad _ h.2 v_13 v_22 a2 a3 (o36_71 (Int.le_trans f_17.1 e_15) (Int.le_trans e_16 f_17.2)) (o36_72 (Int.le_trans f_17.1 e_15) (Int.le_trans e_16 f_17.2)) (o36_69 (Int.le_trans f_26.1 e_24) (Int.le_trans e_25 f_26.2)) (o36_70 (Int.le_trans f_26.1 e_24) (Int.le_trans e_25 f_26.2)) (o36_315 l2 u2) (o36_316 l2 u2) (o36_17 l3 u3) (o36_18 l3 u3) (Laid.pa hLd (Pa.tr (Pa.ud u_4.1 (by decide)) (Pa.fr u_6 (by decide))))) k_X12_laysSofar q_1885 q_103 q_1883 kSM_0 rfl rfl rfl hl.1 rfl rfl (Nat.le_of_ble_eq_true rfl) dX12_laysFor_31 ⟨Nat.le_of_ble_eq_true rfl, Nat.le_of_ble_eq_true rfl⟩ ⟨Nat.le_of_ble_eq_true rfl, Nat.le_of_ble_eq_true rfl⟩) (fun H locs ws_27 h u_28 p_29 => ?_)
  have e_30 := p_29
  replace HE : FT = g3c_X12_laysFor (xso SM ad ws_27) := HE.trans (by rw [e_30, (xg1 e_23 : v_22.toInt = (xso SM ad ws_5) 1 1 v_20.toInt.toNat), e_21, e_19, (xg1 e_14 : v_13.toInt = (xso SM ad ws_5) 1 1 v_11.toInt.toNat), e_12, e_10]; rfl)
  replace HE : FT = ((xso SM ad ws_27), 0) := HE.trans rfl
  rw [hQ]
  exact y_vret C0 h (Fr.tr (Fr.tr (Fr.up u_4.1 kSM_0 (by decide)) (Fr.mono u_6 (by decide))) (Fr.mono u_28 (by decide))) (congrArg Prod.fst (HE.symm.trans hFT)) dX12_laysFor_34
noncomputable def g4_X12_soonestBy (s : XS) : XR := (s, ((-1)))
noncomputable def g8_X12_soonestBy (R2 : XS → Int → Int → Int → XR) (s : XS) (a1 : Int) (a2 : Int) (x3_3 : Int) : XR := R2 s a1 a2 ((x3_3 + 1))
noncomputable def g9_X12_soonestBy (s : XS) (x3_3 : Int) : XR := (s, x3_3)
noncomputable def g7b_X12_soonestBy (R2 : XS → Int → Int → Int → XR) (s : XS) (a2 : Int) (r_20 : Int) (a1 : Int) (x3_3 : Int) : XR := if a2 < r_20 then g8_X12_soonestBy R2 s a1 a2 x3_3 else g9_X12_soonestBy s x3_3
noncomputable def g6c_X12_soonestBy (R2 : XS → Int → Int → Int → XR) (s : XS) (r_20 : Int) (a1 : Int) (a2 : Int) (x3_3 : Int) : XR := g7b_X12_soonestBy R2 s a2 r_20 a1 x3_3
noncomputable def g5_X12_soonestBy (R2 : XS → Int → Int → Int → XR) (s : XS) (a1 : Int) (a2 : Int) (x3_3 : Int) : XR := g6c_X12_soonestBy R2 ((f_X12_leastAt s x3_3 a1).1) (((f_X12_leastAt s x3_3 a1).2)) a1 a2 x3_3
noncomputable def g3b_X12_soonestBy (R2 : XS → Int → Int → Int → XR) (s : XS) (x3_3 : Int) (a1 : Int) (a2 : Int) : XR := if 60 < x3_3 then g4_X12_soonestBy s else g5_X12_soonestBy R2 s a1 a2 x3_3
noncomputable def g2l_X12_soonestBy (R2 : XS → Int → Int → Int → XR) (s : XS) (a1 : Int) (a2 : Int) (x3_3 : Int) : XR := g3b_X12_soonestBy R2 s x3_3 a1 a2
noncomputable def L1_X12_soonestBy (n : Nat) : XS → Int → Int → Int → XR := Nat.rec (motive := fun _ => XS → Int → Int → Int → XR) (fun s _ _ _ => (s, 0)) (fun _ R2 => g2l_X12_soonestBy R2) n
noncomputable def f_X12_soonestBy (s : XS) (a1 : Int) (a2 : Int) : XR := L1_X12_soonestBy (Int.toNat (61 - 0 + 1)) s a1 a2 0
set_option maxHeartbeats 4000000 in
set_option maxRecDepth 100000 in
theorem c_X12_soonestBy (l : Launch) (G : GG) (Z : RZ) (ad : Nat → Nat) (ws0 : va_W) (hT : Ty G SM ad ws0) (a1 : Int32) (a2 : Int32) (l1 : 0 ≤ a1.toInt) (u1 : a1.toInt ≤ 24) : Mq l yX12_soonestBy cX12_soonestBy 4 (some .int) 3 G Z [.ref (ad 0), .int a1, .int a2] ws0 (PI G SM ad [] ws0 (fun r u => (xso SM ad u = (f_X12_soonestBy (xso SM ad ws0) a1.toInt a2.toInt).1) ∧ (r.toInt = (f_X12_soonestBy (xso SM ad ws0) a1.toInt a2.toInt).2) ∧ ((-1) ≤ r.toInt) ∧ (r.toInt ≤ 60) ∧ (0 ≤ r.toInt ∨ ∀ j : Int, 0 ≤ j → j ≤ 60 → a2.toInt < lA ws0 j a1.toInt 4))) := by
  refine Mq.start (by decide) (Nat.le_of_ble_eq_true rfl) ?_
  intro p e s m below meth c A ls C0 hZ h hl
  have hl : lv_has ls 4 [(0, .ref (ad 0)), (1, .int a1), (2, .int a2)] := hl
  have h : Wt G SM ad A s s.heap [] ws0 := ⟨h, hT⟩
  obtain ⟨args, hargs⟩ : ∃ z, z = ([.ref (ad 0), .int a1, .int a2] : List Value).toArray := ⟨_, rfl⟩
  rw [← hargs] at C0 ⊢
  have C0 : Cx p s m args meth c RX12 cX12_soonestBy 4 (some .int) := C0
  obtain ⟨Q, hQ⟩ : ∃ z, z = MQ below ((PI G SM ad [] ws0 (fun r u => (xso SM ad u = (f_X12_soonestBy (xso SM ad ws0) a1.toInt a2.toInt).1) ∧ (r.toInt = (f_X12_soonestBy (xso SM ad ws0) a1.toInt a2.toInt).2) ∧ ((-1) ≤ r.toInt) ∧ (r.toInt ≤ 60) ∧ (0 ≤ r.toInt ∨ ∀ j : Int, 0 ≤ j → j ≤ 60 → a2.toInt < lA ws0 j a1.toInt 4))) A) args s 0 0 A := ⟨_, rfl⟩
  rw [← hQ]
  obtain ⟨FT, hFT⟩ : ∃ z, z = f_X12_soonestBy (xso SM ad ws0) a1.toInt a2.toInt := ⟨_, rfl⟩
  have HE : FT = f_X12_soonestBy (xso SM ad ws0) a1.toInt a2.toInt := hFT
  refine y_c1 (n := 0) C0 (by decide) dX12_soonestBy_0 (fun v_1 e_2 => ?_)
  refine lv_istore_n (lv' := [(3, .int v_1), (0, .ref (ad 0)), (1, .int a1), (2, .int a2)]) C0.1 C0.2.1 dX12_soonestBy_1 rfl hl (by decide) rfl (fun ls hl => ?_)
  have lp_6 : ∀ (n_8 : Nat) (x3_3 : Int32) (H : Heap) (locs : List Loc) (ls : Array Slot) (ws_4 : va_W), 61 - x3_3.toInt < (n_8 : Int) → 0 ≤ x3_3.toInt → x3_3.toInt ≤ 61 → (∀ j : Int, 0 ≤ j → j < x3_3.toInt → a2.toInt < lA ws0 j a1.toInt 4) → (FT = L1_X12_soonestBy n_8 (xso SM ad ws_4) a1.toInt a2.toInt x3_3.toInt) → Wt G SM ad A s H locs ws_4 → Fr SM [] ws0 ws_4 → lv_has ls 4 [(3, .int x3_3), (0, .ref (ad 0)), (1, .int a1), (2, .int a2)] → W p l e (rmd 3 0 0) s m args below meth c H locs 0 0 Q (F0 m 2 ls []) := by
    intro n_8
    induction n_8 with
    | zero => intro x3_3 H locs ls ws_4 hn_9 b_10 b_11 hSB HE h hF_5 hl; exact ((o36_1 b_10 b_11 hn_9)).elim
    | succ n_8 ih_7 =>
      intro x3_3 H locs ls ws_4 hn_9 b_10 b_11 hSB HE h hF_5 hl
      obtain ⟨R2, hR2⟩ : ∃ z, z = L1_X12_soonestBy n_8 := ⟨_, rfl⟩
      replace HE : FT = g2l_X12_soonestBy R2 (xso SM ad ws_4) a1.toInt a2.toInt x3_3.toInt := HE.trans (by rw [hR2]; rfl)
      refine lv_iload_n C0.1 C0.2.1 dX12_soonestBy_2 rfl (lv_at hl 0 rfl) ?_
      refine y_c2 (n := 60) C0 (by decide) dX12_soonestBy_3 (fun v_12 e_13 => ?_)
      replace HE : FT = g3b_X12_soonestBy R2 (xso SM ad ws_4) x3_3.toInt a1.toInt a2.toInt := HE.trans rfl
      refine y_icmp_gt (tgt := 26) C0 dX12_soonestBy_5 (by decide) (fun c_14 => ?_) (fun c_14 => ?_)
      · -- 5
        replace HE : FT = g4_X12_soonestBy (xso SM ad ws_4) := HE.trans (if_pos (o36_332 b_10 b_11 hn_9 e_13 c_14))
        refine y_c1 (n := (-1)) C0 (by decide) dX12_soonestBy_26 (fun v_15 e_16 => ?_)
        replace HE : FT = ((xso SM ad ws_4), v_15.toInt) := HE.trans (by rw [e_16]; rfl)
        rw [hQ]
        exact y_iret C0 h hF_5 ⟨(congrArg Prod.fst (HE.symm.trans hFT)), (congrArg Prod.snd (HE.symm.trans hFT)), (o36_334 e_16), (o36_335 e_16), (Or.inr (sB_e hSB (o36_332 b_10 b_11 hn_9 e_13 c_14)))⟩ dX12_soonestBy_27
      · -- 5
        replace HE : FT = g5_X12_soonestBy R2 (xso SM ad ws_4) a1.toInt a2.toInt x3_3.toInt := HE.trans (if_neg (o36_333 b_10 b_11 hn_9 e_13 c_14))
        refine lv_aload_n C0.1 C0.2.1 dX12_soonestBy_8 rfl (lv_at hl 1 rfl) ?_
        refine lv_iload_n C0.1 C0.2.1 dX12_soonestBy_9 rfl (lv_at hl 0 rfl) ?_
        refine lv_iload_n C0.1 C0.2.1 dX12_soonestBy_10 rfl (lv_at hl 2 rfl) ?_
        refine y_ci h (y_rV (As := [.int x3_3, .int a1]) (rest := []) C0 hZ h (c_X12_leastAt l G Z ad _ h.2 x3_3 a1 (o36_336 b_10 b_11 hn_9 e_13 c_14) (o36_337 b_10 b_11 hn_9 e_13 c_14) (o36_71 l1 u1) (o36_72 l1 u1)) k_X12_leastAt q_1898 q_106 q_1896 kSM_0 rfl rfl rfl hl.1 rfl rfl (Nat.le_of_ble_eq_true rfl) dX12_soonestBy_11 ⟨Nat.le_of_ble_eq_true rfl, Nat.le_of_ble_eq_true rfl⟩ ⟨Nat.le_of_ble_eq_true rfl, Nat.le_of_ble_eq_true rfl⟩) (fun r_20 H locs ws_17 h u_18 p_19 => ?_)
        obtain ⟨e_21, e_22, e_23⟩ := p_19
        replace HE : FT = g6c_X12_soonestBy R2 (xso SM ad ws_17) r_20.toInt a1.toInt a2.toInt x3_3.toInt := HE.trans (by rw [e_21, e_22]; rfl)
        refine lv_iload_n C0.1 C0.2.1 dX12_soonestBy_14 rfl (lv_at hl 3 rfl) ?_
        replace HE : FT = g7b_X12_soonestBy R2 (xso SM ad ws_17) a2.toInt r_20.toInt a1.toInt x3_3.toInt := HE.trans rfl
        refine y_icmp_gt (tgt := 20) C0 dX12_soonestBy_15 (by decide) (fun c_24 => ?_) (fun c_24 => ?_)
        · -- 15
          replace HE : FT = g8_X12_soonestBy R2 (xso SM ad ws_17) a1.toInt a2.toInt x3_3.toInt := HE.trans (if_pos c_24)
          refine y_inc (kp := 0) (n := 1) (fun v_25 => [(3, .int v_25), (0, .ref (ad 0)), (1, .int a1), (2, .int a2)]) C0 hl rfl (by decide) (by decide) (fun _ => rfl) (o36_338 b_10 b_11 hn_9 e_13 c_14 (le_min x3_3) (le_max x3_3) (le_min v_12) (le_max v_12)) (o36_339 b_10 b_11 hn_9 e_13 c_14 (le_min x3_3) (le_max x3_3) (le_min v_12) (le_max v_12)) dX12_soonestBy_20 (fun v_25 ls e_26 hl => ?_)
          refine lv_goto (tgt := 2) C0.1 C0.2.1 dX12_soonestBy_23 (by decide) ?_
          exact ih_7 v_25 _ _ _ _ (o36_340 b_10 b_11 hn_9 e_13 c_14 e_26) (o36_341 b_10 b_11 hn_9 e_13 c_14 e_26) (o36_342 b_10 b_11 hn_9 e_13 c_14 e_26) ((sB_s hSB (Eq.trans e_23 (lA_cg (M := []) hF_5 (by decide) _ _ 4)) (o36_343 c_24) e_26)) (((show FT = R2 (xso SM ad ws_17) a1.toInt a2.toInt v_25.toInt from HE.trans (by rw [e_26]; rfl)).trans (by rw [hR2]))) h (Fr.tr hF_5 u_18) (lv_sub hl [0, 1, 2, 3] rfl)
        · -- 15
          replace HE : FT = g9_X12_soonestBy (xso SM ad ws_17) x3_3.toInt := HE.trans (if_neg (Int.not_lt.mpr c_24))
          refine lv_iload_n C0.1 C0.2.1 dX12_soonestBy_18 rfl (lv_at hl 0 rfl) ?_
          replace HE : FT = ((xso SM ad ws_17), x3_3.toInt) := HE.trans rfl
          rw [hQ]
          exact y_iret C0 h (Fr.tr hF_5 u_18) ⟨(congrArg Prod.fst (HE.symm.trans hFT)), (congrArg Prod.snd (HE.symm.trans hFT)), (o36_344 b_10 b_11 hn_9 e_13 c_14), (o36_337 b_10 b_11 hn_9 e_13 c_14), (Or.inl (o36_336 b_10 b_11 hn_9 e_13 c_14))⟩ dX12_soonestBy_19
  exact lp_6 ((61 - v_1.toInt + 1).toNat) v_1 _ _ _ _ (o36_67 e_2) (o36_63 e_2) (o36_68 e_2) ((sB_i e_2)) ((show FT = L1_X12_soonestBy (Int.toNat (61 - v_1.toInt + 1)) (xso SM ad ws0) a1.toInt a2.toInt v_1.toInt from HE.trans (by rw [e_2]; rfl))) h Fr.rf (lv_sub hl [0, 1, 2, 3] rfl)
noncomputable def g2c_X12_wayOf (s : XS) (r_12 : Int) : XR := (s, r_12)
noncomputable def g1c_X12_wayOf (s : XS) (a2 : Int) (a3 : Int) : XR := g2c_X12_wayOf ((f_X12_soonestBy s a2 a3).1) (((f_X12_soonestBy s a2 a3).2))
noncomputable def f_X12_wayOf (s : XS) (a1 : Int) (a2 : Int) (a3 : Int) : XR := g1c_X12_wayOf ((f_X12_laysFor s a1 60 0).1) a2 a3
set_option maxHeartbeats 4000000 in
set_option maxRecDepth 100000 in
theorem c_X12_wayOf (l : Launch) (G : GG) (Z : RZ) (ad : Nat → Nat) (ws0 : va_W) (hT : Ty G SM ad ws0) (a1 : Int32) (a2 : Int32) (a3 : Int32) (l1 : 0 ≤ a1.toInt) (u1 : a1.toInt ≤ 4) (l2 : 0 ≤ a2.toInt) (u2 : a2.toInt ≤ 24) (hJ : J ws0) (hLd : Laid ws0) : Mq l yX12_wayOf cX12_wayOf 4 (some .int) 7 G Z [.ref (ad 0), .int a1, .int a2, .int a3] ws0 (PI G SM ad [0, 5, 8, 10, 11, 12] ws0 (fun r u => (xso SM ad u = (f_X12_wayOf (xso SM ad ws0) a1.toInt a2.toInt a3.toInt).1) ∧ (r.toInt = (f_X12_wayOf (xso SM ad ws0) a1.toInt a2.toInt a3.toInt).2) ∧ ((-1) ≤ r.toInt) ∧ (r.toInt ≤ 60))) := by
  refine Mq.start (by decide) (Nat.le_of_ble_eq_true rfl) ?_
  intro p e s m below meth c A ls C0 hZ h hl
  have hl : lv_has ls 4 [(0, .ref (ad 0)), (1, .int a1), (2, .int a2), (3, .int a3)] := hl
  have h : Wt G SM ad A s s.heap [] ws0 := ⟨h, hT⟩
  obtain ⟨args, hargs⟩ : ∃ z, z = ([.ref (ad 0), .int a1, .int a2, .int a3] : List Value).toArray := ⟨_, rfl⟩
  rw [← hargs] at C0 ⊢
  have C0 : Cx p s m args meth c RX12 cX12_wayOf 4 (some .int) := C0
  obtain ⟨Q, hQ⟩ : ∃ z, z = MQ below ((PI G SM ad [0, 5, 8, 10, 11, 12] ws0 (fun r u => (xso SM ad u = (f_X12_wayOf (xso SM ad ws0) a1.toInt a2.toInt a3.toInt).1) ∧ (r.toInt = (f_X12_wayOf (xso SM ad ws0) a1.toInt a2.toInt a3.toInt).2) ∧ ((-1) ≤ r.toInt) ∧ (r.toInt ≤ 60))) A) args s 0 0 A := ⟨_, rfl⟩
  rw [← hQ]
  obtain ⟨FT, hFT⟩ : ∃ z, z = f_X12_wayOf (xso SM ad ws0) a1.toInt a2.toInt a3.toInt := ⟨_, rfl⟩
  have HE : FT = f_X12_wayOf (xso SM ad ws0) a1.toInt a2.toInt a3.toInt := hFT
  refine lv_aload_n C0.1 C0.2.1 dX12_wayOf_0 rfl (lv_at hl 0 rfl) ?_
  refine lv_iload_n C0.1 C0.2.1 dX12_wayOf_1 rfl (lv_at hl 1 rfl) ?_
  refine y_c2 (n := 60) C0 (by decide) dX12_wayOf_2 (fun v_1 e_2 => ?_)
  refine y_c1 (n := 0) C0 (by decide) dX12_wayOf_4 (fun v_3 e_4 => ?_)
  refine y_cv h (y_rV (As := [.int a1, .int v_1, .int v_3]) (rest := []) C0 hZ h (c_X12_laysFor l G Z ad _ h.2 a1 v_1 v_3 (o36_345 l1 u1) (o36_346 l1 u1) (o36_347 e_2) (o36_348 e_2) (o36_63 e_4) (o36_349 e_4) hJ (Laid.pa hLd Pa.rf)) k_X12_laysFor q_1877 q_101 q_1875 kSM_0 rfl rfl rfl hl.1 rfl rfl (Nat.le_of_ble_eq_true rfl) dX12_wayOf_5 ⟨Nat.le_of_ble_eq_true rfl, Nat.le_of_ble_eq_true rfl⟩ ⟨Nat.le_of_ble_eq_true rfl, Nat.le_of_ble_eq_true rfl⟩) (fun H locs ws_5 h u_6 p_7 => ?_)
  have e_8 := p_7
  replace HE : FT = g1c_X12_wayOf (xso SM ad ws_5) a2.toInt a3.toInt := HE.trans (by rw [e_8, e_4, e_2]; rfl)
  refine lv_aload_n C0.1 C0.2.1 dX12_wayOf_8 rfl (lv_at hl 0 rfl) ?_
  refine lv_iload_n C0.1 C0.2.1 dX12_wayOf_9 rfl (lv_at hl 2 rfl) ?_
  refine lv_iload_n C0.1 C0.2.1 dX12_wayOf_10 rfl (lv_at hl 3 rfl) ?_
  refine y_ci h (y_rV (As := [.int a2, .int a3]) (rest := []) C0 hZ h (c_X12_soonestBy l G Z ad _ h.2 a2 a3 (o36_71 l2 u2) (o36_72 l2 u2)) k_X12_soonestBy q_1894 q_105 q_1892 kSM_0 rfl rfl rfl hl.1 rfl rfl (Nat.le_of_ble_eq_true rfl) dX12_wayOf_11 ⟨Nat.le_of_ble_eq_true rfl, Nat.le_of_ble_eq_true rfl⟩ ⟨Nat.le_of_ble_eq_true rfl, Nat.le_of_ble_eq_true rfl⟩) (fun r_12 H locs ws_9 h u_10 p_11 => ?_)
  obtain ⟨e_13, e_14, e_15, e_16, e_17⟩ := p_11
  replace HE : FT = g2c_X12_wayOf (xso SM ad ws_9) r_12.toInt := HE.trans (by rw [e_13, e_14]; rfl)
  replace HE : FT = ((xso SM ad ws_9), r_12.toInt) := HE.trans rfl
  rw [hQ]
  exact y_iret C0 h (Fr.tr u_6 (Fr.mono u_10 (by decide))) ⟨(congrArg Prod.fst (HE.symm.trans hFT)), (congrArg Prod.snd (HE.symm.trans hFT)), (o36_350 e_15 e_16), (o36_351 e_15 e_16)⟩ dX12_wayOf_14
noncomputable def g8_X12_way (s : XS) : XR := (s, ((-3)))
noncomputable def g10c_X12_way (s : XS) (r_37 : Int) : XR := (s, r_37)
noncomputable def g9_X12_way (s : XS) (a1 : Int) (a2 : Int) (a3 : Int) : XR := g10c_X12_way ((f_X12_wayOf s a1 a2 a3).1) (((f_X12_wayOf s a1 a2 a3).2))
noncomputable def g7b_X12_way (s : XS) (r_25 : Int) (a1 : Int) (a2 : Int) (a3 : Int) : XR := if r_25 = 0 then g8_X12_way s else g9_X12_way s a1 a2 a3
noncomputable def g6c_X12_way (s : XS) (r_25 : Int) (a1 : Int) (a2 : Int) (a3 : Int) : XR := g7b_X12_way s r_25 a1 a2 a3
noncomputable def g4_X12_way (s : XS) (a1 : Int) (a2 : Int) (a3 : Int) : XR := g6c_X12_way ((f_X12_within s a3 0 120).1) (((f_X12_within s a3 0 120).2)) a1 a2 a3
noncomputable def g5_X12_way (s : XS) : XR := (s, ((-2)))
noncomputable def g3b_X12_way (s : XS) (r_8 : Int) (a1 : Int) (a2 : Int) (a3 : Int) : XR := if r_8 = 0 then g5_X12_way s else g4_X12_way s a1 a2 a3
noncomputable def g2c_X12_way (s : XS) (r_8 : Int) (a1 : Int) (a2 : Int) (a3 : Int) : XR := g3b_X12_way s r_8 a1 a2 a3
noncomputable def g1w_X12_way (s : XS) (a1 : Int) (a2 : Int) (a3 : Int) : XR := g2c_X12_way ((f_X12_areThere s a1 a2).1) (((f_X12_areThere s a1 a2).2)) a1 a2 a3
noncomputable def f_X12_way (s : XS) (a1 : Int) (a2 : Int) (a3 : Int) : XR := g1w_X12_way (xup s 0 0 0 0) a1 a2 a3
set_option maxHeartbeats 4000000 in
set_option maxRecDepth 100000 in
theorem c_X12_way (l : Launch) (G : GG) (Z : RZ) (ad : Nat → Nat) (ws0 : va_W) (hT : Ty G SM ad ws0) (a1 : Int32) (a2 : Int32) (a3 : Int32) (hJ : J ws0) : Mq l yX12_way cX12_way 4 (some .int) 8 G Z [.ref (ad 0), .int a1, .int a2, .int a3] ws0 (PI G SM ad [0, 5, 8, 10, 11, 12] ws0 (fun r u => (xso SM ad u = (f_X12_way (xso SM ad ws0) a1.toInt a2.toInt a3.toInt).1) ∧ (r.toInt = (f_X12_way (xso SM ad ws0) a1.toInt a2.toInt a3.toInt).2) ∧ ((-3) ≤ r.toInt) ∧ (r.toInt ≤ 60))) := by
  refine Mq.start (by decide) (Nat.le_of_ble_eq_true rfl) ?_
  intro p e s m below meth c A ls C0 hZ h hl
  have hl : lv_has ls 4 [(0, .ref (ad 0)), (1, .int a1), (2, .int a2), (3, .int a3)] := hl
  have h : Wt G SM ad A s s.heap [] ws0 := ⟨h, hT⟩
  obtain ⟨args, hargs⟩ : ∃ z, z = ([.ref (ad 0), .int a1, .int a2, .int a3] : List Value).toArray := ⟨_, rfl⟩
  rw [← hargs] at C0 ⊢
  have C0 : Cx p s m args meth c RX12 cX12_way 4 (some .int) := C0
  obtain ⟨Q, hQ⟩ : ∃ z, z = MQ below ((PI G SM ad [0, 5, 8, 10, 11, 12] ws0 (fun r u => (xso SM ad u = (f_X12_way (xso SM ad ws0) a1.toInt a2.toInt a3.toInt).1) ∧ (r.toInt = (f_X12_way (xso SM ad ws0) a1.toInt a2.toInt a3.toInt).2) ∧ ((-3) ≤ r.toInt) ∧ (r.toInt ≤ 60))) A) args s 0 0 A := ⟨_, rfl⟩
  rw [← hQ]
  obtain ⟨FT, hFT⟩ : ∃ z, z = f_X12_way (xso SM ad ws0) a1.toInt a2.toInt a3.toInt := ⟨_, rfl⟩
  have HE : FT = f_X12_way (xso SM ad ws0) a1.toInt a2.toInt a3.toInt := hFT
  refine lv_aload_n C0.1 C0.2.1 dX12_way_0 rfl (lv_at hl 0 rfl) ?_
  refine y_c1 (n := 0) C0 (by decide) dX12_way_1 (fun v_1 e_2 => ?_)
  refine np_X12_thrown C0 h kSM_0 q_1438 (le_min v_1) (le_max v_1) dX12_way_2 (fun H locs ws_3 h u_4 Xu_4 => ?_)
  replace HE : FT = g1w_X12_way (xso SM ad ws_3) a1.toInt a2.toInt a3.toInt := HE.trans (by rw [Xu_4, e_2]; rfl)
  refine lv_aload_n C0.1 C0.2.1 dX12_way_5 rfl (lv_at hl 0 rfl) ?_
  refine lv_iload_n C0.1 C0.2.1 dX12_way_6 rfl (lv_at hl 1 rfl) ?_
  refine lv_iload_n C0.1 C0.2.1 dX12_way_7 rfl (lv_at hl 2 rfl) ?_
  refine y_ci h (y_rV (As := [.int a1, .int a2]) (rest := []) C0 hZ h (c_X12_areThere l G Z ad _ h.2 a1 a2 (J.pa hT hJ (Pa.ud u_4.1 (by decide)))) k_X12_areThere q_1868 q_99 q_1866 kSM_0 rfl rfl rfl hl.1 rfl rfl (Nat.le_of_ble_eq_true rfl) dX12_way_8 ⟨Nat.le_of_ble_eq_true rfl, Nat.le_of_ble_eq_true rfl⟩ ⟨Nat.le_of_ble_eq_true rfl, Nat.le_of_ble_eq_true rfl⟩) (fun r_8 H locs ws_5 h u_6 p_7 => ?_)
  obtain ⟨e_9, e_10, e_11, e_12, e_13, e_14⟩ := p_7
  replace HE : FT = g2c_X12_way (xso SM ad ws_5) r_8.toInt a1.toInt a2.toInt a3.toInt := HE.trans (by rw [e_9, e_10]; rfl)
  replace HE : FT = g3b_X12_way (xso SM ad ws_5) r_8.toInt a1.toInt a2.toInt a3.toInt := HE.trans rfl
  refine y_if_ne (tgt := 17) C0 dX12_way_11 (by decide) (fun c_15 => ?_) (fun c_15 => ?_)
  · -- 11
    replace HE : FT = g4_X12_way (xso SM ad ws_5) a1.toInt a2.toInt a3.toInt := HE.trans (if_neg c_15)
    refine lv_iload_n C0.1 C0.2.1 dX12_way_17 rfl (lv_at hl 3 rfl) ?_
    refine y_i2l C0 dX12_way_18 (fun w_16 e_17 => ?_)
    refine y_lc (v := 0) C0 (by decide) dX12_way_19 (fun w_18 e_19 => ?_)
    refine y_lc2 (n := 120) C0 q_1870 (by decide) dX12_way_20 (fun w_20 e_21 => ?_)
    refine y_ci h (y_rS (As := [.long w_16, .long w_18, .long w_20]) (rest := []) C0 hZ h (c_X12_within l G Z ad _ h.2 w_16 w_18 w_20) k_X12_within q_1580 q_1579 hl.1 rfl rfl (Nat.le_of_ble_eq_true rfl) dX12_way_23 ⟨Nat.le_of_ble_eq_true rfl, Nat.le_of_ble_eq_true rfl⟩ ⟨Nat.le_of_ble_eq_true rfl, Nat.le_of_ble_eq_true rfl⟩) (fun r_25 H locs ws_22 h u_23 p_24 => ?_)
    obtain ⟨e_26, e_27, e_28, e_29, e_30⟩ := p_24
    replace HE : FT = g6c_X12_way (xso SM ad ws_22) r_25.toInt a1.toInt a2.toInt a3.toInt := HE.trans (by rw [e_26, e_27, e_21, e_19, e_17]; rfl)
    replace HE : FT = g7b_X12_way (xso SM ad ws_22) r_25.toInt a1.toInt a2.toInt a3.toInt := HE.trans rfl
    refine y_if_eq (tgt := 39) C0 dX12_way_26 (by decide) (fun c_31 => ?_) (fun c_31 => ?_)
    · -- 26
      replace HE : FT = g8_X12_way (xso SM ad ws_22) := HE.trans (if_pos c_31)
      refine y_c2 (n := (-3)) C0 (by decide) dX12_way_39 (fun v_32 e_33 => ?_)
      replace HE : FT = ((xso SM ad ws_22), v_32.toInt) := HE.trans (by rw [e_33]; rfl)
      rw [hQ]
      exact y_iret C0 h (Fr.tr (Fr.tr (Fr.up u_4.1 kSM_0 (by decide)) (Fr.mono u_6 (by decide))) (Fr.mono u_23 (by decide))) ⟨(congrArg Prod.fst (HE.symm.trans hFT)), (congrArg Prod.snd (HE.symm.trans hFT)), (o36_352 e_33), (o36_353 e_33)⟩ dX12_way_41
    · -- 26
      replace HE : FT = g9_X12_way (xso SM ad ws_22) a1.toInt a2.toInt a3.toInt := HE.trans (if_neg c_31)
      refine lv_aload_n C0.1 C0.2.1 dX12_way_29 rfl (lv_at hl 0 rfl) ?_
      refine lv_iload_n C0.1 C0.2.1 dX12_way_30 rfl (lv_at hl 1 rfl) ?_
      refine lv_iload_n C0.1 C0.2.1 dX12_way_31 rfl (lv_at hl 2 rfl) ?_
      refine lv_iload_n C0.1 C0.2.1 dX12_way_32 rfl (lv_at hl 3 rfl) ?_
      refine y_ci h (y_rV (As := [.int a1, .int a2, .int a3]) (rest := []) C0 hZ h (c_X12_wayOf l G Z ad _ h.2 a1 a2 a3 (o36_354 e_11 e_12 e_13 c_15) (o36_355 e_11 e_12 e_13 c_15) (o36_356 e_11 e_12 e_13 c_15) (o36_357 e_11 e_12 e_13 c_15) (J.pa hT hJ (Pa.tr (Pa.tr (Pa.ud u_4.1 (by decide)) (Pa.fr u_6 (by decide))) (Pa.fr u_23 (by decide)))) (Laid.pa (Or.resolve_left e_14 (o36_358 e_11 e_12 e_13 c_15)) (Pa.tr (Pa.fr u_6 (by decide)) (Pa.fr u_23 (by decide))))) k_X12_wayOf q_1873 q_100 q_1871 kSM_0 rfl rfl rfl hl.1 rfl rfl (Nat.le_of_ble_eq_true rfl) dX12_way_33 ⟨Nat.le_of_ble_eq_true rfl, Nat.le_of_ble_eq_true rfl⟩ ⟨Nat.le_of_ble_eq_true rfl, Nat.le_of_ble_eq_true rfl⟩) (fun r_37 H locs ws_34 h u_35 p_36 => ?_)
      obtain ⟨e_38, e_39, e_40, e_41⟩ := p_36
      replace HE : FT = g10c_X12_way (xso SM ad ws_34) r_37.toInt := HE.trans (by rw [e_38, e_39]; rfl)
      refine lv_goto (tgt := 41) C0.1 C0.2.1 dX12_way_36 (by decide) ?_
      replace HE : FT = ((xso SM ad ws_34), r_37.toInt) := HE.trans rfl
      rw [hQ]
      exact y_iret C0 h (Fr.tr (Fr.tr (Fr.tr (Fr.up u_4.1 kSM_0 (by decide)) (Fr.mono u_6 (by decide))) (Fr.mono u_23 (by decide))) u_35) ⟨(congrArg Prod.fst (HE.symm.trans hFT)), (congrArg Prod.snd (HE.symm.trans hFT)), (o36_359 e_40 e_41), (o36_351 e_40 e_41)⟩ dX12_way_41
  · -- 11
    replace HE : FT = g5_X12_way (xso SM ad ws_5) := HE.trans (if_pos c_15)
    refine y_c2 (n := (-2)) C0 (by decide) dX12_way_14 (fun v_42 e_43 => ?_)
    replace HE : FT = ((xso SM ad ws_5), v_42.toInt) := HE.trans (by rw [e_43]; rfl)
    rw [hQ]
    exact y_iret C0 h (Fr.tr (Fr.up u_4.1 kSM_0 (by decide)) (Fr.mono u_6 (by decide))) ⟨(congrArg Prod.fst (HE.symm.trans hFT)), (congrArg Prod.snd (HE.symm.trans hFT)), (o36_360 e_43), (o36_361 e_43)⟩ dX12_way_16
noncomputable def g7w_X12_laysTurns (s : XS) : XR := (s, 0)
noncomputable def g5_X12_laysTurns (s : XS) (x6_15 : Int) : XR := g7w_X12_laysTurns (xup s 0 0 28 x6_15)
noncomputable def g11_X12_laysTurns (R21 : XS → Int → Int → Int → Int → XR) (s : XS) (a4 : Int) (x6_15 : Int) (x7_14 : Int) (x8_13 : Int) : XR := R21 s a4 x6_15 x7_14 ((x8_13 + 1))
noncomputable def g22w_X12_laysTurns (R21 : XS → Int → Int → Int → Int → XR) (s : XS) (a4 : Int) (x7_14 : Int) (x8_13 : Int) (r_58 : Int) (v_99 : Int) : XR := R21 s a4 v_99 ((Xisub x7_14 r_58)) ((x8_13 + 1))
noncomputable def g20_X12_laysTurns (R21 : XS → Int → Int → Int → Int → XR) (s : XS) (a4 : Int) (x7_14 : Int) (x8_13 : Int) (x9_31 : Int) (r_58 : Int) (v_99 : Int) : XR := g22w_X12_laysTurns R21 (xup s 1 13 (Int.toNat x8_13) (x9_31)) a4 x7_14 x8_13 r_58 v_99
noncomputable def g21_X12_laysTurns (R21 : XS → Int → Int → Int → Int → XR) (R31 : XS → Int → Int → Int → Int → Int → XR) (s : XS) (a4 : Int) (x6_15 : Int) (x7_14 : Int) (x8_13 : Int) (x9_31 : Int) : XR := R31 s a4 x6_15 x7_14 x8_13 ((x9_31 + 1))
noncomputable def g19b_X12_laysTurns (R21 : XS → Int → Int → Int → Int → XR) (R31 : XS → Int → Int → Int → Int → Int → XR) (s : XS) (x7_14 : Int) (v_115 : Int) (a4 : Int) (x6_15 : Int) (x8_13 : Int) (x9_31 : Int) (r_58 : Int) (v_99 : Int) : XR := if x7_14 < v_115 then g21_X12_laysTurns R21 R31 s a4 x6_15 x7_14 x8_13 x9_31 else g20_X12_laysTurns R21 s a4 x7_14 x8_13 x9_31 r_58 v_99
noncomputable def g18c_X12_laysTurns (R21 : XS → Int → Int → Int → Int → XR) (R31 : XS → Int → Int → Int → Int → Int → XR) (s : XS) (r_90 : Int) (a4 : Int) (x6_15 : Int) (x7_14 : Int) (x8_13 : Int) (x9_31 : Int) (r_58 : Int) (r_75 : Int) : XR := g19b_X12_laysTurns R21 R31 s x7_14 ((Xiadd r_58 (s 1 9 (Int.toNat ((100 * (x8_13 + 1)) + ((4 * r_90) + r_75)))))) a4 x6_15 x8_13 x9_31 r_58 (((4 * r_90) + r_75))
noncomputable def g17c_X12_laysTurns (R21 : XS → Int → Int → Int → Int → XR) (R31 : XS → Int → Int → Int → Int → Int → XR) (s : XS) (r_75 : Int) (a4 : Int) (x6_15 : Int) (x7_14 : Int) (x8_13 : Int) (x9_31 : Int) (r_58 : Int) : XR := g18c_X12_laysTurns R21 R31 ((f_X12_streetFrom s (x6_15 / 4) r_75).1) (((f_X12_streetFrom s (x6_15 / 4) r_75).2)) a4 x6_15 x7_14 x8_13 x9_31 r_58 r_75
noncomputable def g15_X12_laysTurns (R21 : XS → Int → Int → Int → Int → XR) (R31 : XS → Int → Int → Int → Int → Int → XR) (s : XS) (a4 : Int) (x6_15 : Int) (x7_14 : Int) (x8_13 : Int) (x9_31 : Int) (r_58 : Int) : XR := g17c_X12_laysTurns R21 R31 ((f_X12_directionBy s (x6_15 % 4) x9_31).1) (((f_X12_directionBy s (x6_15 % 4) x9_31).2)) a4 x6_15 x7_14 x8_13 x9_31 r_58
noncomputable def g16_X12_laysTurns (R21 : XS → Int → Int → Int → Int → XR) (R31 : XS → Int → Int → Int → Int → Int → XR) (s : XS) (a4 : Int) (x6_15 : Int) (x7_14 : Int) (x8_13 : Int) (x9_31 : Int) : XR := R31 s a4 x6_15 x7_14 x8_13 ((x9_31 + 1))
noncomputable def g14b_X12_laysTurns (R21 : XS → Int → Int → Int → Int → XR) (R31 : XS → Int → Int → Int → Int → Int → XR) (s : XS) (r_58 : Int) (a4 : Int) (x6_15 : Int) (x7_14 : Int) (x8_13 : Int) (x9_31 : Int) : XR := if r_58 = 1000000000 then g16_X12_laysTurns R21 R31 s a4 x6_15 x7_14 x8_13 x9_31 else g15_X12_laysTurns R21 R31 s a4 x6_15 x7_14 x8_13 x9_31 r_58
noncomputable def g13c_X12_laysTurns (R21 : XS → Int → Int → Int → Int → XR) (R31 : XS → Int → Int → Int → Int → Int → XR) (s : XS) (r_58 : Int) (a4 : Int) (x6_15 : Int) (x7_14 : Int) (x8_13 : Int) (x9_31 : Int) : XR := g14b_X12_laysTurns R21 R31 s r_58 a4 x6_15 x7_14 x8_13 x9_31
noncomputable def g12_X12_laysTurns (R21 : XS → Int → Int → Int → Int → XR) (R31 : XS → Int → Int → Int → Int → Int → XR) (s : XS) (a4 : Int) (x6_15 : Int) (x7_14 : Int) (x8_13 : Int) (x9_31 : Int) : XR := g13c_X12_laysTurns R21 R31 ((f_X12_costOf_0 s x8_13 (x6_15 / 4) (x6_15 % 4) x9_31 0).1) (((f_X12_costOf_0 s x8_13 (x6_15 / 4) (x6_15 % 4) x9_31 0).2)) a4 x6_15 x7_14 x8_13 x9_31
noncomputable def g10b_X12_laysTurns (R21 : XS → Int → Int → Int → Int → XR) (R31 : XS → Int → Int → Int → Int → Int → XR) (s : XS) (x9_31 : Int) (a4 : Int) (x6_15 : Int) (x7_14 : Int) (x8_13 : Int) : XR := if x9_31 < 4 then g12_X12_laysTurns R21 R31 s a4 x6_15 x7_14 x8_13 x9_31 else g11_X12_laysTurns R21 s a4 x6_15 x7_14 x8_13
noncomputable def g9l_X12_laysTurns (R21 : XS → Int → Int → Int → Int → XR) (R31 : XS → Int → Int → Int → Int → Int → XR) (s : XS) (a4 : Int) (x6_15 : Int) (x7_14 : Int) (x8_13 : Int) (x9_31 : Int) : XR := g10b_X12_laysTurns R21 R31 s x9_31 a4 x6_15 x7_14 x8_13
noncomputable def L8_X12_laysTurns (R21 : XS → Int → Int → Int → Int → XR) (n : Nat) : XS → Int → Int → Int → Int → Int → XR := Nat.rec (motive := fun _ => XS → Int → Int → Int → Int → Int → XR) (fun s _ _ _ _ _ => (s, 0)) (fun _ R31 => g9l_X12_laysTurns R21 R31) n
noncomputable def g6_X12_laysTurns (R21 : XS → Int → Int → Int → Int → XR) (s : XS) (a4 : Int) (x6_15 : Int) (x7_14 : Int) (x8_13 : Int) : XR := L8_X12_laysTurns R21 (Int.toNat (4 - 0 + 1)) s a4 x6_15 x7_14 x8_13 0
noncomputable def g4b_X12_laysTurns (R21 : XS → Int → Int → Int → Int → XR) (s : XS) (a4 : Int) (x8_13 : Int) (x6_15 : Int) (x7_14 : Int) : XR := if x8_13 < a4 then g6_X12_laysTurns R21 s a4 x6_15 x7_14 x8_13 else g5_X12_laysTurns s x6_15
noncomputable def g3l_X12_laysTurns (R21 : XS → Int → Int → Int → Int → XR) (s : XS) (a4 : Int) (x6_15 : Int) (x7_14 : Int) (x8_13 : Int) : XR := g4b_X12_laysTurns R21 s a4 x8_13 x6_15 x7_14
noncomputable def L2_X12_laysTurns (n : Nat) : XS → Int → Int → Int → Int → XR := Nat.rec (motive := fun _ => XS → Int → Int → Int → Int → XR) (fun s _ _ _ _ => (s, 0)) (fun _ R21 => g3l_X12_laysTurns R21) n
noncomputable def g1c_X12_laysTurns (s : XS) (a1 : Int) (a2 : Int) (a4 : Int) (a5 : Int) : XR := L2_X12_laysTurns (Int.toNat (60 - 0 + 1)) s a4 (((4 * a1) + a2)) a5 0
noncomputable def f_X12_laysTurns (s : XS) (a1 : Int) (a2 : Int) (a3 : Int) (a4 : Int) (a5 : Int) : XR := g1c_X12_laysTurns ((f_X12_laysStill s a3 a4).1) a1 a2 a4 a5
set_option maxHeartbeats 4000000 in
set_option maxRecDepth 100000 in
theorem c_X12_laysTurns (l : Launch) (G : GG) (Z : RZ) (ad : Nat → Nat) (ws0 : va_W) (hT : Ty G SM ad ws0) (a1 : Int32) (a2 : Int32) (a3 : Int32) (a4 : Int32) (a5 : Int32) (l1 : 0 ≤ a1.toInt) (u1 : a1.toInt ≤ 24) (l2 : 0 ≤ a2.toInt) (u2 : a2.toInt ≤ 3) (l4 : 0 ≤ a4.toInt) (u4 : a4.toInt ≤ 60) (hLd : Laid ws0) : Mq l yX12_laysTurns cX12_laysTurns 13 none 7 G Z [.ref (ad 0), .int a1, .int a2, .int a3, .int a4, .int a5] ws0 (PV G SM ad [0, 9, 13] ws0 (fun u => (xso SM ad u = (f_X12_laysTurns (xso SM ad ws0) a1.toInt a2.toInt a3.toInt a4.toInt a5.toInt).1))) := by
  refine Mq.start (by decide) (Nat.le_of_ble_eq_true rfl) ?_
  intro p e s m below meth c A ls C0 hZ h hl
  have hl : lv_has ls 13 [(0, .ref (ad 0)), (1, .int a1), (2, .int a2), (3, .int a3), (4, .int a4), (5, .int a5)] := hl
  have h : Wt G SM ad A s s.heap [] ws0 := ⟨h, hT⟩
  obtain ⟨args, hargs⟩ : ∃ z, z = ([.ref (ad 0), .int a1, .int a2, .int a3, .int a4, .int a5] : List Value).toArray := ⟨_, rfl⟩
  rw [← hargs] at C0 ⊢
  have C0 : Cx p s m args meth c RX12 cX12_laysTurns 13 none := C0
  obtain ⟨Q, hQ⟩ : ∃ z, z = MQ below ((PV G SM ad [0, 9, 13] ws0 (fun u => (xso SM ad u = (f_X12_laysTurns (xso SM ad ws0) a1.toInt a2.toInt a3.toInt a4.toInt a5.toInt).1))) A) args s 0 0 A := ⟨_, rfl⟩
  rw [← hQ]
  obtain ⟨FT, hFT⟩ : ∃ z, z = f_X12_laysTurns (xso SM ad ws0) a1.toInt a2.toInt a3.toInt a4.toInt a5.toInt := ⟨_, rfl⟩
  have HE : FT = f_X12_laysTurns (xso SM ad ws0) a1.toInt a2.toInt a3.toInt a4.toInt a5.toInt := hFT
  refine lv_aload_n C0.1 C0.2.1 dX12_laysTurns_0 rfl (lv_at hl 0 rfl) ?_
  refine lv_iload_n C0.1 C0.2.1 dX12_laysTurns_1 rfl (lv_at hl 3 rfl) ?_
  refine lv_iload C0.1 C0.2.1 dX12_laysTurns_2 (lv_at hl 4 rfl) ?_
  refine y_cv h (y_rV (As := [.int a3, .int a4]) (rest := []) C0 hZ h (c_X12_laysStill l G Z ad _ h.2 a3 a4 (o36_315 l4 u4) (o36_316 l4 u4) (Laid.pa hLd Pa.rf)) k_X12_laysStill q_1914 q_109 q_1912 kSM_0 rfl rfl rfl hl.1 rfl rfl (Nat.le_of_ble_eq_true rfl) dX12_laysTurns_4 ⟨Nat.le_of_ble_eq_true rfl, Nat.le_of_ble_eq_true rfl⟩ ⟨Nat.le_of_ble_eq_true rfl, Nat.le_of_ble_eq_true rfl⟩) (fun H locs ws_1 h u_2 p_3 => ?_)
  have e_4 := p_3
  replace HE : FT = g1c_X12_laysTurns (xso SM ad ws_1) a1.toInt a2.toInt a4.toInt a5.toInt := HE.trans (by rw [e_4]; rfl)
  refine y_c1 (n := 4) C0 (by decide) dX12_laysTurns_7 (fun v_5 e_6 => ?_)
  refine lv_iload_n C0.1 C0.2.1 dX12_laysTurns_8 rfl (lv_at hl 1 rfl) ?_
  refine y_cmul (n := 4) C0 (o36_20 e_6) (o36_89 l1 u1 (le_min a1) (le_max a1)) (o36_90 l1 u1 (le_min a1) (le_max a1)) dX12_laysTurns_9 (fun v_7 e_8 => ?_)
  refine lv_iload_n C0.1 C0.2.1 dX12_laysTurns_10 rfl (lv_at hl 2 rfl) ?_
  refine y_add C0 (o36_129 l1 u1 l2 u2 e_8 (le_min v_7) (le_max v_7) (le_min a2) (le_max a2) (le_min a1) (le_max a1)) (o36_130 l1 u1 l2 u2 e_8 (le_min v_7) (le_max v_7) (le_min a2) (le_max a2) (le_min a1) (le_max a1)) dX12_laysTurns_11 (fun v_9 e_10 => ?_)
  refine lv_istore (lv' := [(6, .int v_9), (0, .ref (ad 0)), (1, .int a1), (2, .int a2), (3, .int a3), (4, .int a4), (5, .int a5)]) C0.1 C0.2.1 dX12_laysTurns_12 hl (by decide) rfl (fun ls hl => ?_)
  refine lv_iload C0.1 C0.2.1 dX12_laysTurns_14 (lv_at hl 6 rfl) ?_
  refine lv_istore (lv' := [(7, .int a5), (6, .int v_9), (0, .ref (ad 0)), (1, .int a1), (2, .int a2), (3, .int a3), (4, .int a4), (5, .int a5)]) C0.1 C0.2.1 dX12_laysTurns_16 hl (by decide) rfl (fun ls hl => ?_)
  refine y_c1 (n := 0) C0 (by decide) dX12_laysTurns_18 (fun v_11 e_12 => ?_)
  refine lv_istore (lv' := [(8, .int v_11), (7, .int a5), (6, .int v_9), (0, .ref (ad 0)), (1, .int a1), (2, .int a2), (3, .int a3), (4, .int a4), (5, .int a5)]) C0.1 C0.2.1 dX12_laysTurns_19 hl (by decide) rfl (fun ls hl => ?_)
  have lp_18 : ∀ (n_20 : Nat) (x8_13 : Int32) (x7_14 : Int32) (x6_15 : Int32) (H : Heap) (locs : List Loc) (ls : Array Slot) (ws_16 : va_W), 60 - x8_13.toInt < (n_20 : Int) → 0 ≤ x8_13.toInt → x8_13.toInt ≤ 60 → 0 ≤ x6_15.toInt → x6_15.toInt ≤ 99 → (FT = L2_X12_laysTurns n_20 (xso SM ad ws_16) a4.toInt x6_15.toInt x7_14.toInt x8_13.toInt) → Wt G SM ad A s H locs ws_16 → Fr SM [13] ws_1 ws_16 → lv_has ls 13 [(8, .int x8_13), (7, .int x7_14), (6, .int x6_15), (0, .ref (ad 0)), (1, .int a1), (2, .int a2), (3, .int a3), (4, .int a4), (5, .int a5)] → W p l e (rmd 7 0 0) s m args below meth c H locs 0 0 Q (F0 m 21 ls []) := by
    intro n_20
    induction n_20 with
    | zero => intro x8_13 x7_14 x6_15 H locs ls ws_16 hn_21 b_22 b_23 b_24 b_25 HE h hF_17 hl; exact ((o36_133 b_22 b_23 hn_21)).elim
    | succ n_20 ih_19 =>
      intro x8_13 x7_14 x6_15 H locs ls ws_16 hn_21 b_22 b_23 b_24 b_25 HE h hF_17 hl
      obtain ⟨R21, hR21⟩ : ∃ z, z = L2_X12_laysTurns n_20 := ⟨_, rfl⟩
      replace HE : FT = g3l_X12_laysTurns R21 (xso SM ad ws_16) a4.toInt x6_15.toInt x7_14.toInt x8_13.toInt := HE.trans (by rw [hR21]; rfl)
      refine lv_iload C0.1 C0.2.1 dX12_laysTurns_21 (lv_at hl 0 rfl) ?_
      refine lv_iload C0.1 C0.2.1 dX12_laysTurns_23 (lv_at hl 7 rfl) ?_
      replace HE : FT = g4b_X12_laysTurns R21 (xso SM ad ws_16) a4.toInt x8_13.toInt x6_15.toInt x7_14.toInt := HE.trans rfl
      refine y_icmp_ge (tgt := 156) C0 dX12_laysTurns_25 (by decide) (fun c_26 => ?_) (fun c_26 => ?_)
      · -- 25
        replace HE : FT = g5_X12_laysTurns (xso SM ad ws_16) x6_15.toInt := HE.trans (if_neg (Int.not_lt.mpr c_26))
        refine lv_aload_n C0.1 C0.2.1 dX12_laysTurns_156 rfl (lv_at hl 3 rfl) ?_
        refine lv_iload C0.1 C0.2.1 dX12_laysTurns_157 (lv_at hl 2 rfl) ?_
        refine np_X12_endsAt C0 h kSM_0 q_1466 (o36_213 b_24 b_25) (o36_362 b_24 b_25) dX12_laysTurns_159 (fun H locs ws_27 h u_28 Xu_28 => ?_)
        replace HE : FT = g7w_X12_laysTurns (xso SM ad ws_27) := HE.trans (by rw [Xu_28]; rfl)
        replace HE : FT = ((xso SM ad ws_27), 0) := HE.trans rfl
        rw [hQ]
        exact y_vret C0 h (Fr.tr (Fr.tr (Fr.mono u_2 (by decide)) (Fr.mono hF_17 (by decide))) (Fr.up u_28.1 kSM_0 (by decide))) (congrArg Prod.fst (HE.symm.trans hFT)) dX12_laysTurns_162
      · -- 25
        replace HE : FT = g6_X12_laysTurns R21 (xso SM ad ws_16) a4.toInt x6_15.toInt x7_14.toInt x8_13.toInt := HE.trans (if_pos c_26)
        refine y_c1 (n := 0) C0 (by decide) dX12_laysTurns_28 (fun v_29 e_30 => ?_)
        refine lv_istore (lv' := [(9, .int v_29), (8, .int x8_13), (7, .int x7_14), (6, .int x6_15), (0, .ref (ad 0)), (1, .int a1), (2, .int a2), (3, .int a3), (4, .int a4), (5, .int a5)]) C0.1 C0.2.1 dX12_laysTurns_29 hl (by decide) rfl (fun ls hl => ?_)
        have lp_34 : ∀ (n_36 : Nat) (x9_31 : Int32) (H : Heap) (locs : List Loc) (ls : Array Slot) (ws_32 : va_W), 4 - x9_31.toInt < (n_36 : Int) → 0 ≤ x9_31.toInt → x9_31.toInt ≤ 4 → (FT = L8_X12_laysTurns R21 n_36 (xso SM ad ws_32) a4.toInt x6_15.toInt x7_14.toInt x8_13.toInt x9_31.toInt) → Wt G SM ad A s H locs ws_32 → Fr SM [] ws_16 ws_32 → lv_has ls 13 [(9, .int x9_31), (8, .int x8_13), (7, .int x7_14), (6, .int x6_15), (0, .ref (ad 0)), (1, .int a1), (2, .int a2), (3, .int a3), (4, .int a4), (5, .int a5)] → W p l e (rmd 7 0 0) s m args below meth c H locs 0 0 Q (F0 m 31 ls []) := by
          intro n_36
          induction n_36 with
          | zero => intro x9_31 H locs ls ws_32 hn_37 b_38 b_39 HE h hF_33 hl; exact ((o36_19 b_38 b_39 hn_37)).elim
          | succ n_36 ih_35 =>
            intro x9_31 H locs ls ws_32 hn_37 b_38 b_39 HE h hF_33 hl
            obtain ⟨R31, hR31⟩ : ∃ z, z = L8_X12_laysTurns R21 n_36 := ⟨_, rfl⟩
            replace HE : FT = g9l_X12_laysTurns R21 R31 (xso SM ad ws_32) a4.toInt x6_15.toInt x7_14.toInt x8_13.toInt x9_31.toInt := HE.trans (by rw [hR31]; rfl)
            refine lv_iload C0.1 C0.2.1 dX12_laysTurns_31 (lv_at hl 0 rfl) ?_
            refine y_c1 (n := 4) C0 (by decide) dX12_laysTurns_33 (fun v_40 e_41 => ?_)
            replace HE : FT = g10b_X12_laysTurns R21 R31 (xso SM ad ws_32) x9_31.toInt a4.toInt x6_15.toInt x7_14.toInt x8_13.toInt := HE.trans rfl
            refine y_icmp_ge (tgt := 150) C0 dX12_laysTurns_34 (by decide) (fun c_42 => ?_) (fun c_42 => ?_)
            · -- 34
              replace HE : FT = g11_X12_laysTurns R21 (xso SM ad ws_32) a4.toInt x6_15.toInt x7_14.toInt x8_13.toInt := HE.trans (if_neg (o36_21 b_38 b_39 hn_37 e_41 c_42))
              refine y_inc (kp := 1) (n := 1) (fun v_43 => [(8, .int v_43), (9, .int x9_31), (7, .int x7_14), (6, .int x6_15), (0, .ref (ad 0)), (1, .int a1), (2, .int a2), (3, .int a3), (4, .int a4), (5, .int a5)]) C0 hl rfl (by decide) (by decide) (fun _ => rfl) (o36_363 l4 u4 b_22 b_23 hn_21 c_26 (le_min x8_13) (le_max x8_13) (le_min a4) (le_max a4)) (o36_364 l4 u4 b_22 b_23 hn_21 c_26 (le_min x8_13) (le_max x8_13) (le_min a4) (le_max a4)) dX12_laysTurns_150 (fun v_43 ls e_44 hl => ?_)
              refine lv_goto (tgt := 21) C0.1 C0.2.1 dX12_laysTurns_153 (by decide) ?_
              exact ih_19 v_43 x7_14 x6_15 _ _ _ _ (o36_365 l4 u4 b_22 b_23 hn_21 c_26 e_44) (o36_366 l4 u4 b_22 b_23 hn_21 c_26 e_44) (o36_367 l4 u4 b_22 b_23 hn_21 c_26 e_44) (o36_213 b_24 b_25) (o36_362 b_24 b_25) (((show FT = R21 (xso SM ad ws_32) a4.toInt x6_15.toInt x7_14.toInt v_43.toInt from HE.trans (by rw [e_44]; rfl)).trans (by rw [hR21]))) h (Fr.tr hF_17 (Fr.mono hF_33 (by decide))) (lv_sub hl [0, 2, 3, 4, 5, 6, 7, 8, 9] rfl)
            · -- 34
              replace HE : FT = g12_X12_laysTurns R21 R31 (xso SM ad ws_32) a4.toInt x6_15.toInt x7_14.toInt x8_13.toInt x9_31.toInt := HE.trans (if_pos (o36_22 b_38 b_39 hn_37 e_41 c_42))
              refine lv_aload_n C0.1 C0.2.1 dX12_laysTurns_37 rfl (lv_at hl 4 rfl) ?_
              refine lv_iload C0.1 C0.2.1 dX12_laysTurns_38 (lv_at hl 1 rfl) ?_
              refine lv_iload C0.1 C0.2.1 dX12_laysTurns_40 (lv_at hl 3 rfl) ?_
              refine y_c1 (n := 4) C0 (by decide) dX12_laysTurns_42 (fun v_45 e_46 => ?_)
              refine y_divc (n := 4) C0 (o36_20 e_46) (by decide) (o36_213 b_24 b_25) dX12_laysTurns_43 (fun v_47 e_48 => ?_)
              refine lv_iload C0.1 C0.2.1 dX12_laysTurns_44 (lv_at hl 3 rfl) ?_
              refine y_c1 (n := 4) C0 (by decide) dX12_laysTurns_46 (fun v_49 e_50 => ?_)
              refine y_remc (n := 4) C0 (o36_20 e_50) (by decide) (o36_214 b_24 b_25 e_48) dX12_laysTurns_47 (fun v_51 e_52 => ?_)
              refine lv_iload C0.1 C0.2.1 dX12_laysTurns_48 (lv_at hl 0 rfl) ?_
              refine y_c1 (n := 0) C0 (by decide) dX12_laysTurns_50 (fun v_53 e_54 => ?_)
              refine y_ci h (y_rV (As := [.int x8_13, .int v_47, .int v_51, .int x9_31, .int v_53]) (rest := []) C0 hZ h (c_X12_costOf_0 l G Z ad _ h.2 x8_13 v_47 v_51 x9_31 v_53 (o36_368 l4 u4 b_22 b_23 hn_21 c_26) (o36_369 l4 u4 b_22 b_23 hn_21 c_26) (o36_217 b_24 b_25 e_48 e_52) (o36_218 b_24 b_25 e_48 e_52) (o36_219 b_24 b_25 e_48 e_52) (o36_220 b_24 b_25 e_48 e_52) (o36_163 b_38 b_39 hn_37 e_41 c_42) (o36_164 b_38 b_39 hn_37 e_41 c_42) (o36_63 e_54) (o36_221 e_54) (Laid.pa hLd (Pa.tr (Pa.tr (Pa.fr u_2 (by decide)) (Pa.fr hF_17 (by decide))) (Pa.fr hF_33 (by decide))))) k_X12_costOf q_1890 q_104 q_1888 kSM_0 rfl rfl rfl hl.1 rfl rfl (Nat.le_of_ble_eq_true rfl) dX12_laysTurns_51 ⟨Nat.le_of_ble_eq_true rfl, Nat.le_of_ble_eq_true rfl⟩ ⟨Nat.le_of_ble_eq_true rfl, Nat.le_of_ble_eq_true rfl⟩) (fun r_58 H locs ws_55 h u_56 p_57 => ?_)
              obtain ⟨e_59, e_60, e_61, e_62, e_63, e_64⟩ := p_57
              replace HE : FT = g13c_X12_laysTurns R21 R31 (xso SM ad ws_55) r_58.toInt a4.toInt x6_15.toInt x7_14.toInt x8_13.toInt x9_31.toInt := HE.trans (by rw [e_59, e_60, e_54, e_52, e_48]; rfl)
              refine lv_istore (lv' := [(10, .int r_58), (9, .int x9_31), (8, .int x8_13), (7, .int x7_14), (6, .int x6_15), (0, .ref (ad 0)), (1, .int a1), (2, .int a2), (3, .int a3), (4, .int a4), (5, .int a5)]) C0.1 C0.2.1 dX12_laysTurns_54 hl (by decide) rfl (fun ls hl => ?_)
              refine lv_iload C0.1 C0.2.1 dX12_laysTurns_56 (lv_at hl 0 rfl) ?_
              refine y_c5 (n := 1000000000) C0 q_1887 (by decide) dX12_laysTurns_58 (fun v_65 e_66 => ?_)
              replace HE : FT = g14b_X12_laysTurns R21 R31 (xso SM ad ws_55) r_58.toInt a4.toInt x6_15.toInt x7_14.toInt x8_13.toInt x9_31.toInt := HE.trans rfl
              refine y_icmp_ne (tgt := 67) C0 dX12_laysTurns_61 (by decide) (fun c_67 => ?_) (fun c_67 => ?_)
              · -- 61
                replace HE : FT = g15_X12_laysTurns R21 R31 (xso SM ad ws_55) a4.toInt x6_15.toInt x7_14.toInt x8_13.toInt x9_31.toInt r_58.toInt := HE.trans (if_neg (o36_223 e_61 e_62 e_63 e_66 c_67))
                refine lv_iload C0.1 C0.2.1 dX12_laysTurns_67 (lv_at hl 4 rfl) ?_
                refine y_c1 (n := 4) C0 (by decide) dX12_laysTurns_69 (fun v_68 e_69 => ?_)
                refine y_remc (n := 4) C0 (o36_20 e_69) (by decide) (o36_228 b_24 b_25 e_48 e_52) dX12_laysTurns_70 (fun v_70 e_71 => ?_)
                refine lv_iload C0.1 C0.2.1 dX12_laysTurns_71 (lv_at hl 1 rfl) ?_
                refine y_ci h (y_rS (As := [.int v_70, .int x9_31]) (rest := []) C0 hZ h (c_X12_directionBy l G Z ad _ h.2 v_70 x9_31 (o36_370 b_24 b_25 e_48 e_52 e_71) (o36_371 b_24 b_25 e_48 e_52 e_71) (o36_163 b_38 b_39 hn_37 e_41 c_42) (o36_164 b_38 b_39 hn_37 e_41 c_42)) k_X12_directionBy q_1761 q_1760 hl.1 rfl rfl (Nat.le_of_ble_eq_true rfl) dX12_laysTurns_73 ⟨Nat.le_of_ble_eq_true rfl, Nat.le_of_ble_eq_true rfl⟩ ⟨Nat.le_of_ble_eq_true rfl, Nat.le_of_ble_eq_true rfl⟩) (fun r_75 H locs ws_72 h u_73 p_74 => ?_)
                obtain ⟨e_76, e_77, e_78, e_79, e_80⟩ := p_74
                replace HE : FT = g17c_X12_laysTurns R21 R31 (xso SM ad ws_72) r_75.toInt a4.toInt x6_15.toInt x7_14.toInt x8_13.toInt x9_31.toInt r_58.toInt := HE.trans (by rw [e_76, e_77, e_71]; rfl)
                refine lv_istore (lv' := [(11, .int r_75), (10, .int r_58), (9, .int x9_31), (8, .int x8_13), (7, .int x7_14), (6, .int x6_15), (0, .ref (ad 0)), (1, .int a1), (2, .int a2), (3, .int a3), (4, .int a4), (5, .int a5)]) C0.1 C0.2.1 dX12_laysTurns_76 hl (by decide) rfl (fun ls hl => ?_)
                refine y_c1 (n := 4) C0 (by decide) dX12_laysTurns_78 (fun v_81 e_82 => ?_)
                refine lv_aload_n C0.1 C0.2.1 dX12_laysTurns_79 rfl (lv_at hl 6 rfl) ?_
                refine lv_iload C0.1 C0.2.1 dX12_laysTurns_80 (lv_at hl 5 rfl) ?_
                refine y_c1 (n := 4) C0 (by decide) dX12_laysTurns_82 (fun v_83 e_84 => ?_)
                refine y_divc (n := 4) C0 (o36_20 e_84) (by decide) (o36_372 b_24 b_25 e_48 e_52 e_71) dX12_laysTurns_83 (fun v_85 e_86 => ?_)
                refine lv_iload C0.1 C0.2.1 dX12_laysTurns_84 (lv_at hl 0 rfl) ?_
                refine y_ci h (y_rV (As := [.int v_85, .int r_75]) (rest := [.int v_81]) C0 hZ h (c_X12_streetFrom l G Z ad _ h.2 v_85 r_75 (o36_373 b_24 b_25 e_48 e_52 e_71 e_86) (o36_374 b_24 b_25 e_48 e_52 e_71 e_86) (o36_69 e_78 e_79) (o36_70 e_78 e_79) (Laid.pa hLd (Pa.tr (Pa.tr (Pa.tr (Pa.tr (Pa.fr u_2 (by decide)) (Pa.fr hF_17 (by decide))) (Pa.fr hF_33 (by decide))) (Pa.fr u_56 (by decide))) (Pa.fr u_73 (by decide))))) k_X12_streetFrom q_1713 q_80 q_1711 kSM_0 rfl rfl rfl hl.1 rfl rfl (Nat.le_of_ble_eq_true rfl) dX12_laysTurns_86 ⟨Nat.le_of_ble_eq_true rfl, Nat.le_of_ble_eq_true rfl⟩ ⟨Nat.le_of_ble_eq_true rfl, Nat.le_of_ble_eq_true rfl⟩) (fun r_90 H locs ws_87 h u_88 p_89 => ?_)
                obtain ⟨e_91, e_92, e_93, e_94, e_95⟩ := p_89
                have g_96 := sf_ge (Pw.tr (Pw.fr u_56 (by decide)) (Pw.fr u_73 (by decide))) e_64 (o36_223 e_61 e_62 e_63 e_66 c_67) e_95 (o36_375 b_24 b_25 e_48 e_52 e_71 e_86) (o36_376 b_24 b_25 e_48 e_52 e_71 e_86) e_80 (o36_377 b_24 b_25 e_48 e_52 e_71 e_86) (o36_178 b_38 b_39 hn_37 e_41 c_42)
                replace HE : FT = g18c_X12_laysTurns R21 R31 (xso SM ad ws_87) r_90.toInt a4.toInt x6_15.toInt x7_14.toInt x8_13.toInt x9_31.toInt r_58.toInt r_75.toInt := HE.trans (by rw [e_91, e_92, e_86]; rfl)
                refine y_cmul (n := 4) C0 (o36_20 e_82) (o36_179 e_93 e_94 g_96 (le_min r_90) (le_max r_90)) (o36_180 e_93 e_94 g_96 (le_min r_90) (le_max r_90)) dX12_laysTurns_89 (fun v_97 e_98 => ?_)
                refine lv_iload C0.1 C0.2.1 dX12_laysTurns_90 (lv_at hl 0 rfl) ?_
                refine y_add C0 (o36_378 e_78 e_79 e_93 e_94 g_96 e_98 (le_min v_97) (le_max v_97) (le_min r_75) (le_max r_75) (le_min r_90) (le_max r_90)) (o36_379 e_78 e_79 e_93 e_94 g_96 e_98 (le_min v_97) (le_max v_97) (le_min r_75) (le_max r_75) (le_min r_90) (le_max r_90)) dX12_laysTurns_92 (fun v_99 e_100 => ?_)
                refine lv_istore (lv' := [(12, .int v_99), (11, .int r_75), (10, .int r_58), (9, .int x9_31), (8, .int x8_13), (7, .int x7_14), (6, .int x6_15), (0, .ref (ad 0)), (1, .int a1), (2, .int a2), (3, .int a3), (4, .int a4), (5, .int a5)]) C0.1 C0.2.1 dX12_laysTurns_93 hl (by decide) rfl (fun ls hl => ?_)
                refine lv_iload C0.1 C0.2.1 dX12_laysTurns_95 (lv_at hl 2 rfl) ?_
                refine lv_aload_n C0.1 C0.2.1 dX12_laysTurns_97 rfl (lv_at hl 7 rfl) ?_
                refine ng_X12_still C0 h kSM_0 q_1460 dX12_laysTurns_98 ?_
                refine y_c2 (n := 100) C0 (by decide) dX12_laysTurns_101 (fun v_101 e_102 => ?_)
                refine lv_iload C0.1 C0.2.1 dX12_laysTurns_103 (lv_at hl 4 rfl) ?_
                refine y_c1 (n := 1) C0 (by decide) dX12_laysTurns_105 (fun v_103 e_104 => ?_)
                refine y_add C0 (o36_380 l4 u4 b_22 b_23 hn_21 c_26 e_104 (le_min x8_13) (le_max x8_13) (le_min v_103) (le_max v_103) (le_min a4) (le_max a4)) (o36_381 l4 u4 b_22 b_23 hn_21 c_26 e_104 (le_min x8_13) (le_max x8_13) (le_min v_103) (le_max v_103) (le_min a4) (le_max a4)) dX12_laysTurns_106 (fun v_105 e_106 => ?_)
                refine y_cmul (n := 100) C0 (o36_28 e_102) (o36_382 l4 u4 b_22 b_23 hn_21 c_26 e_104 e_106 (le_min v_105) (le_max v_105) (le_min a4) (le_max a4) (le_min x8_13) (le_max x8_13) (le_min v_103) (le_max v_103)) (o36_383 l4 u4 b_22 b_23 hn_21 c_26 e_104 e_106 (le_min v_105) (le_max v_105) (le_min a4) (le_max a4) (le_min x8_13) (le_max x8_13) (le_min v_103) (le_max v_103)) dX12_laysTurns_107 (fun v_107 e_108 => ?_)
                refine lv_iload C0.1 C0.2.1 dX12_laysTurns_108 (lv_at hl 0 rfl) ?_
                refine y_add C0 (o36_384 l4 u4 b_22 b_23 hn_21 c_26 e_78 e_79 e_93 e_94 g_96 e_98 e_100 e_104 e_106 e_108 (le_min v_107) (le_max v_107) (le_min v_99) (le_max v_99) (le_min a4) (le_max a4) (le_min x8_13) (le_max x8_13) (le_min r_75) (le_max r_75) (le_min r_90) (le_max r_90) (le_min v_97) (le_max v_97) (le_min v_103) (le_max v_103) (le_min v_105) (le_max v_105)) (o36_385 l4 u4 b_22 b_23 hn_21 c_26 e_78 e_79 e_93 e_94 g_96 e_98 e_100 e_104 e_106 e_108 (le_min v_107) (le_max v_107) (le_min v_99) (le_max v_99) (le_min a4) (le_max a4) (le_min x8_13) (le_max x8_13) (le_min r_75) (le_max r_75) (le_min r_90) (le_max r_90) (le_min v_97) (le_max v_97) (le_min v_103) (le_max v_103) (le_min v_105) (le_max v_105)) dX12_laysTurns_110 (fun v_109 e_110 => ?_)
                refine y_iald C0 h kSM_9 rfl (by decide) (o36_386 l4 u4 b_22 b_23 hn_21 c_26 e_78 e_79 e_93 e_94 g_96 e_98 e_100 e_104 e_106 e_108 e_110) (o36_387 l4 u4 b_22 b_23 hn_21 c_26 e_78 e_79 e_93 e_94 g_96 e_98 e_100 e_104 e_106 e_108 e_110) dX12_laysTurns_111 (fun v_111 e_112 e_113 e_114 => ?_)
                refine xr_iadd C0 dX12_laysTurns_112 (fun v_115 e_116 => ?_)
                refine lv_iload C0.1 C0.2.1 dX12_laysTurns_113 (lv_at hl 5 rfl) ?_
                replace HE : FT = g19b_X12_laysTurns R21 R31 (xso SM ad ws_87) x7_14.toInt v_115.toInt a4.toInt x6_15.toInt x8_13.toInt x9_31.toInt r_58.toInt v_99.toInt := HE.trans (by rw [e_116, (xg1 e_112 : v_111.toInt = (xso SM ad ws_87) 1 9 v_109.toInt.toNat), e_110, e_100, e_98, e_108, e_106, e_104]; rfl)
                refine y_icmp_le (tgt := 121) C0 dX12_laysTurns_115 (by decide) (fun c_117 => ?_) (fun c_117 => ?_)
                · -- 115
                  replace HE : FT = g20_X12_laysTurns R21 (xso SM ad ws_87) a4.toInt x7_14.toInt x8_13.toInt x9_31.toInt r_58.toInt v_99.toInt := HE.trans (if_neg (Int.not_lt.mpr c_117))
                  refine lv_aload_n C0.1 C0.2.1 dX12_laysTurns_121 rfl (lv_at hl 7 rfl) ?_
                  refine ng_X12_turns C0 h kSM_0 q_1465 dX12_laysTurns_122 ?_
                  refine lv_iload C0.1 C0.2.1 dX12_laysTurns_125 (lv_at hl 4 rfl) ?_
                  refine lv_iload C0.1 C0.2.1 dX12_laysTurns_127 (lv_at hl 3 rfl) ?_
                  have hO_120 := h.2
                  refine y_iast C0 h kSM_13 rfl (by decide) (o36_388 l4 u4 b_22 b_23 hn_21 c_26 e_78 e_79 e_93 e_94 g_96 e_98 e_100 e_104 e_106 e_108 e_110) (o36_389 l4 u4 b_22 b_23 hn_21 c_26 e_78 e_79 e_93 e_94 g_96 e_98 e_100 e_104 e_106 e_108 e_110) (o36_163 b_38 b_39 hn_37 e_41 c_42) (o36_164 b_38 b_39 hn_37 e_41 c_42) dX12_laysTurns_129 (fun H locs ws_118 h u_119 => ?_)
                  replace HE : FT = g22w_X12_laysTurns R21 (xso SM ad ws_118) a4.toInt x7_14.toInt x8_13.toInt r_58.toInt v_99.toInt := HE.trans (by rw [(xso_A (i := 13) hO_120 h.2 kSM_13 rfl u_119)]; rfl)
                  refine lv_iload C0.1 C0.2.1 dX12_laysTurns_130 (lv_at hl 5 rfl) ?_
                  refine lv_iload C0.1 C0.2.1 dX12_laysTurns_132 (lv_at hl 2 rfl) ?_
                  refine xr_isub C0 dX12_laysTurns_134 (fun v_121 e_122 => ?_)
                  refine lv_istore (lv' := [(7, .int v_121), (12, .int v_99), (11, .int r_75), (10, .int r_58), (9, .int x9_31), (8, .int x8_13), (6, .int x6_15), (0, .ref (ad 0)), (1, .int a1), (2, .int a2), (3, .int a3), (4, .int a4), (5, .int a5)]) C0.1 C0.2.1 dX12_laysTurns_135 hl (by decide) rfl (fun ls hl => ?_)
                  refine lv_iload C0.1 C0.2.1 dX12_laysTurns_137 (lv_at hl 1 rfl) ?_
                  refine lv_istore (lv' := [(6, .int v_99), (7, .int v_121), (12, .int v_99), (11, .int r_75), (10, .int r_58), (9, .int x9_31), (8, .int x8_13), (0, .ref (ad 0)), (1, .int a1), (2, .int a2), (3, .int a3), (4, .int a4), (5, .int a5)]) C0.1 C0.2.1 dX12_laysTurns_139 hl (by decide) rfl (fun ls hl => ?_)
                  refine lv_goto (tgt := 150) C0.1 C0.2.1 dX12_laysTurns_141 (by decide) ?_
                  refine y_inc (kp := 6) (n := 1) (fun v_123 => [(8, .int v_123), (6, .int v_99), (7, .int v_121), (12, .int v_99), (11, .int r_75), (10, .int r_58), (9, .int x9_31), (0, .ref (ad 0)), (1, .int a1), (2, .int a2), (3, .int a3), (4, .int a4), (5, .int a5)]) C0 hl rfl (by decide) (by decide) (fun _ => rfl) (o36_390 l4 u4 b_22 b_23 hn_21 c_26 e_78 e_79 e_93 e_94 g_96 e_98 e_100 e_104 e_106 e_108 e_110 (le_min x8_13) (le_max x8_13) (le_min a4) (le_max a4) (le_min r_75) (le_max r_75) (le_min r_90) (le_max r_90) (le_min v_97) (le_max v_97) (le_min v_99) (le_max v_99) (le_min v_103) (le_max v_103) (le_min v_105) (le_max v_105) (le_min v_107) (le_max v_107) (le_min v_109) (le_max v_109)) (o36_391 l4 u4 b_22 b_23 hn_21 c_26 e_78 e_79 e_93 e_94 g_96 e_98 e_100 e_104 e_106 e_108 e_110 (le_min x8_13) (le_max x8_13) (le_min a4) (le_max a4) (le_min r_75) (le_max r_75) (le_min r_90) (le_max r_90) (le_min v_97) (le_max v_97) (le_min v_99) (le_max v_99) (le_min v_103) (le_max v_103) (le_min v_105) (le_max v_105) (le_min v_107) (le_max v_107) (le_min v_109) (le_max v_109)) dX12_laysTurns_150 (fun v_123 ls e_124 hl => ?_)
                  refine lv_goto (tgt := 21) C0.1 C0.2.1 dX12_laysTurns_153 (by decide) ?_
                  exact ih_19 v_123 v_121 v_99 _ _ _ _ (o36_392 l4 u4 b_22 b_23 hn_21 c_26 e_78 e_79 e_93 e_94 g_96 e_98 e_100 e_104 e_106 e_108 e_110 e_124) (o36_393 l4 u4 b_22 b_23 hn_21 c_26 e_78 e_79 e_93 e_94 g_96 e_98 e_100 e_104 e_106 e_108 e_110 e_124) (o36_394 l4 u4 b_22 b_23 hn_21 c_26 e_78 e_79 e_93 e_94 g_96 e_98 e_100 e_104 e_106 e_108 e_110 e_124) (o36_395 l4 u4 b_22 b_23 hn_21 c_26 e_78 e_79 e_93 e_94 g_96 e_98 e_100 e_104 e_106 e_108 e_110 e_124) (o36_396 l4 u4 b_22 b_23 hn_21 c_26 e_78 e_79 e_93 e_94 g_96 e_98 e_100 e_104 e_106 e_108 e_110 e_124) (((show FT = R21 (xso SM ad ws_118) a4.toInt v_99.toInt v_121.toInt v_123.toInt from HE.trans (by rw [e_124, e_122]; rfl)).trans (by rw [hR21]))) h (Fr.tr (Fr.tr (Fr.tr (Fr.tr (Fr.tr hF_17 (Fr.mono hF_33 (by decide))) (Fr.mono u_56 (by decide))) (Fr.mono u_73 (by decide))) (Fr.mono u_88 (by decide))) (Fr.up u_119.1 kSM_13 (by decide))) (lv_sub hl [0, 2, 1, 7, 8, 9, 10, 11, 12] rfl)
                · -- 115
                  replace HE : FT = g21_X12_laysTurns R21 R31 (xso SM ad ws_87) a4.toInt x6_15.toInt x7_14.toInt x8_13.toInt x9_31.toInt := HE.trans (if_pos c_117)
                  refine lv_goto (tgt := 144) C0.1 C0.2.1 dX12_laysTurns_118 (by decide) ?_
                  refine y_inc (kp := 3) (n := 1) (fun v_125 => [(9, .int v_125), (12, .int v_99), (11, .int r_75), (10, .int r_58), (8, .int x8_13), (7, .int x7_14), (6, .int x6_15), (0, .ref (ad 0)), (1, .int a1), (2, .int a2), (3, .int a3), (4, .int a4), (5, .int a5)]) C0 hl rfl (by decide) (by decide) (fun _ => rfl) (o36_195 b_38 b_39 hn_37 e_41 c_42 (le_min x9_31) (le_max x9_31) (le_min v_40) (le_max v_40)) (o36_196 b_38 b_39 hn_37 e_41 c_42 (le_min x9_31) (le_max x9_31) (le_min v_40) (le_max v_40)) dX12_laysTurns_144 (fun v_125 ls e_126 hl => ?_)
                  refine lv_goto (tgt := 31) C0.1 C0.2.1 dX12_laysTurns_147 (by decide) ?_
                  exact ih_35 v_125 _ _ _ _ (o36_197 b_38 b_39 hn_37 e_41 c_42 e_126) (o36_198 b_38 b_39 hn_37 e_41 c_42 e_126) (o36_199 b_38 b_39 hn_37 e_41 c_42 e_126) (((show FT = R31 (xso SM ad ws_87) a4.toInt x6_15.toInt x7_14.toInt x8_13.toInt v_125.toInt from HE.trans (by rw [e_126]; rfl)).trans (by rw [hR31]))) h (Fr.tr (Fr.tr (Fr.tr hF_33 u_56) u_73) u_88) (lv_sub hl [0, 4, 5, 6, 7, 8, 9, 10, 11, 12] rfl)
              · -- 61
                replace HE : FT = g16_X12_laysTurns R21 R31 (xso SM ad ws_55) a4.toInt x6_15.toInt x7_14.toInt x8_13.toInt x9_31.toInt := HE.trans (if_pos (o36_222 e_61 e_62 e_63 e_66 c_67))
                refine lv_goto (tgt := 144) C0.1 C0.2.1 dX12_laysTurns_64 (by decide) ?_
                refine y_inc (kp := 1) (n := 1) (fun v_127 => [(9, .int v_127), (10, .int r_58), (8, .int x8_13), (7, .int x7_14), (6, .int x6_15), (0, .ref (ad 0)), (1, .int a1), (2, .int a2), (3, .int a3), (4, .int a4), (5, .int a5)]) C0 hl rfl (by decide) (by decide) (fun _ => rfl) (o36_195 b_38 b_39 hn_37 e_41 c_42 (le_min x9_31) (le_max x9_31) (le_min v_40) (le_max v_40)) (o36_196 b_38 b_39 hn_37 e_41 c_42 (le_min x9_31) (le_max x9_31) (le_min v_40) (le_max v_40)) dX12_laysTurns_144 (fun v_127 ls e_128 hl => ?_)
                refine lv_goto (tgt := 31) C0.1 C0.2.1 dX12_laysTurns_147 (by decide) ?_
                exact ih_35 v_127 _ _ _ _ (o36_197 b_38 b_39 hn_37 e_41 c_42 e_128) (o36_198 b_38 b_39 hn_37 e_41 c_42 e_128) (o36_199 b_38 b_39 hn_37 e_41 c_42 e_128) (((show FT = R31 (xso SM ad ws_55) a4.toInt x6_15.toInt x7_14.toInt x8_13.toInt v_127.toInt from HE.trans (by rw [e_128]; rfl)).trans (by rw [hR31]))) h (Fr.tr hF_33 u_56) (lv_sub hl [0, 2, 3, 4, 5, 6, 7, 8, 9, 10] rfl)
        exact lp_34 ((4 - v_29.toInt + 1).toNat) v_29 _ _ _ _ (o36_62 e_30) (o36_63 e_30) (o36_64 e_30) ((show FT = L8_X12_laysTurns R21 (Int.toNat (4 - v_29.toInt + 1)) (xso SM ad ws_16) a4.toInt x6_15.toInt x7_14.toInt x8_13.toInt v_29.toInt from HE.trans (by rw [e_30]; rfl))) h Fr.rf (lv_sub hl [0, 1, 2, 3, 4, 5, 6, 7, 8, 9] rfl)
  exact lp_18 ((60 - v_11.toInt + 1).toNat) v_11 a5 v_9 _ _ _ _ (o36_202 e_12) (o36_63 e_12) (o36_203 e_12) (o36_131 l1 u1 l2 u2 e_8 e_10) (o36_397 l1 u1 l2 u2 e_8 e_10) ((show FT = L2_X12_laysTurns (Int.toNat (60 - v_11.toInt + 1)) (xso SM ad ws_1) a4.toInt v_9.toInt a5.toInt v_11.toInt from HE.trans (by rw [e_12, e_10, e_8]; rfl))) h Fr.rf (lv_sub hl [0, 1, 2, 3, 4, 5, 6, 7, 8] rfl)
noncomputable def g3_X12_laysWay (s : XS) : XR := (s, ((-1)))
noncomputable def g5c_X12_laysWay (s : XS) (r_4 : Int) : XR := (s, r_4)
noncomputable def g4_X12_laysWay (s : XS) (a1 : Int) (a2 : Int) (a3 : Int) (r_4 : Int) : XR := g5c_X12_laysWay ((f_X12_laysTurns s (s 1 1 (Int.toNat (36 + a1))) (s 1 1 (Int.toNat (41 + a1))) a2 r_4 a3).1) r_4
noncomputable def g2b_X12_laysWay (s : XS) (r_4 : Int) (a1 : Int) (a2 : Int) (a3 : Int) : XR := if r_4 = ((-1)) then g3_X12_laysWay s else g4_X12_laysWay s a1 a2 a3 r_4
noncomputable def g1c_X12_laysWay (s : XS) (r_4 : Int) (a1 : Int) (a2 : Int) (a3 : Int) : XR := g2b_X12_laysWay s r_4 a1 a2 a3
noncomputable def f_X12_laysWay (s : XS) (a1 : Int) (a2 : Int) (a3 : Int) : XR := g1c_X12_laysWay ((f_X12_wayOf s a1 a2 a3).1) (((f_X12_wayOf s a1 a2 a3).2)) a1 a2 a3
set_option maxHeartbeats 4000000 in
set_option maxRecDepth 100000 in
theorem c_X12_laysWay (l : Launch) (G : GG) (Z : RZ) (ad : Nat → Nat) (ws0 : va_W) (hT : Ty G SM ad ws0) (a1 : Int32) (a2 : Int32) (a3 : Int32) (l1 : 0 ≤ a1.toInt) (u1 : a1.toInt ≤ 4) (l2 : 0 ≤ a2.toInt) (u2 : a2.toInt ≤ 24) (hJ : J ws0) (hLd : Laid ws0) : Mq l yX12_laysWay cX12_laysWay 5 (some .int) 8 G Z [.ref (ad 0), .int a1, .int a2, .int a3] ws0 (PI G SM ad [0, 5, 8, 9, 10, 11, 12, 13] ws0 (fun r u => (xso SM ad u = (f_X12_laysWay (xso SM ad ws0) a1.toInt a2.toInt a3.toInt).1) ∧ (r.toInt = (f_X12_laysWay (xso SM ad ws0) a1.toInt a2.toInt a3.toInt).2) ∧ ((-1) ≤ r.toInt) ∧ (r.toInt ≤ 60))) := by
  refine Mq.start (by decide) (Nat.le_of_ble_eq_true rfl) ?_
  intro p e s m below meth c A ls C0 hZ h hl
  have hl : lv_has ls 5 [(0, .ref (ad 0)), (1, .int a1), (2, .int a2), (3, .int a3)] := hl
  have h : Wt G SM ad A s s.heap [] ws0 := ⟨h, hT⟩
  obtain ⟨args, hargs⟩ : ∃ z, z = ([.ref (ad 0), .int a1, .int a2, .int a3] : List Value).toArray := ⟨_, rfl⟩
  rw [← hargs] at C0 ⊢
  have C0 : Cx p s m args meth c RX12 cX12_laysWay 5 (some .int) := C0
  obtain ⟨Q, hQ⟩ : ∃ z, z = MQ below ((PI G SM ad [0, 5, 8, 9, 10, 11, 12, 13] ws0 (fun r u => (xso SM ad u = (f_X12_laysWay (xso SM ad ws0) a1.toInt a2.toInt a3.toInt).1) ∧ (r.toInt = (f_X12_laysWay (xso SM ad ws0) a1.toInt a2.toInt a3.toInt).2) ∧ ((-1) ≤ r.toInt) ∧ (r.toInt ≤ 60))) A) args s 0 0 A := ⟨_, rfl⟩
  rw [← hQ]
  obtain ⟨FT, hFT⟩ : ∃ z, z = f_X12_laysWay (xso SM ad ws0) a1.toInt a2.toInt a3.toInt := ⟨_, rfl⟩
  have HE : FT = f_X12_laysWay (xso SM ad ws0) a1.toInt a2.toInt a3.toInt := hFT
  refine lv_aload_n C0.1 C0.2.1 dX12_laysWay_0 rfl (lv_at hl 0 rfl) ?_
  refine lv_iload_n C0.1 C0.2.1 dX12_laysWay_1 rfl (lv_at hl 1 rfl) ?_
  refine lv_iload_n C0.1 C0.2.1 dX12_laysWay_2 rfl (lv_at hl 2 rfl) ?_
  refine lv_iload_n C0.1 C0.2.1 dX12_laysWay_3 rfl (lv_at hl 3 rfl) ?_
  refine y_ci h (y_rV (As := [.int a1, .int a2, .int a3]) (rest := []) C0 hZ h (c_X12_wayOf l G Z ad _ h.2 a1 a2 a3 (o36_345 l1 u1) (o36_346 l1 u1) (o36_71 l2 u2) (o36_72 l2 u2) hJ (Laid.pa hLd Pa.rf)) k_X12_wayOf q_1873 q_100 q_1871 kSM_0 rfl rfl rfl hl.1 rfl rfl (Nat.le_of_ble_eq_true rfl) dX12_laysWay_4 ⟨Nat.le_of_ble_eq_true rfl, Nat.le_of_ble_eq_true rfl⟩ ⟨Nat.le_of_ble_eq_true rfl, Nat.le_of_ble_eq_true rfl⟩) (fun r_4 H locs ws_1 h u_2 p_3 => ?_)
  obtain ⟨e_5, e_6, e_7, e_8⟩ := p_3
  replace HE : FT = g1c_X12_laysWay (xso SM ad ws_1) r_4.toInt a1.toInt a2.toInt a3.toInt := HE.trans (by rw [e_5, e_6]; rfl)
  refine lv_istore (lv' := [(4, .int r_4), (0, .ref (ad 0)), (1, .int a1), (2, .int a2), (3, .int a3)]) C0.1 C0.2.1 dX12_laysWay_7 hl (by decide) rfl (fun ls hl => ?_)
  refine lv_iload C0.1 C0.2.1 dX12_laysWay_9 (lv_at hl 0 rfl) ?_
  refine y_c1 (n := (-1)) C0 (by decide) dX12_laysWay_11 (fun v_9 e_10 => ?_)
  replace HE : FT = g2b_X12_laysWay (xso SM ad ws_1) r_4.toInt a1.toInt a2.toInt a3.toInt := HE.trans rfl
  refine y_icmp_eq (tgt := 41) C0 dX12_laysWay_12 (by decide) (fun c_11 => ?_) (fun c_11 => ?_)
  · -- 12
    replace HE : FT = g3_X12_laysWay (xso SM ad ws_1) := HE.trans (if_pos (o36_398 e_7 e_8 e_10 c_11))
    refine lv_iload C0.1 C0.2.1 dX12_laysWay_41 (lv_at hl 0 rfl) ?_
    replace HE : FT = ((xso SM ad ws_1), r_4.toInt) := HE.trans (by rw [(o36_398 e_7 e_8 e_10 c_11)]; rfl)
    rw [hQ]
    exact y_iret C0 h (Fr.mono u_2 (by decide)) ⟨(congrArg Prod.fst (HE.symm.trans hFT)), (congrArg Prod.snd (HE.symm.trans hFT)), (o36_400 e_7 e_8 e_10 c_11), (o36_401 e_7 e_8 e_10 c_11)⟩ dX12_laysWay_43
  · -- 12
    replace HE : FT = g4_X12_laysWay (xso SM ad ws_1) a1.toInt a2.toInt a3.toInt r_4.toInt := HE.trans (if_neg (o36_399 e_7 e_8 e_10 c_11))
    refine lv_aload_n C0.1 C0.2.1 dX12_laysWay_15 rfl (lv_at hl 1 rfl) ?_
    refine lv_aload_n C0.1 C0.2.1 dX12_laysWay_16 rfl (lv_at hl 1 rfl) ?_
    refine ng_X12_all C0 h kSM_0 q_1439 dX12_laysWay_17 ?_
    refine y_c2 (n := 36) C0 (by decide) dX12_laysWay_20 (fun v_12 e_13 => ?_)
    refine lv_iload_n C0.1 C0.2.1 dX12_laysWay_22 rfl (lv_at hl 2 rfl) ?_
    refine y_add C0 (o36_317 l1 u1 e_13 (le_min v_12) (le_max v_12) (le_min a1) (le_max a1)) (o36_318 l1 u1 e_13 (le_min v_12) (le_max v_12) (le_min a1) (le_max a1)) dX12_laysWay_23 (fun v_14 e_15 => ?_)
    refine y_iald C0 h kSM_1 rfl (by decide) (o36_319 l1 u1 e_13 e_15) (o36_320 l1 u1 e_13 e_15) dX12_laysWay_24 (fun v_16 e_17 e_18 e_19 => ?_)
    have f_20 := o36_321 v_14.toInt.toNat (o36_322 l1 u1 e_13 e_15) (o36_323 l1 u1 e_13 e_15)
    refine lv_aload_n C0.1 C0.2.1 dX12_laysWay_25 rfl (lv_at hl 1 rfl) ?_
    refine ng_X12_all C0 h kSM_0 q_1439 dX12_laysWay_26 ?_
    refine y_c2 (n := 41) C0 (by decide) dX12_laysWay_29 (fun v_21 e_22 => ?_)
    refine lv_iload_n C0.1 C0.2.1 dX12_laysWay_31 rfl (lv_at hl 2 rfl) ?_
    refine y_add C0 (o36_324 l1 u1 e_13 e_15 e_22 (le_min v_21) (le_max v_21) (le_min a1) (le_max a1) (le_min v_12) (le_max v_12) (le_min v_14) (le_max v_14)) (o36_325 l1 u1 e_13 e_15 e_22 (le_min v_21) (le_max v_21) (le_min a1) (le_max a1) (le_min v_12) (le_max v_12) (le_min v_14) (le_max v_14)) dX12_laysWay_32 (fun v_23 e_24 => ?_)
    refine y_iald C0 h kSM_1 rfl (by decide) (o36_326 l1 u1 e_13 e_15 e_22 e_24) (o36_327 l1 u1 e_13 e_15 e_22 e_24) dX12_laysWay_33 (fun v_25 e_26 e_27 e_28 => ?_)
    have f_29 := o36_328 v_23.toInt.toNat (o36_329 l1 u1 e_13 e_15 e_22 e_24) (o36_330 l1 u1 e_13 e_15 e_22 e_24)
    refine lv_iload_n C0.1 C0.2.1 dX12_laysWay_34 rfl (lv_at hl 3 rfl) ?_
    refine lv_iload C0.1 C0.2.1 dX12_laysWay_35 (lv_at hl 0 rfl) ?_
    refine lv_iload_n C0.1 C0.2.1 dX12_laysWay_37 rfl (lv_at hl 4 rfl) ?_
    refine y_cv h (y_rV (As := [.int v_16, .int v_25, .int a2, .int r_4, .int a3]) (rest := []) C0 hZ h (c_X12_laysTurns l G Z ad _ h.2 v_16 v_25 a2 r_4 a3 (o36_71 (Int.le_trans f_20.1 e_18) (Int.le_trans e_19 f_20.2)) (o36_72 (Int.le_trans f_20.1 e_18) (Int.le_trans e_19 f_20.2)) (o36_69 (Int.le_trans f_29.1 e_27) (Int.le_trans e_28 f_29.2)) (o36_70 (Int.le_trans f_29.1 e_27) (Int.le_trans e_28 f_29.2)) (o36_402 e_7 e_8 e_10 c_11) (o36_403 e_7 e_8 e_10 c_11) (Laid.pa hLd (Pa.fr u_2 (by decide)))) k_X12_laysTurns q_1910 q_108 q_1908 kSM_0 rfl rfl rfl hl.1 rfl rfl (Nat.le_of_ble_eq_true rfl) dX12_laysWay_38 ⟨Nat.le_of_ble_eq_true rfl, Nat.le_of_ble_eq_true rfl⟩ ⟨Nat.le_of_ble_eq_true rfl, Nat.le_of_ble_eq_true rfl⟩) (fun H locs ws_30 h u_31 p_32 => ?_)
    have e_33 := p_32
    replace HE : FT = g5c_X12_laysWay (xso SM ad ws_30) r_4.toInt := HE.trans (by rw [e_33, (xg1 e_26 : v_25.toInt = (xso SM ad ws_1) 1 1 v_23.toInt.toNat), e_24, e_22, (xg1 e_17 : v_16.toInt = (xso SM ad ws_1) 1 1 v_14.toInt.toNat), e_15, e_13]; rfl)
    refine lv_iload C0.1 C0.2.1 dX12_laysWay_41 (lv_at hl 0 rfl) ?_
    replace HE : FT = ((xso SM ad ws_30), r_4.toInt) := HE.trans rfl
    rw [hQ]
    exact y_iret C0 h (Fr.tr (Fr.mono u_2 (by decide)) (Fr.mono u_31 (by decide))) ⟨(congrArg Prod.fst (HE.symm.trans hFT)), (congrArg Prod.snd (HE.symm.trans hFT)), (o36_404 e_7 e_8 e_10 c_11), (o36_403 e_7 e_8 e_10 c_11)⟩ dX12_laysWay_43
noncomputable def g8_X12_turn (s : XS) : XR := (s, ((-3)))
noncomputable def g15_X12_turn (s : XS) : XR := (s, ((-1)))
noncomputable def g16_X12_turn (s : XS) (a4 : Int) : XR := (s, (s 1 13 (Int.toNat a4)))
noncomputable def g14b_X12_turn (s : XS) (r_38 : Int) (a4 : Int) : XR := if a4 < r_38 then g16_X12_turn s a4 else g15_X12_turn s
noncomputable def g13c_X12_turn (s : XS) (r_38 : Int) (a4 : Int) : XR := g14b_X12_turn s r_38 a4
noncomputable def g11_X12_turn (s : XS) (a1 : Int) (a2 : Int) (a3 : Int) (a4 : Int) : XR := g13c_X12_turn ((f_X12_laysWay s a1 a2 a3).1) (((f_X12_laysWay s a1 a2 a3).2)) a4
noncomputable def g12_X12_turn (s : XS) : XR := (s, ((-3)))
noncomputable def g10b_X12_turn (s : XS) (a4 : Int) (a1 : Int) (a2 : Int) (a3 : Int) : XR := if a4 < 0 then g12_X12_turn s else g11_X12_turn s a1 a2 a3 a4
noncomputable def g9_X12_turn (s : XS) (a1 : Int) (a2 : Int) (a3 : Int) (a4 : Int) : XR := g10b_X12_turn s a4 a1 a2 a3
noncomputable def g7b_X12_turn (s : XS) (r_25 : Int) (a1 : Int) (a2 : Int) (a3 : Int) (a4 : Int) : XR := if r_25 = 0 then g8_X12_turn s else g9_X12_turn s a1 a2 a3 a4
noncomputable def g6c_X12_turn (s : XS) (r_25 : Int) (a1 : Int) (a2 : Int) (a3 : Int) (a4 : Int) : XR := g7b_X12_turn s r_25 a1 a2 a3 a4
noncomputable def g4_X12_turn (s : XS) (a1 : Int) (a2 : Int) (a3 : Int) (a4 : Int) : XR := g6c_X12_turn ((f_X12_within s a3 0 120).1) (((f_X12_within s a3 0 120).2)) a1 a2 a3 a4
noncomputable def g5_X12_turn (s : XS) : XR := (s, ((-2)))
noncomputable def g3b_X12_turn (s : XS) (r_8 : Int) (a1 : Int) (a2 : Int) (a3 : Int) (a4 : Int) : XR := if r_8 = 0 then g5_X12_turn s else g4_X12_turn s a1 a2 a3 a4
noncomputable def g2c_X12_turn (s : XS) (r_8 : Int) (a1 : Int) (a2 : Int) (a3 : Int) (a4 : Int) : XR := g3b_X12_turn s r_8 a1 a2 a3 a4
noncomputable def g1w_X12_turn (s : XS) (a1 : Int) (a2 : Int) (a3 : Int) (a4 : Int) : XR := g2c_X12_turn ((f_X12_areThere s a1 a2).1) (((f_X12_areThere s a1 a2).2)) a1 a2 a3 a4
noncomputable def f_X12_turn (s : XS) (a1 : Int) (a2 : Int) (a3 : Int) (a4 : Int) : XR := g1w_X12_turn (xup s 0 0 0 0) a1 a2 a3 a4
set_option maxHeartbeats 4000000 in
set_option maxRecDepth 100000 in
theorem c_X12_turn (l : Launch) (G : GG) (Z : RZ) (ad : Nat → Nat) (ws0 : va_W) (hT : Ty G SM ad ws0) (a1 : Int32) (a2 : Int32) (a3 : Int32) (a4 : Int32) (hJ : J ws0) : Mq l yX12_turn cX12_turn 6 (some .int) 9 G Z [.ref (ad 0), .int a1, .int a2, .int a3, .int a4] ws0 (PI G SM ad [0, 5, 8, 9, 10, 11, 12, 13] ws0 (fun r u => (xso SM ad u = (f_X12_turn (xso SM ad ws0) a1.toInt a2.toInt a3.toInt a4.toInt).1) ∧ (r.toInt = (f_X12_turn (xso SM ad ws0) a1.toInt a2.toInt a3.toInt a4.toInt).2) ∧ ((-3) ≤ r.toInt) ∧ (r.toInt ≤ 3))) := by
  refine Mq.start (by decide) (Nat.le_of_ble_eq_true rfl) ?_
  intro p e s m below meth c A ls C0 hZ h hl
  have hl : lv_has ls 6 [(0, .ref (ad 0)), (1, .int a1), (2, .int a2), (3, .int a3), (4, .int a4)] := hl
  have h : Wt G SM ad A s s.heap [] ws0 := ⟨h, hT⟩
  obtain ⟨args, hargs⟩ : ∃ z, z = ([.ref (ad 0), .int a1, .int a2, .int a3, .int a4] : List Value).toArray := ⟨_, rfl⟩
  rw [← hargs] at C0 ⊢
  have C0 : Cx p s m args meth c RX12 cX12_turn 6 (some .int) := C0
  obtain ⟨Q, hQ⟩ : ∃ z, z = MQ below ((PI G SM ad [0, 5, 8, 9, 10, 11, 12, 13] ws0 (fun r u => (xso SM ad u = (f_X12_turn (xso SM ad ws0) a1.toInt a2.toInt a3.toInt a4.toInt).1) ∧ (r.toInt = (f_X12_turn (xso SM ad ws0) a1.toInt a2.toInt a3.toInt a4.toInt).2) ∧ ((-3) ≤ r.toInt) ∧ (r.toInt ≤ 3))) A) args s 0 0 A := ⟨_, rfl⟩
  rw [← hQ]
  obtain ⟨FT, hFT⟩ : ∃ z, z = f_X12_turn (xso SM ad ws0) a1.toInt a2.toInt a3.toInt a4.toInt := ⟨_, rfl⟩
  have HE : FT = f_X12_turn (xso SM ad ws0) a1.toInt a2.toInt a3.toInt a4.toInt := hFT
  refine lv_aload_n C0.1 C0.2.1 dX12_turn_0 rfl (lv_at hl 0 rfl) ?_
  refine y_c1 (n := 0) C0 (by decide) dX12_turn_1 (fun v_1 e_2 => ?_)
  refine np_X12_thrown C0 h kSM_0 q_1438 (le_min v_1) (le_max v_1) dX12_turn_2 (fun H locs ws_3 h u_4 Xu_4 => ?_)
  replace HE : FT = g1w_X12_turn (xso SM ad ws_3) a1.toInt a2.toInt a3.toInt a4.toInt := HE.trans (by rw [Xu_4, e_2]; rfl)
  refine lv_aload_n C0.1 C0.2.1 dX12_turn_5 rfl (lv_at hl 0 rfl) ?_
  refine lv_iload_n C0.1 C0.2.1 dX12_turn_6 rfl (lv_at hl 1 rfl) ?_
  refine lv_iload_n C0.1 C0.2.1 dX12_turn_7 rfl (lv_at hl 2 rfl) ?_
  refine y_ci h (y_rV (As := [.int a1, .int a2]) (rest := []) C0 hZ h (c_X12_areThere l G Z ad _ h.2 a1 a2 (J.pa hT hJ (Pa.ud u_4.1 (by decide)))) k_X12_areThere q_1868 q_99 q_1866 kSM_0 rfl rfl rfl hl.1 rfl rfl (Nat.le_of_ble_eq_true rfl) dX12_turn_8 ⟨Nat.le_of_ble_eq_true rfl, Nat.le_of_ble_eq_true rfl⟩ ⟨Nat.le_of_ble_eq_true rfl, Nat.le_of_ble_eq_true rfl⟩) (fun r_8 H locs ws_5 h u_6 p_7 => ?_)
  obtain ⟨e_9, e_10, e_11, e_12, e_13, e_14⟩ := p_7
  replace HE : FT = g2c_X12_turn (xso SM ad ws_5) r_8.toInt a1.toInt a2.toInt a3.toInt a4.toInt := HE.trans (by rw [e_9, e_10]; rfl)
  replace HE : FT = g3b_X12_turn (xso SM ad ws_5) r_8.toInt a1.toInt a2.toInt a3.toInt a4.toInt := HE.trans rfl
  refine y_if_ne (tgt := 17) C0 dX12_turn_11 (by decide) (fun c_15 => ?_) (fun c_15 => ?_)
  · -- 11
    replace HE : FT = g4_X12_turn (xso SM ad ws_5) a1.toInt a2.toInt a3.toInt a4.toInt := HE.trans (if_neg c_15)
    refine lv_iload_n C0.1 C0.2.1 dX12_turn_17 rfl (lv_at hl 3 rfl) ?_
    refine y_i2l C0 dX12_turn_18 (fun w_16 e_17 => ?_)
    refine y_lc (v := 0) C0 (by decide) dX12_turn_19 (fun w_18 e_19 => ?_)
    refine y_lc2 (n := 120) C0 q_1870 (by decide) dX12_turn_20 (fun w_20 e_21 => ?_)
    refine y_ci h (y_rS (As := [.long w_16, .long w_18, .long w_20]) (rest := []) C0 hZ h (c_X12_within l G Z ad _ h.2 w_16 w_18 w_20) k_X12_within q_1580 q_1579 hl.1 rfl rfl (Nat.le_of_ble_eq_true rfl) dX12_turn_23 ⟨Nat.le_of_ble_eq_true rfl, Nat.le_of_ble_eq_true rfl⟩ ⟨Nat.le_of_ble_eq_true rfl, Nat.le_of_ble_eq_true rfl⟩) (fun r_25 H locs ws_22 h u_23 p_24 => ?_)
    obtain ⟨e_26, e_27, e_28, e_29, e_30⟩ := p_24
    replace HE : FT = g6c_X12_turn (xso SM ad ws_22) r_25.toInt a1.toInt a2.toInt a3.toInt a4.toInt := HE.trans (by rw [e_26, e_27, e_21, e_19, e_17]; rfl)
    replace HE : FT = g7b_X12_turn (xso SM ad ws_22) r_25.toInt a1.toInt a2.toInt a3.toInt a4.toInt := HE.trans rfl
    refine y_if_eq (tgt := 34) C0 dX12_turn_26 (by decide) (fun c_31 => ?_) (fun c_31 => ?_)
    · -- 26
      replace HE : FT = g8_X12_turn (xso SM ad ws_22) := HE.trans (if_pos c_31)
      refine y_c2 (n := (-3)) C0 (by decide) dX12_turn_34 (fun v_32 e_33 => ?_)
      replace HE : FT = ((xso SM ad ws_22), v_32.toInt) := HE.trans (by rw [e_33]; rfl)
      rw [hQ]
      exact y_iret C0 h (Fr.tr (Fr.tr (Fr.up u_4.1 kSM_0 (by decide)) (Fr.mono u_6 (by decide))) (Fr.mono u_23 (by decide))) ⟨(congrArg Prod.fst (HE.symm.trans hFT)), (congrArg Prod.snd (HE.symm.trans hFT)), (o36_352 e_33), (o36_405 e_33)⟩ dX12_turn_36
    · -- 26
      replace HE : FT = g9_X12_turn (xso SM ad ws_22) a1.toInt a2.toInt a3.toInt a4.toInt := HE.trans (if_neg c_31)
      refine lv_iload C0.1 C0.2.1 dX12_turn_29 (lv_at hl 4 rfl) ?_
      replace HE : FT = g10b_X12_turn (xso SM ad ws_22) a4.toInt a1.toInt a2.toInt a3.toInt := HE.trans rfl
      refine y_if_ge (tgt := 37) C0 dX12_turn_31 (by decide) (fun c_34 => ?_) (fun c_34 => ?_)
      · -- 31
        replace HE : FT = g11_X12_turn (xso SM ad ws_22) a1.toInt a2.toInt a3.toInt a4.toInt := HE.trans (if_neg (Int.not_lt.mpr c_34))
        refine lv_aload_n C0.1 C0.2.1 dX12_turn_37 rfl (lv_at hl 0 rfl) ?_
        refine lv_iload_n C0.1 C0.2.1 dX12_turn_38 rfl (lv_at hl 1 rfl) ?_
        refine lv_iload_n C0.1 C0.2.1 dX12_turn_39 rfl (lv_at hl 2 rfl) ?_
        refine lv_iload_n C0.1 C0.2.1 dX12_turn_40 rfl (lv_at hl 3 rfl) ?_
        refine y_ci h (y_rV (As := [.int a1, .int a2, .int a3]) (rest := []) C0 hZ h (c_X12_laysWay l G Z ad _ h.2 a1 a2 a3 (o36_354 e_11 e_12 e_13 c_15) (o36_355 e_11 e_12 e_13 c_15) (o36_356 e_11 e_12 e_13 c_15) (o36_357 e_11 e_12 e_13 c_15) (J.pa hT hJ (Pa.tr (Pa.tr (Pa.ud u_4.1 (by decide)) (Pa.fr u_6 (by decide))) (Pa.fr u_23 (by decide)))) (Laid.pa (Or.resolve_left e_14 (o36_358 e_11 e_12 e_13 c_15)) (Pa.tr (Pa.fr u_6 (by decide)) (Pa.fr u_23 (by decide))))) k_X12_laysWay q_1906 q_107 q_1904 kSM_0 rfl rfl rfl hl.1 rfl rfl (Nat.le_of_ble_eq_true rfl) dX12_turn_41 ⟨Nat.le_of_ble_eq_true rfl, Nat.le_of_ble_eq_true rfl⟩ ⟨Nat.le_of_ble_eq_true rfl, Nat.le_of_ble_eq_true rfl⟩) (fun r_38 H locs ws_35 h u_36 p_37 => ?_)
        obtain ⟨e_39, e_40, e_41, e_42⟩ := p_37
        replace HE : FT = g13c_X12_turn (xso SM ad ws_35) r_38.toInt a4.toInt := HE.trans (by rw [e_39, e_40]; rfl)
        refine lv_istore (lv' := [(5, .int r_38), (0, .ref (ad 0)), (1, .int a1), (2, .int a2), (3, .int a3), (4, .int a4)]) C0.1 C0.2.1 dX12_turn_44 hl (by decide) rfl (fun ls hl => ?_)
        refine lv_iload C0.1 C0.2.1 dX12_turn_46 (lv_at hl 5 rfl) ?_
        refine lv_iload C0.1 C0.2.1 dX12_turn_48 (lv_at hl 0 rfl) ?_
        replace HE : FT = g14b_X12_turn (xso SM ad ws_35) r_38.toInt a4.toInt := HE.trans rfl
        refine y_icmp_ge (tgt := 63) C0 dX12_turn_50 (by decide) (fun c_43 => ?_) (fun c_43 => ?_)
        · -- 50
          replace HE : FT = g15_X12_turn (xso SM ad ws_35) := HE.trans (if_neg (Int.not_lt.mpr c_43))
          refine y_c1 (n := (-1)) C0 (by decide) dX12_turn_63 (fun v_44 e_45 => ?_)
          replace HE : FT = ((xso SM ad ws_35), v_44.toInt) := HE.trans (by rw [e_45]; rfl)
          rw [hQ]
          exact y_iret C0 h (Fr.tr (Fr.tr (Fr.tr (Fr.up u_4.1 kSM_0 (by decide)) (Fr.mono u_6 (by decide))) (Fr.mono u_23 (by decide))) u_36) ⟨(congrArg Prod.fst (HE.symm.trans hFT)), (congrArg Prod.snd (HE.symm.trans hFT)), (o36_406 e_45), (o36_407 e_45)⟩ dX12_turn_64
        · -- 50
          replace HE : FT = g16_X12_turn (xso SM ad ws_35) a4.toInt := HE.trans (if_pos c_43)
          refine lv_aload_n C0.1 C0.2.1 dX12_turn_53 rfl (lv_at hl 1 rfl) ?_
          refine ng_X12_turns C0 h kSM_0 q_1465 dX12_turn_54 ?_
          refine lv_iload C0.1 C0.2.1 dX12_turn_57 (lv_at hl 5 rfl) ?_
          refine y_iald C0 h kSM_13 rfl (by decide) (o36_408 c_34 e_41 e_42 c_43) (o36_409 c_34 e_41 e_42 c_43) dX12_turn_59 (fun v_46 e_47 e_48 e_49 => ?_)
          refine lv_goto (tgt := 64) C0.1 C0.2.1 dX12_turn_60 (by decide) ?_
          replace HE : FT = ((xso SM ad ws_35), v_46.toInt) := HE.trans (by rw [(xg1 e_47 : v_46.toInt = (xso SM ad ws_35) 1 13 a4.toInt.toNat)]; rfl)
          rw [hQ]
          exact y_iret C0 h (Fr.tr (Fr.tr (Fr.tr (Fr.up u_4.1 kSM_0 (by decide)) (Fr.mono u_6 (by decide))) (Fr.mono u_23 (by decide))) u_36) ⟨(congrArg Prod.fst (HE.symm.trans hFT)), (congrArg Prod.snd (HE.symm.trans hFT)), (o36_410 e_48 e_49), (o36_70 e_48 e_49)⟩ dX12_turn_64
      · -- 31
        replace HE : FT = g12_X12_turn (xso SM ad ws_22) := HE.trans (if_pos c_34)
        refine y_c2 (n := (-3)) C0 (by decide) dX12_turn_34 (fun v_50 e_51 => ?_)
        replace HE : FT = ((xso SM ad ws_22), v_50.toInt) := HE.trans (by rw [e_51]; rfl)
        rw [hQ]
        exact y_iret C0 h (Fr.tr (Fr.tr (Fr.up u_4.1 kSM_0 (by decide)) (Fr.mono u_6 (by decide))) (Fr.mono u_23 (by decide))) ⟨(congrArg Prod.fst (HE.symm.trans hFT)), (congrArg Prod.snd (HE.symm.trans hFT)), (o36_352 e_51), (o36_405 e_51)⟩ dX12_turn_36
  · -- 11
    replace HE : FT = g5_X12_turn (xso SM ad ws_5) := HE.trans (if_pos c_15)
    refine y_c2 (n := (-2)) C0 (by decide) dX12_turn_14 (fun v_52 e_53 => ?_)
    replace HE : FT = ((xso SM ad ws_5), v_52.toInt) := HE.trans (by rw [e_53]; rfl)
    rw [hQ]
    exact y_iret C0 h (Fr.tr (Fr.up u_4.1 kSM_0 (by decide)) (Fr.mono u_6 (by decide))) ⟨(congrArg Prod.fst (HE.symm.trans hFT)), (congrArg Prod.snd (HE.symm.trans hFT)), (o36_360 e_53), (o36_411 e_53)⟩ dX12_turn_16
noncomputable def g12c_X12_fewest (s : XS) (r_48 : Int) : XR := (s, r_48)
noncomputable def g11c_X12_fewest (s : XS) (r_41 : Int) : XR := g12c_X12_fewest ((f_X12_orNone s r_41).1) (((f_X12_orNone s r_41).2))
noncomputable def g10c_X12_fewest (s : XS) (a2 : Int) (a3 : Int) : XR := g11c_X12_fewest ((f_X12_leastWithin s a2 a3).1) (((f_X12_leastWithin s a2 a3).2))
noncomputable def g8_X12_fewest (s : XS) (a1 : Int) (a2 : Int) (a3 : Int) : XR := g10c_X12_fewest ((f_X12_laysFor s a1 a3 0).1) a2 a3
noncomputable def g9_X12_fewest (s : XS) : XR := (s, ((-3)))
noncomputable def g7b_X12_fewest (s : XS) (r_25 : Int) (a1 : Int) (a2 : Int) (a3 : Int) : XR := if r_25 = 0 then g9_X12_fewest s else g8_X12_fewest s a1 a2 a3
noncomputable def g6c_X12_fewest (s : XS) (r_25 : Int) (a1 : Int) (a2 : Int) (a3 : Int) : XR := g7b_X12_fewest s r_25 a1 a2 a3
noncomputable def g4_X12_fewest (s : XS) (a1 : Int) (a2 : Int) (a3 : Int) : XR := g6c_X12_fewest ((f_X12_within s a3 0 60).1) (((f_X12_within s a3 0 60).2)) a1 a2 a3
noncomputable def g5_X12_fewest (s : XS) : XR := (s, ((-2)))
noncomputable def g3b_X12_fewest (s : XS) (r_8 : Int) (a1 : Int) (a2 : Int) (a3 : Int) : XR := if r_8 = 0 then g5_X12_fewest s else g4_X12_fewest s a1 a2 a3
noncomputable def g2c_X12_fewest (s : XS) (r_8 : Int) (a1 : Int) (a2 : Int) (a3 : Int) : XR := g3b_X12_fewest s r_8 a1 a2 a3
noncomputable def g1w_X12_fewest (s : XS) (a1 : Int) (a2 : Int) (a3 : Int) : XR := g2c_X12_fewest ((f_X12_areThere s a1 a2).1) (((f_X12_areThere s a1 a2).2)) a1 a2 a3
noncomputable def f_X12_fewest (s : XS) (a1 : Int) (a2 : Int) (a3 : Int) : XR := g1w_X12_fewest (xup s 0 0 0 0) a1 a2 a3
set_option maxHeartbeats 4000000 in
set_option maxRecDepth 100000 in
theorem c_X12_fewest (l : Launch) (G : GG) (Z : RZ) (ad : Nat → Nat) (ws0 : va_W) (hT : Ty G SM ad ws0) (a1 : Int32) (a2 : Int32) (a3 : Int32) (hJ : J ws0) : Mq l yX12_fewest cX12_fewest 4 (some .int) 7 G Z [.ref (ad 0), .int a1, .int a2, .int a3] ws0 (PI G SM ad [0, 5, 8, 10, 11, 12] ws0 (fun r u => (xso SM ad u = (f_X12_fewest (xso SM ad ws0) a1.toInt a2.toInt a3.toInt).1) ∧ (r.toInt = (f_X12_fewest (xso SM ad ws0) a1.toInt a2.toInt a3.toInt).2))) := by
  refine Mq.start (by decide) (Nat.le_of_ble_eq_true rfl) ?_
  intro p e s m below meth c A ls C0 hZ h hl
  have hl : lv_has ls 4 [(0, .ref (ad 0)), (1, .int a1), (2, .int a2), (3, .int a3)] := hl
  have h : Wt G SM ad A s s.heap [] ws0 := ⟨h, hT⟩
  obtain ⟨args, hargs⟩ : ∃ z, z = ([.ref (ad 0), .int a1, .int a2, .int a3] : List Value).toArray := ⟨_, rfl⟩
  rw [← hargs] at C0 ⊢
  have C0 : Cx p s m args meth c RX12 cX12_fewest 4 (some .int) := C0
  obtain ⟨Q, hQ⟩ : ∃ z, z = MQ below ((PI G SM ad [0, 5, 8, 10, 11, 12] ws0 (fun r u => (xso SM ad u = (f_X12_fewest (xso SM ad ws0) a1.toInt a2.toInt a3.toInt).1) ∧ (r.toInt = (f_X12_fewest (xso SM ad ws0) a1.toInt a2.toInt a3.toInt).2))) A) args s 0 0 A := ⟨_, rfl⟩
  rw [← hQ]
  obtain ⟨FT, hFT⟩ : ∃ z, z = f_X12_fewest (xso SM ad ws0) a1.toInt a2.toInt a3.toInt := ⟨_, rfl⟩
  have HE : FT = f_X12_fewest (xso SM ad ws0) a1.toInt a2.toInt a3.toInt := hFT
  refine lv_aload_n C0.1 C0.2.1 dX12_fewest_0 rfl (lv_at hl 0 rfl) ?_
  refine y_c1 (n := 0) C0 (by decide) dX12_fewest_1 (fun v_1 e_2 => ?_)
  refine np_X12_thrown C0 h kSM_0 q_1438 (le_min v_1) (le_max v_1) dX12_fewest_2 (fun H locs ws_3 h u_4 Xu_4 => ?_)
  replace HE : FT = g1w_X12_fewest (xso SM ad ws_3) a1.toInt a2.toInt a3.toInt := HE.trans (by rw [Xu_4, e_2]; rfl)
  refine lv_aload_n C0.1 C0.2.1 dX12_fewest_5 rfl (lv_at hl 0 rfl) ?_
  refine lv_iload_n C0.1 C0.2.1 dX12_fewest_6 rfl (lv_at hl 1 rfl) ?_
  refine lv_iload_n C0.1 C0.2.1 dX12_fewest_7 rfl (lv_at hl 2 rfl) ?_
  refine y_ci h (y_rV (As := [.int a1, .int a2]) (rest := []) C0 hZ h (c_X12_areThere l G Z ad _ h.2 a1 a2 (J.pa hT hJ (Pa.ud u_4.1 (by decide)))) k_X12_areThere q_1868 q_99 q_1866 kSM_0 rfl rfl rfl hl.1 rfl rfl (Nat.le_of_ble_eq_true rfl) dX12_fewest_8 ⟨Nat.le_of_ble_eq_true rfl, Nat.le_of_ble_eq_true rfl⟩ ⟨Nat.le_of_ble_eq_true rfl, Nat.le_of_ble_eq_true rfl⟩) (fun r_8 H locs ws_5 h u_6 p_7 => ?_)
  obtain ⟨e_9, e_10, e_11, e_12, e_13, e_14⟩ := p_7
  replace HE : FT = g2c_X12_fewest (xso SM ad ws_5) r_8.toInt a1.toInt a2.toInt a3.toInt := HE.trans (by rw [e_9, e_10]; rfl)
  replace HE : FT = g3b_X12_fewest (xso SM ad ws_5) r_8.toInt a1.toInt a2.toInt a3.toInt := HE.trans rfl
  refine y_if_ne (tgt := 17) C0 dX12_fewest_11 (by decide) (fun c_15 => ?_) (fun c_15 => ?_)
  · -- 11
    replace HE : FT = g4_X12_fewest (xso SM ad ws_5) a1.toInt a2.toInt a3.toInt := HE.trans (if_neg c_15)
    refine lv_iload_n C0.1 C0.2.1 dX12_fewest_17 rfl (lv_at hl 3 rfl) ?_
    refine y_i2l C0 dX12_fewest_18 (fun w_16 e_17 => ?_)
    refine y_lc (v := 0) C0 (by decide) dX12_fewest_19 (fun w_18 e_19 => ?_)
    refine y_lc2 (n := 60) C0 q_1852 (by decide) dX12_fewest_20 (fun w_20 e_21 => ?_)
    refine y_ci h (y_rS (As := [.long w_16, .long w_18, .long w_20]) (rest := []) C0 hZ h (c_X12_within l G Z ad _ h.2 w_16 w_18 w_20) k_X12_within q_1580 q_1579 hl.1 rfl rfl (Nat.le_of_ble_eq_true rfl) dX12_fewest_23 ⟨Nat.le_of_ble_eq_true rfl, Nat.le_of_ble_eq_true rfl⟩ ⟨Nat.le_of_ble_eq_true rfl, Nat.le_of_ble_eq_true rfl⟩) (fun r_25 H locs ws_22 h u_23 p_24 => ?_)
    obtain ⟨e_26, e_27, e_28, e_29, e_30⟩ := p_24
    replace HE : FT = g6c_X12_fewest (xso SM ad ws_22) r_25.toInt a1.toInt a2.toInt a3.toInt := HE.trans (by rw [e_26, e_27, e_21, e_19, e_17]; rfl)
    replace HE : FT = g7b_X12_fewest (xso SM ad ws_22) r_25.toInt a1.toInt a2.toInt a3.toInt := HE.trans rfl
    refine y_if_ne (tgt := 32) C0 dX12_fewest_26 (by decide) (fun c_31 => ?_) (fun c_31 => ?_)
    · -- 26
      replace HE : FT = g8_X12_fewest (xso SM ad ws_22) a1.toInt a2.toInt a3.toInt := HE.trans (if_neg c_31)
      refine lv_aload_n C0.1 C0.2.1 dX12_fewest_32 rfl (lv_at hl 0 rfl) ?_
      refine lv_iload_n C0.1 C0.2.1 dX12_fewest_33 rfl (lv_at hl 1 rfl) ?_
      refine lv_iload_n C0.1 C0.2.1 dX12_fewest_34 rfl (lv_at hl 3 rfl) ?_
      refine y_c1 (n := 0) C0 (by decide) dX12_fewest_35 (fun v_32 e_33 => ?_)
      refine y_cv h (y_rV (As := [.int a1, .int a3, .int v_32]) (rest := []) C0 hZ h (c_X12_laysFor l G Z ad _ h.2 a1 a3 v_32 (o36_354 e_11 e_12 e_13 c_15) (o36_355 e_11 e_12 e_13 c_15) (o36_412 e_17 e_19 e_21 e_28 e_29 e_30 c_31) (o36_413 e_17 e_19 e_21 e_28 e_29 e_30 c_31) (o36_63 e_33) (o36_349 e_33) (J.pa hT hJ (Pa.tr (Pa.tr (Pa.ud u_4.1 (by decide)) (Pa.fr u_6 (by decide))) (Pa.fr u_23 (by decide)))) (Laid.pa (Or.resolve_left e_14 (o36_358 e_11 e_12 e_13 c_15)) (Pa.tr (Pa.fr u_6 (by decide)) (Pa.fr u_23 (by decide))))) k_X12_laysFor q_1877 q_101 q_1875 kSM_0 rfl rfl rfl hl.1 rfl rfl (Nat.le_of_ble_eq_true rfl) dX12_fewest_36 ⟨Nat.le_of_ble_eq_true rfl, Nat.le_of_ble_eq_true rfl⟩ ⟨Nat.le_of_ble_eq_true rfl, Nat.le_of_ble_eq_true rfl⟩) (fun H locs ws_34 h u_35 p_36 => ?_)
      have e_37 := p_36
      replace HE : FT = g10c_X12_fewest (xso SM ad ws_34) a2.toInt a3.toInt := HE.trans (by rw [e_37, e_33]; rfl)
      refine lv_aload_n C0.1 C0.2.1 dX12_fewest_39 rfl (lv_at hl 0 rfl) ?_
      refine lv_iload_n C0.1 C0.2.1 dX12_fewest_40 rfl (lv_at hl 2 rfl) ?_
      refine lv_iload_n C0.1 C0.2.1 dX12_fewest_41 rfl (lv_at hl 3 rfl) ?_
      refine y_ci h (y_rV (As := [.int a2, .int a3]) (rest := []) C0 hZ h (c_X12_leastWithin l G Z ad _ h.2 a2 a3 (o36_356 e_11 e_12 e_13 c_15) (o36_357 e_11 e_12 e_13 c_15) (o36_412 e_17 e_19 e_21 e_28 e_29 e_30 c_31) (o36_413 e_17 e_19 e_21 e_28 e_29 e_30 c_31)) k_X12_leastWithin q_1926 q_111 q_1924 kSM_0 rfl rfl rfl hl.1 rfl rfl (Nat.le_of_ble_eq_true rfl) dX12_fewest_42 ⟨Nat.le_of_ble_eq_true rfl, Nat.le_of_ble_eq_true rfl⟩ ⟨Nat.le_of_ble_eq_true rfl, Nat.le_of_ble_eq_true rfl⟩) (fun r_41 H locs ws_38 h u_39 p_40 => ?_)
      obtain ⟨e_42, e_43, e_44⟩ := p_40
      replace HE : FT = g11c_X12_fewest (xso SM ad ws_38) r_41.toInt := HE.trans (by rw [e_42, e_43]; rfl)
      refine y_ci h (y_rS (As := [.int r_41]) (rest := []) C0 hZ h (c_X12_orNone l G Z ad _ h.2 r_41) k_X12_orNone q_1929 q_1928 hl.1 rfl rfl (Nat.le_of_ble_eq_true rfl) dX12_fewest_45 ⟨Nat.le_of_ble_eq_true rfl, Nat.le_of_ble_eq_true rfl⟩ ⟨Nat.le_of_ble_eq_true rfl, Nat.le_of_ble_eq_true rfl⟩) (fun r_48 H locs ws_45 h u_46 p_47 => ?_)
      obtain ⟨e_49, e_50⟩ := p_47
      replace HE : FT = g12c_X12_fewest (xso SM ad ws_45) r_48.toInt := HE.trans (by rw [e_49, e_50]; rfl)
      replace HE : FT = ((xso SM ad ws_45), r_48.toInt) := HE.trans rfl
      rw [hQ]
      exact y_iret C0 h (Fr.tr (Fr.tr (Fr.tr (Fr.tr (Fr.tr (Fr.up u_4.1 kSM_0 (by decide)) (Fr.mono u_6 (by decide))) (Fr.mono u_23 (by decide))) u_35) (Fr.mono u_39 (by decide))) (Fr.mono u_46 (by decide))) ⟨(congrArg Prod.fst (HE.symm.trans hFT)), (congrArg Prod.snd (HE.symm.trans hFT))⟩ dX12_fewest_48
    · -- 26
      replace HE : FT = g9_X12_fewest (xso SM ad ws_22) := HE.trans (if_pos c_31)
      refine y_c2 (n := (-3)) C0 (by decide) dX12_fewest_29 (fun v_51 e_52 => ?_)
      replace HE : FT = ((xso SM ad ws_22), v_51.toInt) := HE.trans (by rw [e_52]; rfl)
      rw [hQ]
      exact y_iret C0 h (Fr.tr (Fr.tr (Fr.up u_4.1 kSM_0 (by decide)) (Fr.mono u_6 (by decide))) (Fr.mono u_23 (by decide))) ⟨(congrArg Prod.fst (HE.symm.trans hFT)), (congrArg Prod.snd (HE.symm.trans hFT))⟩ dX12_fewest_31
  · -- 11
    replace HE : FT = g5_X12_fewest (xso SM ad ws_5) := HE.trans (if_pos c_15)
    refine y_c2 (n := (-2)) C0 (by decide) dX12_fewest_14 (fun v_53 e_54 => ?_)
    replace HE : FT = ((xso SM ad ws_5), v_53.toInt) := HE.trans (by rw [e_54]; rfl)
    rw [hQ]
    exact y_iret C0 h (Fr.tr (Fr.up u_4.1 kSM_0 (by decide)) (Fr.mono u_6 (by decide))) ⟨(congrArg Prod.fst (HE.symm.trans hFT)), (congrArg Prod.snd (HE.symm.trans hFT))⟩ dX12_fewest_16
noncomputable def g12c_X12_cheapest (s : XS) (r_48 : Int) : XR := (s, r_48)
noncomputable def g11c_X12_cheapest (s : XS) (r_41 : Int) : XR := g12c_X12_cheapest ((f_X12_orNone s r_41).1) (((f_X12_orNone s r_41).2))
noncomputable def g10c_X12_cheapest (s : XS) (a2 : Int) (a3 : Int) : XR := g11c_X12_cheapest ((f_X12_leastWithin s a2 a3).1) (((f_X12_leastWithin s a2 a3).2))
noncomputable def g8_X12_cheapest (s : XS) (a1 : Int) (a2 : Int) (a3 : Int) : XR := g10c_X12_cheapest ((f_X12_laysFor s a1 a3 1).1) a2 a3
noncomputable def g9_X12_cheapest (s : XS) : XR := (s, ((-3)))
noncomputable def g7b_X12_cheapest (s : XS) (r_25 : Int) (a1 : Int) (a2 : Int) (a3 : Int) : XR := if r_25 = 0 then g9_X12_cheapest s else g8_X12_cheapest s a1 a2 a3
noncomputable def g6c_X12_cheapest (s : XS) (r_25 : Int) (a1 : Int) (a2 : Int) (a3 : Int) : XR := g7b_X12_cheapest s r_25 a1 a2 a3
noncomputable def g4_X12_cheapest (s : XS) (a1 : Int) (a2 : Int) (a3 : Int) : XR := g6c_X12_cheapest ((f_X12_within s a3 0 60).1) (((f_X12_within s a3 0 60).2)) a1 a2 a3
noncomputable def g5_X12_cheapest (s : XS) : XR := (s, ((-2)))
noncomputable def g3b_X12_cheapest (s : XS) (r_8 : Int) (a1 : Int) (a2 : Int) (a3 : Int) : XR := if r_8 = 0 then g5_X12_cheapest s else g4_X12_cheapest s a1 a2 a3
noncomputable def g2c_X12_cheapest (s : XS) (r_8 : Int) (a1 : Int) (a2 : Int) (a3 : Int) : XR := g3b_X12_cheapest s r_8 a1 a2 a3
noncomputable def g1w_X12_cheapest (s : XS) (a1 : Int) (a2 : Int) (a3 : Int) : XR := g2c_X12_cheapest ((f_X12_areThere s a1 a2).1) (((f_X12_areThere s a1 a2).2)) a1 a2 a3
noncomputable def f_X12_cheapest (s : XS) (a1 : Int) (a2 : Int) (a3 : Int) : XR := g1w_X12_cheapest (xup s 0 0 0 0) a1 a2 a3
set_option maxHeartbeats 4000000 in
set_option maxRecDepth 100000 in
theorem c_X12_cheapest (l : Launch) (G : GG) (Z : RZ) (ad : Nat → Nat) (ws0 : va_W) (hT : Ty G SM ad ws0) (a1 : Int32) (a2 : Int32) (a3 : Int32) (hJ : J ws0) : Mq l yX12_cheapest cX12_cheapest 4 (some .int) 7 G Z [.ref (ad 0), .int a1, .int a2, .int a3] ws0 (PI G SM ad [0, 5, 8, 10, 11, 12] ws0 (fun r u => (xso SM ad u = (f_X12_cheapest (xso SM ad ws0) a1.toInt a2.toInt a3.toInt).1) ∧ (r.toInt = (f_X12_cheapest (xso SM ad ws0) a1.toInt a2.toInt a3.toInt).2))) := by
  refine Mq.start (by decide) (Nat.le_of_ble_eq_true rfl) ?_
  intro p e s m below meth c A ls C0 hZ h hl
  have hl : lv_has ls 4 [(0, .ref (ad 0)), (1, .int a1), (2, .int a2), (3, .int a3)] := hl
  have h : Wt G SM ad A s s.heap [] ws0 := ⟨h, hT⟩
  obtain ⟨args, hargs⟩ : ∃ z, z = ([.ref (ad 0), .int a1, .int a2, .int a3] : List Value).toArray := ⟨_, rfl⟩
  rw [← hargs] at C0 ⊢
  have C0 : Cx p s m args meth c RX12 cX12_cheapest 4 (some .int) := C0
  obtain ⟨Q, hQ⟩ : ∃ z, z = MQ below ((PI G SM ad [0, 5, 8, 10, 11, 12] ws0 (fun r u => (xso SM ad u = (f_X12_cheapest (xso SM ad ws0) a1.toInt a2.toInt a3.toInt).1) ∧ (r.toInt = (f_X12_cheapest (xso SM ad ws0) a1.toInt a2.toInt a3.toInt).2))) A) args s 0 0 A := ⟨_, rfl⟩
  rw [← hQ]
  obtain ⟨FT, hFT⟩ : ∃ z, z = f_X12_cheapest (xso SM ad ws0) a1.toInt a2.toInt a3.toInt := ⟨_, rfl⟩
  have HE : FT = f_X12_cheapest (xso SM ad ws0) a1.toInt a2.toInt a3.toInt := hFT
  refine lv_aload_n C0.1 C0.2.1 dX12_cheapest_0 rfl (lv_at hl 0 rfl) ?_
  refine y_c1 (n := 0) C0 (by decide) dX12_cheapest_1 (fun v_1 e_2 => ?_)
  refine np_X12_thrown C0 h kSM_0 q_1438 (le_min v_1) (le_max v_1) dX12_cheapest_2 (fun H locs ws_3 h u_4 Xu_4 => ?_)
  replace HE : FT = g1w_X12_cheapest (xso SM ad ws_3) a1.toInt a2.toInt a3.toInt := HE.trans (by rw [Xu_4, e_2]; rfl)
  refine lv_aload_n C0.1 C0.2.1 dX12_cheapest_5 rfl (lv_at hl 0 rfl) ?_
  refine lv_iload_n C0.1 C0.2.1 dX12_cheapest_6 rfl (lv_at hl 1 rfl) ?_
  refine lv_iload_n C0.1 C0.2.1 dX12_cheapest_7 rfl (lv_at hl 2 rfl) ?_
  refine y_ci h (y_rV (As := [.int a1, .int a2]) (rest := []) C0 hZ h (c_X12_areThere l G Z ad _ h.2 a1 a2 (J.pa hT hJ (Pa.ud u_4.1 (by decide)))) k_X12_areThere q_1868 q_99 q_1866 kSM_0 rfl rfl rfl hl.1 rfl rfl (Nat.le_of_ble_eq_true rfl) dX12_cheapest_8 ⟨Nat.le_of_ble_eq_true rfl, Nat.le_of_ble_eq_true rfl⟩ ⟨Nat.le_of_ble_eq_true rfl, Nat.le_of_ble_eq_true rfl⟩) (fun r_8 H locs ws_5 h u_6 p_7 => ?_)
  obtain ⟨e_9, e_10, e_11, e_12, e_13, e_14⟩ := p_7
  replace HE : FT = g2c_X12_cheapest (xso SM ad ws_5) r_8.toInt a1.toInt a2.toInt a3.toInt := HE.trans (by rw [e_9, e_10]; rfl)
  replace HE : FT = g3b_X12_cheapest (xso SM ad ws_5) r_8.toInt a1.toInt a2.toInt a3.toInt := HE.trans rfl
  refine y_if_ne (tgt := 17) C0 dX12_cheapest_11 (by decide) (fun c_15 => ?_) (fun c_15 => ?_)
  · -- 11
    replace HE : FT = g4_X12_cheapest (xso SM ad ws_5) a1.toInt a2.toInt a3.toInt := HE.trans (if_neg c_15)
    refine lv_iload_n C0.1 C0.2.1 dX12_cheapest_17 rfl (lv_at hl 3 rfl) ?_
    refine y_i2l C0 dX12_cheapest_18 (fun w_16 e_17 => ?_)
    refine y_lc (v := 0) C0 (by decide) dX12_cheapest_19 (fun w_18 e_19 => ?_)
    refine y_lc2 (n := 60) C0 q_1852 (by decide) dX12_cheapest_20 (fun w_20 e_21 => ?_)
    refine y_ci h (y_rS (As := [.long w_16, .long w_18, .long w_20]) (rest := []) C0 hZ h (c_X12_within l G Z ad _ h.2 w_16 w_18 w_20) k_X12_within q_1580 q_1579 hl.1 rfl rfl (Nat.le_of_ble_eq_true rfl) dX12_cheapest_23 ⟨Nat.le_of_ble_eq_true rfl, Nat.le_of_ble_eq_true rfl⟩ ⟨Nat.le_of_ble_eq_true rfl, Nat.le_of_ble_eq_true rfl⟩) (fun r_25 H locs ws_22 h u_23 p_24 => ?_)
    obtain ⟨e_26, e_27, e_28, e_29, e_30⟩ := p_24
    replace HE : FT = g6c_X12_cheapest (xso SM ad ws_22) r_25.toInt a1.toInt a2.toInt a3.toInt := HE.trans (by rw [e_26, e_27, e_21, e_19, e_17]; rfl)
    replace HE : FT = g7b_X12_cheapest (xso SM ad ws_22) r_25.toInt a1.toInt a2.toInt a3.toInt := HE.trans rfl
    refine y_if_ne (tgt := 32) C0 dX12_cheapest_26 (by decide) (fun c_31 => ?_) (fun c_31 => ?_)
    · -- 26
      replace HE : FT = g8_X12_cheapest (xso SM ad ws_22) a1.toInt a2.toInt a3.toInt := HE.trans (if_neg c_31)
      refine lv_aload_n C0.1 C0.2.1 dX12_cheapest_32 rfl (lv_at hl 0 rfl) ?_
      refine lv_iload_n C0.1 C0.2.1 dX12_cheapest_33 rfl (lv_at hl 1 rfl) ?_
      refine lv_iload_n C0.1 C0.2.1 dX12_cheapest_34 rfl (lv_at hl 3 rfl) ?_
      refine y_c1 (n := 1) C0 (by decide) dX12_cheapest_35 (fun v_32 e_33 => ?_)
      refine y_cv h (y_rV (As := [.int a1, .int a3, .int v_32]) (rest := []) C0 hZ h (c_X12_laysFor l G Z ad _ h.2 a1 a3 v_32 (o36_354 e_11 e_12 e_13 c_15) (o36_355 e_11 e_12 e_13 c_15) (o36_412 e_17 e_19 e_21 e_28 e_29 e_30 c_31) (o36_413 e_17 e_19 e_21 e_28 e_29 e_30 c_31) (o36_414 e_33) (o36_415 e_33) (J.pa hT hJ (Pa.tr (Pa.tr (Pa.ud u_4.1 (by decide)) (Pa.fr u_6 (by decide))) (Pa.fr u_23 (by decide)))) (Laid.pa (Or.resolve_left e_14 (o36_358 e_11 e_12 e_13 c_15)) (Pa.tr (Pa.fr u_6 (by decide)) (Pa.fr u_23 (by decide))))) k_X12_laysFor q_1877 q_101 q_1875 kSM_0 rfl rfl rfl hl.1 rfl rfl (Nat.le_of_ble_eq_true rfl) dX12_cheapest_36 ⟨Nat.le_of_ble_eq_true rfl, Nat.le_of_ble_eq_true rfl⟩ ⟨Nat.le_of_ble_eq_true rfl, Nat.le_of_ble_eq_true rfl⟩) (fun H locs ws_34 h u_35 p_36 => ?_)
      have e_37 := p_36
      replace HE : FT = g10c_X12_cheapest (xso SM ad ws_34) a2.toInt a3.toInt := HE.trans (by rw [e_37, e_33]; rfl)
      refine lv_aload_n C0.1 C0.2.1 dX12_cheapest_39 rfl (lv_at hl 0 rfl) ?_
      refine lv_iload_n C0.1 C0.2.1 dX12_cheapest_40 rfl (lv_at hl 2 rfl) ?_
      refine lv_iload_n C0.1 C0.2.1 dX12_cheapest_41 rfl (lv_at hl 3 rfl) ?_
      refine y_ci h (y_rV (As := [.int a2, .int a3]) (rest := []) C0 hZ h (c_X12_leastWithin l G Z ad _ h.2 a2 a3 (o36_356 e_11 e_12 e_13 c_15) (o36_357 e_11 e_12 e_13 c_15) (o36_412 e_17 e_19 e_21 e_28 e_29 e_30 c_31) (o36_413 e_17 e_19 e_21 e_28 e_29 e_30 c_31)) k_X12_leastWithin q_1926 q_111 q_1924 kSM_0 rfl rfl rfl hl.1 rfl rfl (Nat.le_of_ble_eq_true rfl) dX12_cheapest_42 ⟨Nat.le_of_ble_eq_true rfl, Nat.le_of_ble_eq_true rfl⟩ ⟨Nat.le_of_ble_eq_true rfl, Nat.le_of_ble_eq_true rfl⟩) (fun r_41 H locs ws_38 h u_39 p_40 => ?_)
      obtain ⟨e_42, e_43, e_44⟩ := p_40
      replace HE : FT = g11c_X12_cheapest (xso SM ad ws_38) r_41.toInt := HE.trans (by rw [e_42, e_43]; rfl)
      refine y_ci h (y_rS (As := [.int r_41]) (rest := []) C0 hZ h (c_X12_orNone l G Z ad _ h.2 r_41) k_X12_orNone q_1929 q_1928 hl.1 rfl rfl (Nat.le_of_ble_eq_true rfl) dX12_cheapest_45 ⟨Nat.le_of_ble_eq_true rfl, Nat.le_of_ble_eq_true rfl⟩ ⟨Nat.le_of_ble_eq_true rfl, Nat.le_of_ble_eq_true rfl⟩) (fun r_48 H locs ws_45 h u_46 p_47 => ?_)
      obtain ⟨e_49, e_50⟩ := p_47
      replace HE : FT = g12c_X12_cheapest (xso SM ad ws_45) r_48.toInt := HE.trans (by rw [e_49, e_50]; rfl)
      replace HE : FT = ((xso SM ad ws_45), r_48.toInt) := HE.trans rfl
      rw [hQ]
      exact y_iret C0 h (Fr.tr (Fr.tr (Fr.tr (Fr.tr (Fr.tr (Fr.up u_4.1 kSM_0 (by decide)) (Fr.mono u_6 (by decide))) (Fr.mono u_23 (by decide))) u_35) (Fr.mono u_39 (by decide))) (Fr.mono u_46 (by decide))) ⟨(congrArg Prod.fst (HE.symm.trans hFT)), (congrArg Prod.snd (HE.symm.trans hFT))⟩ dX12_cheapest_48
    · -- 26
      replace HE : FT = g9_X12_cheapest (xso SM ad ws_22) := HE.trans (if_pos c_31)
      refine y_c2 (n := (-3)) C0 (by decide) dX12_cheapest_29 (fun v_51 e_52 => ?_)
      replace HE : FT = ((xso SM ad ws_22), v_51.toInt) := HE.trans (by rw [e_52]; rfl)
      rw [hQ]
      exact y_iret C0 h (Fr.tr (Fr.tr (Fr.up u_4.1 kSM_0 (by decide)) (Fr.mono u_6 (by decide))) (Fr.mono u_23 (by decide))) ⟨(congrArg Prod.fst (HE.symm.trans hFT)), (congrArg Prod.snd (HE.symm.trans hFT))⟩ dX12_cheapest_31
  · -- 11
    replace HE : FT = g5_X12_cheapest (xso SM ad ws_5) := HE.trans (if_pos c_15)
    refine y_c2 (n := (-2)) C0 (by decide) dX12_cheapest_14 (fun v_53 e_54 => ?_)
    replace HE : FT = ((xso SM ad ws_5), v_53.toInt) := HE.trans (by rw [e_54]; rfl)
    rw [hQ]
    exact y_iret C0 h (Fr.tr (Fr.up u_4.1 kSM_0 (by decide)) (Fr.mono u_6 (by decide))) ⟨(congrArg Prod.fst (HE.symm.trans hFT)), (congrArg Prod.snd (HE.symm.trans hFT))⟩ dX12_cheapest_16
noncomputable def g4_X12_countsOn (s : XS) : XR := (s, 0)
noncomputable def g15_X12_countsOn (R3 : XS → Int → Int → Int → Int → XR) (s : XS) (a1 : Int) (a2 : Int) (a3 : Int) (x4_3 : Int) : XR := R3 s a1 a2 a3 ((x4_3 + 1))
noncomputable def g17w_X12_countsOn (R3 : XS → Int → Int → Int → Int → XR) (R65 : XS → Int → Int → Int → Int → Int → Int → Int → XR) (s : XS) (a1 : Int) (a2 : Int) (a3 : Int) (x4_3 : Int) (r_28 : Int) (v_69 : Int) (x8_73 : Int) : XR := R65 s a1 a2 a3 x4_3 r_28 v_69 ((x8_73 + 1))
noncomputable def g16_X12_countsOn (R3 : XS → Int → Int → Int → Int → XR) (R65 : XS → Int → Int → Int → Int → Int → Int → Int → XR) (s : XS) (a1 : Int) (a2 : Int) (a3 : Int) (x4_3 : Int) (r_28 : Int) (v_69 : Int) (x8_73 : Int) : XR := g17w_X12_countsOn R3 R65 (xup s 2 15 (Int.toNat (((41 * v_69) + x8_73) + r_28)) ((Xladd (s 2 15 (Int.toNat (((41 * v_69) + x8_73) + r_28))) (s 2 14 (Int.toNat ((41 * a2) + x8_73)))))) a1 a2 a3 x4_3 r_28 v_69 x8_73
noncomputable def g14b_X12_countsOn (R3 : XS → Int → Int → Int → Int → XR) (R65 : XS → Int → Int → Int → Int → Int → Int → Int → XR) (s : XS) (a3 : Int) (v_82 : Int) (a1 : Int) (a2 : Int) (x4_3 : Int) (r_28 : Int) (v_69 : Int) (x8_73 : Int) : XR := if a3 < v_82 then g15_X12_countsOn R3 s a1 a2 a3 x4_3 else g16_X12_countsOn R3 R65 s a1 a2 a3 x4_3 r_28 v_69 x8_73
noncomputable def g13l_X12_countsOn (R3 : XS → Int → Int → Int → Int → XR) (R65 : XS → Int → Int → Int → Int → Int → Int → Int → XR) (s : XS) (a1 : Int) (a2 : Int) (a3 : Int) (x4_3 : Int) (r_28 : Int) (v_69 : Int) (x8_73 : Int) : XR := g14b_X12_countsOn R3 R65 s a3 ((x8_73 + r_28)) a1 a2 x4_3 r_28 v_69 x8_73
noncomputable def L12_X12_countsOn (R3 : XS → Int → Int → Int → Int → XR) (n : Nat) : XS → Int → Int → Int → Int → Int → Int → Int → XR := Nat.rec (motive := fun _ => XS → Int → Int → Int → Int → Int → Int → Int → XR) (fun s _ _ _ _ _ _ _ => (s, 0)) (fun _ R65 => g13l_X12_countsOn R3 R65) n
noncomputable def g11c_X12_countsOn (R3 : XS → Int → Int → Int → Int → XR) (s : XS) (r_60 : Int) (a1 : Int) (a2 : Int) (a3 : Int) (x4_3 : Int) (r_28 : Int) (r_45 : Int) : XR := L12_X12_countsOn R3 (Int.toNat (41 - 0 + 1)) s a1 a2 a3 x4_3 r_28 (((4 * r_60) + r_45)) 0
noncomputable def g10c_X12_countsOn (R3 : XS → Int → Int → Int → Int → XR) (s : XS) (r_45 : Int) (a1 : Int) (a2 : Int) (a3 : Int) (x4_3 : Int) (r_28 : Int) : XR := g11c_X12_countsOn R3 ((f_X12_streetFrom s (a2 / 4) r_45).1) (((f_X12_streetFrom s (a2 / 4) r_45).2)) a1 a2 a3 x4_3 r_28 r_45
noncomputable def g8_X12_countsOn (R3 : XS → Int → Int → Int → Int → XR) (s : XS) (a1 : Int) (a2 : Int) (a3 : Int) (x4_3 : Int) (r_28 : Int) : XR := g10c_X12_countsOn R3 ((f_X12_directionBy s (a2 % 4) x4_3).1) (((f_X12_directionBy s (a2 % 4) x4_3).2)) a1 a2 a3 x4_3 r_28
noncomputable def g9_X12_countsOn (R3 : XS → Int → Int → Int → Int → XR) (s : XS) (a1 : Int) (a2 : Int) (a3 : Int) (x4_3 : Int) : XR := R3 s a1 a2 a3 ((x4_3 + 1))
noncomputable def g7b_X12_countsOn (R3 : XS → Int → Int → Int → Int → XR) (s : XS) (r_28 : Int) (a1 : Int) (a2 : Int) (a3 : Int) (x4_3 : Int) : XR := if r_28 = 1000000000 then g9_X12_countsOn R3 s a1 a2 a3 x4_3 else g8_X12_countsOn R3 s a1 a2 a3 x4_3 r_28
noncomputable def g6c_X12_countsOn (R3 : XS → Int → Int → Int → Int → XR) (s : XS) (r_28 : Int) (a1 : Int) (a2 : Int) (a3 : Int) (x4_3 : Int) : XR := g7b_X12_countsOn R3 s r_28 a1 a2 a3 x4_3
noncomputable def g5_X12_countsOn (R3 : XS → Int → Int → Int → Int → XR) (s : XS) (a1 : Int) (a2 : Int) (a3 : Int) (x4_3 : Int) : XR := g6c_X12_countsOn R3 ((f_X12_costOf_0 s a1 (a2 / 4) (a2 % 4) x4_3 0).1) (((f_X12_costOf_0 s a1 (a2 / 4) (a2 % 4) x4_3 0).2)) a1 a2 a3 x4_3
noncomputable def g3b_X12_countsOn (R3 : XS → Int → Int → Int → Int → XR) (s : XS) (x4_3 : Int) (a1 : Int) (a2 : Int) (a3 : Int) : XR := if x4_3 < 4 then g5_X12_countsOn R3 s a1 a2 a3 x4_3 else g4_X12_countsOn s
noncomputable def g2l_X12_countsOn (R3 : XS → Int → Int → Int → Int → XR) (s : XS) (a1 : Int) (a2 : Int) (a3 : Int) (x4_3 : Int) : XR := g3b_X12_countsOn R3 s x4_3 a1 a2 a3
noncomputable def L1_X12_countsOn (n : Nat) : XS → Int → Int → Int → Int → XR := Nat.rec (motive := fun _ => XS → Int → Int → Int → Int → XR) (fun s _ _ _ _ => (s, 0)) (fun _ R3 => g2l_X12_countsOn R3) n
noncomputable def f_X12_countsOn (s : XS) (a1 : Int) (a2 : Int) (a3 : Int) : XR := L1_X12_countsOn (Int.toNat (4 - 0 + 1)) s a1 a2 a3 0
set_option maxHeartbeats 4000000 in
set_option maxRecDepth 100000 in
theorem c_X12_countsOn (l : Launch) (G : GG) (Z : RZ) (ad : Nat → Nat) (ws0 : va_W) (hT : Ty G SM ad ws0) (a1 : Int32) (a2 : Int32) (a3 : Int32) (l1 : 0 ≤ a1.toInt) (u1 : a1.toInt ≤ 19) (l2 : 0 ≤ a2.toInt) (u2 : a2.toInt ≤ 99) (l3 : 0 ≤ a3.toInt) (u3 : a3.toInt ≤ 40) (hLd : Laid ws0) : Mq l yX12_countsOn cX12_countsOn 9 none 5 G Z [.ref (ad 0), .int a1, .int a2, .int a3] ws0 (PV G SM ad [15] ws0 (fun u => (xso SM ad u = (f_X12_countsOn (xso SM ad ws0) a1.toInt a2.toInt a3.toInt).1))) := by
  refine Mq.start (by decide) (Nat.le_of_ble_eq_true rfl) ?_
  intro p e s m below meth c A ls C0 hZ h hl
  have hl : lv_has ls 9 [(0, .ref (ad 0)), (1, .int a1), (2, .int a2), (3, .int a3)] := hl
  have h : Wt G SM ad A s s.heap [] ws0 := ⟨h, hT⟩
  obtain ⟨args, hargs⟩ : ∃ z, z = ([.ref (ad 0), .int a1, .int a2, .int a3] : List Value).toArray := ⟨_, rfl⟩
  rw [← hargs] at C0 ⊢
  have C0 : Cx p s m args meth c RX12 cX12_countsOn 9 none := C0
  obtain ⟨Q, hQ⟩ : ∃ z, z = MQ below ((PV G SM ad [15] ws0 (fun u => (xso SM ad u = (f_X12_countsOn (xso SM ad ws0) a1.toInt a2.toInt a3.toInt).1))) A) args s 0 0 A := ⟨_, rfl⟩
  rw [← hQ]
  obtain ⟨FT, hFT⟩ : ∃ z, z = f_X12_countsOn (xso SM ad ws0) a1.toInt a2.toInt a3.toInt := ⟨_, rfl⟩
  have HE : FT = f_X12_countsOn (xso SM ad ws0) a1.toInt a2.toInt a3.toInt := hFT
  refine y_c1 (n := 0) C0 (by decide) dX12_countsOn_0 (fun v_1 e_2 => ?_)
  refine lv_istore (lv' := [(4, .int v_1), (0, .ref (ad 0)), (1, .int a1), (2, .int a2), (3, .int a3)]) C0.1 C0.2.1 dX12_countsOn_1 hl (by decide) rfl (fun ls hl => ?_)
  have lp_6 : ∀ (n_8 : Nat) (x4_3 : Int32) (H : Heap) (locs : List Loc) (ls : Array Slot) (ws_4 : va_W), 4 - x4_3.toInt < (n_8 : Int) → 0 ≤ x4_3.toInt → x4_3.toInt ≤ 4 → (FT = L1_X12_countsOn n_8 (xso SM ad ws_4) a1.toInt a2.toInt a3.toInt x4_3.toInt) → Wt G SM ad A s H locs ws_4 → Fr SM [15] ws0 ws_4 → lv_has ls 9 [(4, .int x4_3), (0, .ref (ad 0)), (1, .int a1), (2, .int a2), (3, .int a3)] → W p l e (rmd 5 0 0) s m args below meth c H locs 0 0 Q (F0 m 3 ls []) := by
    intro n_8
    induction n_8 with
    | zero => intro x4_3 H locs ls ws_4 hn_9 b_10 b_11 HE h hF_5 hl; exact ((o36_19 b_10 b_11 hn_9)).elim
    | succ n_8 ih_7 =>
      intro x4_3 H locs ls ws_4 hn_9 b_10 b_11 HE h hF_5 hl
      obtain ⟨R3, hR3⟩ : ∃ z, z = L1_X12_countsOn n_8 := ⟨_, rfl⟩
      replace HE : FT = g2l_X12_countsOn R3 (xso SM ad ws_4) a1.toInt a2.toInt a3.toInt x4_3.toInt := HE.trans (by rw [hR3]; rfl)
      refine lv_iload C0.1 C0.2.1 dX12_countsOn_3 (lv_at hl 0 rfl) ?_
      refine y_c1 (n := 4) C0 (by decide) dX12_countsOn_5 (fun v_12 e_13 => ?_)
      replace HE : FT = g3b_X12_countsOn R3 (xso SM ad ws_4) x4_3.toInt a1.toInt a2.toInt a3.toInt := HE.trans rfl
      refine y_icmp_ge (tgt := 117) C0 dX12_countsOn_6 (by decide) (fun c_14 => ?_) (fun c_14 => ?_)
      · -- 6
        replace HE : FT = g4_X12_countsOn (xso SM ad ws_4) := HE.trans (if_neg (o36_21 b_10 b_11 hn_9 e_13 c_14))
        replace HE : FT = ((xso SM ad ws_4), 0) := HE.trans rfl
        rw [hQ]
        exact y_vret C0 h hF_5 (congrArg Prod.fst (HE.symm.trans hFT)) dX12_countsOn_117
      · -- 6
        replace HE : FT = g5_X12_countsOn R3 (xso SM ad ws_4) a1.toInt a2.toInt a3.toInt x4_3.toInt := HE.trans (if_pos (o36_22 b_10 b_11 hn_9 e_13 c_14))
        refine lv_aload_n C0.1 C0.2.1 dX12_countsOn_9 rfl (lv_at hl 1 rfl) ?_
        refine lv_iload_n C0.1 C0.2.1 dX12_countsOn_10 rfl (lv_at hl 2 rfl) ?_
        refine lv_iload_n C0.1 C0.2.1 dX12_countsOn_11 rfl (lv_at hl 3 rfl) ?_
        refine y_c1 (n := 4) C0 (by decide) dX12_countsOn_12 (fun v_15 e_16 => ?_)
        refine y_divc (n := 4) C0 (o36_20 e_16) (by decide) (o36_213 l2 u2) dX12_countsOn_13 (fun v_17 e_18 => ?_)
        refine lv_iload_n C0.1 C0.2.1 dX12_countsOn_14 rfl (lv_at hl 3 rfl) ?_
        refine y_c1 (n := 4) C0 (by decide) dX12_countsOn_15 (fun v_19 e_20 => ?_)
        refine y_remc (n := 4) C0 (o36_20 e_20) (by decide) (o36_214 l2 u2 e_18) dX12_countsOn_16 (fun v_21 e_22 => ?_)
        refine lv_iload C0.1 C0.2.1 dX12_countsOn_17 (lv_at hl 0 rfl) ?_
        refine y_c1 (n := 0) C0 (by decide) dX12_countsOn_19 (fun v_23 e_24 => ?_)
        refine y_ci h (y_rV (As := [.int a1, .int v_17, .int v_21, .int x4_3, .int v_23]) (rest := []) C0 hZ h (c_X12_costOf_0 l G Z ad _ h.2 a1 v_17 v_21 x4_3 v_23 (o36_416 l1 u1) (o36_417 l1 u1) (o36_217 l2 u2 e_18 e_22) (o36_218 l2 u2 e_18 e_22) (o36_219 l2 u2 e_18 e_22) (o36_220 l2 u2 e_18 e_22) (o36_163 b_10 b_11 hn_9 e_13 c_14) (o36_164 b_10 b_11 hn_9 e_13 c_14) (o36_63 e_24) (o36_221 e_24) (Laid.pa hLd (Pa.fr hF_5 (by decide)))) k_X12_costOf q_1890 q_104 q_1888 kSM_0 rfl rfl rfl hl.1 rfl rfl (Nat.le_of_ble_eq_true rfl) dX12_countsOn_20 ⟨Nat.le_of_ble_eq_true rfl, Nat.le_of_ble_eq_true rfl⟩ ⟨Nat.le_of_ble_eq_true rfl, Nat.le_of_ble_eq_true rfl⟩) (fun r_28 H locs ws_25 h u_26 p_27 => ?_)
        obtain ⟨e_29, e_30, e_31, e_32, e_33, e_34⟩ := p_27
        replace HE : FT = g6c_X12_countsOn R3 (xso SM ad ws_25) r_28.toInt a1.toInt a2.toInt a3.toInt x4_3.toInt := HE.trans (by rw [e_29, e_30, e_24, e_22, e_18]; rfl)
        refine lv_istore (lv' := [(5, .int r_28), (4, .int x4_3), (0, .ref (ad 0)), (1, .int a1), (2, .int a2), (3, .int a3)]) C0.1 C0.2.1 dX12_countsOn_23 hl (by decide) rfl (fun ls hl => ?_)
        refine lv_iload C0.1 C0.2.1 dX12_countsOn_25 (lv_at hl 0 rfl) ?_
        refine y_c5 (n := 1000000000) C0 q_1887 (by decide) dX12_countsOn_27 (fun v_35 e_36 => ?_)
        replace HE : FT = g7b_X12_countsOn R3 (xso SM ad ws_25) r_28.toInt a1.toInt a2.toInt a3.toInt x4_3.toInt := HE.trans rfl
        refine y_icmp_ne (tgt := 36) C0 dX12_countsOn_30 (by decide) (fun c_37 => ?_) (fun c_37 => ?_)
        · -- 30
          replace HE : FT = g8_X12_countsOn R3 (xso SM ad ws_25) a1.toInt a2.toInt a3.toInt x4_3.toInt r_28.toInt := HE.trans (if_neg (o36_223 e_31 e_32 e_33 e_36 c_37))
          refine lv_iload_n C0.1 C0.2.1 dX12_countsOn_36 rfl (lv_at hl 4 rfl) ?_
          refine y_c1 (n := 4) C0 (by decide) dX12_countsOn_37 (fun v_38 e_39 => ?_)
          refine y_remc (n := 4) C0 (o36_20 e_39) (by decide) (o36_228 l2 u2 e_18 e_22) dX12_countsOn_38 (fun v_40 e_41 => ?_)
          refine lv_iload C0.1 C0.2.1 dX12_countsOn_39 (lv_at hl 1 rfl) ?_
          refine y_ci h (y_rS (As := [.int v_40, .int x4_3]) (rest := []) C0 hZ h (c_X12_directionBy l G Z ad _ h.2 v_40 x4_3 (o36_370 l2 u2 e_18 e_22 e_41) (o36_371 l2 u2 e_18 e_22 e_41) (o36_163 b_10 b_11 hn_9 e_13 c_14) (o36_164 b_10 b_11 hn_9 e_13 c_14)) k_X12_directionBy q_1761 q_1760 hl.1 rfl rfl (Nat.le_of_ble_eq_true rfl) dX12_countsOn_41 ⟨Nat.le_of_ble_eq_true rfl, Nat.le_of_ble_eq_true rfl⟩ ⟨Nat.le_of_ble_eq_true rfl, Nat.le_of_ble_eq_true rfl⟩) (fun r_45 H locs ws_42 h u_43 p_44 => ?_)
          obtain ⟨e_46, e_47, e_48, e_49, e_50⟩ := p_44
          replace HE : FT = g10c_X12_countsOn R3 (xso SM ad ws_42) r_45.toInt a1.toInt a2.toInt a3.toInt x4_3.toInt r_28.toInt := HE.trans (by rw [e_46, e_47, e_41]; rfl)
          refine lv_istore (lv' := [(6, .int r_45), (5, .int r_28), (4, .int x4_3), (0, .ref (ad 0)), (1, .int a1), (2, .int a2), (3, .int a3)]) C0.1 C0.2.1 dX12_countsOn_44 hl (by decide) rfl (fun ls hl => ?_)
          refine y_c1 (n := 4) C0 (by decide) dX12_countsOn_46 (fun v_51 e_52 => ?_)
          refine lv_aload_n C0.1 C0.2.1 dX12_countsOn_47 rfl (lv_at hl 3 rfl) ?_
          refine lv_iload_n C0.1 C0.2.1 dX12_countsOn_48 rfl (lv_at hl 5 rfl) ?_
          refine y_c1 (n := 4) C0 (by decide) dX12_countsOn_49 (fun v_53 e_54 => ?_)
          refine y_divc (n := 4) C0 (o36_20 e_54) (by decide) (o36_372 l2 u2 e_18 e_22 e_41) dX12_countsOn_50 (fun v_55 e_56 => ?_)
          refine lv_iload C0.1 C0.2.1 dX12_countsOn_51 (lv_at hl 0 rfl) ?_
          refine y_ci h (y_rV (As := [.int v_55, .int r_45]) (rest := [.int v_51]) C0 hZ h (c_X12_streetFrom l G Z ad _ h.2 v_55 r_45 (o36_373 l2 u2 e_18 e_22 e_41 e_56) (o36_374 l2 u2 e_18 e_22 e_41 e_56) (o36_69 e_48 e_49) (o36_70 e_48 e_49) (Laid.pa hLd (Pa.tr (Pa.tr (Pa.fr hF_5 (by decide)) (Pa.fr u_26 (by decide))) (Pa.fr u_43 (by decide))))) k_X12_streetFrom q_1713 q_80 q_1711 kSM_0 rfl rfl rfl hl.1 rfl rfl (Nat.le_of_ble_eq_true rfl) dX12_countsOn_53 ⟨Nat.le_of_ble_eq_true rfl, Nat.le_of_ble_eq_true rfl⟩ ⟨Nat.le_of_ble_eq_true rfl, Nat.le_of_ble_eq_true rfl⟩) (fun r_60 H locs ws_57 h u_58 p_59 => ?_)
          obtain ⟨e_61, e_62, e_63, e_64, e_65⟩ := p_59
          have g_66 := sf_ge (Pw.tr (Pw.fr u_26 (by decide)) (Pw.fr u_43 (by decide))) e_34 (o36_223 e_31 e_32 e_33 e_36 c_37) e_65 (o36_375 l2 u2 e_18 e_22 e_41 e_56) (o36_376 l2 u2 e_18 e_22 e_41 e_56) e_50 (o36_377 l2 u2 e_18 e_22 e_41 e_56) (o36_178 b_10 b_11 hn_9 e_13 c_14)
          replace HE : FT = g11c_X12_countsOn R3 (xso SM ad ws_57) r_60.toInt a1.toInt a2.toInt a3.toInt x4_3.toInt r_28.toInt r_45.toInt := HE.trans (by rw [e_61, e_62, e_56]; rfl)
          refine y_cmul (n := 4) C0 (o36_20 e_52) (o36_179 e_63 e_64 g_66 (le_min r_60) (le_max r_60)) (o36_180 e_63 e_64 g_66 (le_min r_60) (le_max r_60)) dX12_countsOn_56 (fun v_67 e_68 => ?_)
          refine lv_iload C0.1 C0.2.1 dX12_countsOn_57 (lv_at hl 0 rfl) ?_
          refine y_add C0 (o36_378 e_48 e_49 e_63 e_64 g_66 e_68 (le_min v_67) (le_max v_67) (le_min r_45) (le_max r_45) (le_min r_60) (le_max r_60)) (o36_379 e_48 e_49 e_63 e_64 g_66 e_68 (le_min v_67) (le_max v_67) (le_min r_45) (le_max r_45) (le_min r_60) (le_max r_60)) dX12_countsOn_59 (fun v_69 e_70 => ?_)
          refine lv_istore (lv' := [(7, .int v_69), (6, .int r_45), (5, .int r_28), (4, .int x4_3), (0, .ref (ad 0)), (1, .int a1), (2, .int a2), (3, .int a3)]) C0.1 C0.2.1 dX12_countsOn_60 hl (by decide) rfl (fun ls hl => ?_)
          refine y_c1 (n := 0) C0 (by decide) dX12_countsOn_62 (fun v_71 e_72 => ?_)
          refine lv_istore (lv' := [(8, .int v_71), (7, .int v_69), (6, .int r_45), (5, .int r_28), (4, .int x4_3), (0, .ref (ad 0)), (1, .int a1), (2, .int a2), (3, .int a3)]) C0.1 C0.2.1 dX12_countsOn_63 hl (by decide) rfl (fun ls hl => ?_)
          have lp_76 : ∀ (n_78 : Nat) (x8_73 : Int32) (H : Heap) (locs : List Loc) (ls : Array Slot) (ws_74 : va_W), 41 - x8_73.toInt < (n_78 : Int) → 0 ≤ x8_73.toInt → x8_73.toInt ≤ 41 → (FT = L12_X12_countsOn R3 n_78 (xso SM ad ws_74) a1.toInt a2.toInt a3.toInt x4_3.toInt r_28.toInt v_69.toInt x8_73.toInt) → Wt G SM ad A s H locs ws_74 → Fr SM [15] ws_57 ws_74 → lv_has ls 9 [(8, .int x8_73), (7, .int v_69), (6, .int r_45), (5, .int r_28), (4, .int x4_3), (0, .ref (ad 0)), (1, .int a1), (2, .int a2), (3, .int a3)] → W p l e (rmd 5 0 0) s m args below meth c H locs 0 0 Q (F0 m 65 ls []) := by
            intro n_78
            induction n_78 with
            | zero => intro x8_73 H locs ls ws_74 hn_79 b_80 b_81 HE h hF_75 hl; exact ((o36_418 b_80 b_81 hn_79)).elim
            | succ n_78 ih_77 =>
              intro x8_73 H locs ls ws_74 hn_79 b_80 b_81 HE h hF_75 hl
              obtain ⟨R65, hR65⟩ : ∃ z, z = L12_X12_countsOn R3 n_78 := ⟨_, rfl⟩
              replace HE : FT = g13l_X12_countsOn R3 R65 (xso SM ad ws_74) a1.toInt a2.toInt a3.toInt x4_3.toInt r_28.toInt v_69.toInt x8_73.toInt := HE.trans (by rw [hR65]; rfl)
              refine lv_iload C0.1 C0.2.1 dX12_countsOn_65 (lv_at hl 0 rfl) ?_
              refine lv_iload C0.1 C0.2.1 dX12_countsOn_67 (lv_at hl 3 rfl) ?_
              refine y_add C0 (o36_419 e_31 e_32 e_33 e_36 c_37 b_80 b_81 hn_79 (le_min x8_73) (le_max x8_73) (le_min r_28) (le_max r_28) (le_min v_35) (le_max v_35)) (o36_420 e_31 e_32 e_33 e_36 c_37 b_80 b_81 hn_79 (le_min x8_73) (le_max x8_73) (le_min r_28) (le_max r_28) (le_min v_35) (le_max v_35)) dX12_countsOn_69 (fun v_82 e_83 => ?_)
              refine lv_iload_n C0.1 C0.2.1 dX12_countsOn_70 rfl (lv_at hl 8 rfl) ?_
              replace HE : FT = g14b_X12_countsOn R3 R65 (xso SM ad ws_74) a3.toInt v_82.toInt a1.toInt a2.toInt x4_3.toInt r_28.toInt v_69.toInt x8_73.toInt := HE.trans (by rw [e_83]; rfl)
              refine y_icmp_gt (tgt := 111) C0 dX12_countsOn_71 (by decide) (fun c_84 => ?_) (fun c_84 => ?_)
              · -- 71
                replace HE : FT = g15_X12_countsOn R3 (xso SM ad ws_74) a1.toInt a2.toInt a3.toInt x4_3.toInt := HE.trans (if_pos c_84)
                refine y_inc (kp := 4) (n := 1) (fun v_85 => [(4, .int v_85), (8, .int x8_73), (7, .int v_69), (6, .int r_45), (5, .int r_28), (0, .ref (ad 0)), (1, .int a1), (2, .int a2), (3, .int a3)]) C0 hl rfl (by decide) (by decide) (fun _ => rfl) (o36_195 b_10 b_11 hn_9 e_13 c_14 (le_min x4_3) (le_max x4_3) (le_min v_12) (le_max v_12)) (o36_196 b_10 b_11 hn_9 e_13 c_14 (le_min x4_3) (le_max x4_3) (le_min v_12) (le_max v_12)) dX12_countsOn_111 (fun v_85 ls e_86 hl => ?_)
                refine lv_goto (tgt := 3) C0.1 C0.2.1 dX12_countsOn_114 (by decide) ?_
                exact ih_7 v_85 _ _ _ _ (o36_197 b_10 b_11 hn_9 e_13 c_14 e_86) (o36_198 b_10 b_11 hn_9 e_13 c_14 e_86) (o36_199 b_10 b_11 hn_9 e_13 c_14 e_86) (((show FT = R3 (xso SM ad ws_74) a1.toInt a2.toInt a3.toInt v_85.toInt from HE.trans (by rw [e_86]; rfl)).trans (by rw [hR3]))) h (Fr.tr (Fr.tr (Fr.tr (Fr.tr hF_5 (Fr.mono u_26 (by decide))) (Fr.mono u_43 (by decide))) (Fr.mono u_58 (by decide))) hF_75) (lv_sub hl [0, 5, 6, 7, 8] rfl)
              · -- 71
                replace HE : FT = g16_X12_countsOn R3 R65 (xso SM ad ws_74) a1.toInt a2.toInt a3.toInt x4_3.toInt r_28.toInt v_69.toInt x8_73.toInt := HE.trans (if_neg (Int.not_lt.mpr c_84))
                refine lv_aload_n C0.1 C0.2.1 dX12_countsOn_74 rfl (lv_at hl 5 rfl) ?_
                refine ng_X12_manyThen C0 h kSM_0 q_1468 dX12_countsOn_75 ?_
                refine y_c2 (n := 41) C0 (by decide) dX12_countsOn_78 (fun v_87 e_88 => ?_)
                refine lv_iload C0.1 C0.2.1 dX12_countsOn_80 (lv_at hl 1 rfl) ?_
                refine y_cmul (n := 41) C0 (o36_421 e_88) (o36_422 e_48 e_49 e_63 e_64 g_66 e_68 e_70 (le_min v_69) (le_max v_69) (le_min r_45) (le_max r_45) (le_min r_60) (le_max r_60) (le_min v_67) (le_max v_67)) (o36_423 e_48 e_49 e_63 e_64 g_66 e_68 e_70 (le_min v_69) (le_max v_69) (le_min r_45) (le_max r_45) (le_min r_60) (le_max r_60) (le_min v_67) (le_max v_67)) dX12_countsOn_82 (fun v_89 e_90 => ?_)
                refine lv_iload C0.1 C0.2.1 dX12_countsOn_83 (lv_at hl 0 rfl) ?_
                refine y_add C0 (o36_424 l3 u3 e_31 e_32 e_33 e_36 c_37 e_48 e_49 e_63 e_64 g_66 e_68 e_70 b_80 b_81 hn_79 e_83 c_84 e_90 (le_min v_89) (le_max v_89) (le_min x8_73) (le_max x8_73) (le_min a3) (le_max a3) (le_min r_28) (le_max r_28) (le_min v_35) (le_max v_35) (le_min r_45) (le_max r_45) (le_min r_60) (le_max r_60) (le_min v_67) (le_max v_67) (le_min v_69) (le_max v_69) (le_min v_82) (le_max v_82)) (o36_425 l3 u3 e_31 e_32 e_33 e_36 c_37 e_48 e_49 e_63 e_64 g_66 e_68 e_70 b_80 b_81 hn_79 e_83 c_84 e_90 (le_min v_89) (le_max v_89) (le_min x8_73) (le_max x8_73) (le_min a3) (le_max a3) (le_min r_28) (le_max r_28) (le_min v_35) (le_max v_35) (le_min r_45) (le_max r_45) (le_min r_60) (le_max r_60) (le_min v_67) (le_max v_67) (le_min v_69) (le_max v_69) (le_min v_82) (le_max v_82)) dX12_countsOn_85 (fun v_91 e_92 => ?_)
                refine lv_iload C0.1 C0.2.1 dX12_countsOn_86 (lv_at hl 3 rfl) ?_
                refine y_add C0 (o36_426 l3 u3 e_31 e_32 e_33 e_36 c_37 e_48 e_49 e_63 e_64 g_66 e_68 e_70 b_80 b_81 hn_79 e_83 c_84 e_90 e_92 (le_min v_91) (le_max v_91) (le_min r_28) (le_max r_28) (le_min a3) (le_max a3) (le_min v_35) (le_max v_35) (le_min r_45) (le_max r_45) (le_min r_60) (le_max r_60) (le_min v_67) (le_max v_67) (le_min v_69) (le_max v_69) (le_min x8_73) (le_max x8_73) (le_min v_82) (le_max v_82) (le_min v_89) (le_max v_89)) (o36_427 l3 u3 e_31 e_32 e_33 e_36 c_37 e_48 e_49 e_63 e_64 g_66 e_68 e_70 b_80 b_81 hn_79 e_83 c_84 e_90 e_92 (le_min v_91) (le_max v_91) (le_min r_28) (le_max r_28) (le_min a3) (le_max a3) (le_min v_35) (le_max v_35) (le_min r_45) (le_max r_45) (le_min r_60) (le_max r_60) (le_min v_67) (le_max v_67) (le_min v_69) (le_max v_69) (le_min x8_73) (le_max x8_73) (le_min v_82) (le_max v_82) (le_min v_89) (le_max v_89)) dX12_countsOn_88 (fun v_93 e_94 => ?_)
                refine lv_dup2_11 C0.1 C0.2.1 dX12_countsOn_89 rfl rfl ?_
                refine y_lald C0 h kSM_15 rfl (by decide) (o36_428 l3 u3 e_31 e_32 e_33 e_36 c_37 e_48 e_49 e_63 e_64 g_66 e_68 e_70 b_80 b_81 hn_79 e_83 c_84 e_90 e_92 e_94) (o36_429 l3 u3 e_31 e_32 e_33 e_36 c_37 e_48 e_49 e_63 e_64 g_66 e_68 e_70 b_80 b_81 hn_79 e_83 c_84 e_90 e_92 e_94) dX12_countsOn_90 (fun w_95 e_96 => ?_)
                refine lv_aload_n C0.1 C0.2.1 dX12_countsOn_91 rfl (lv_at hl 5 rfl) ?_
                refine ng_X12_many C0 h kSM_0 q_1467 dX12_countsOn_92 ?_
                refine y_c2 (n := 41) C0 (by decide) dX12_countsOn_95 (fun v_97 e_98 => ?_)
                refine lv_iload_n C0.1 C0.2.1 dX12_countsOn_97 rfl (lv_at hl 7 rfl) ?_
                refine y_cmul (n := 41) C0 (o36_421 e_98) (o36_430 l2 u2 e_18 e_22 e_41 e_56 (le_min a2) (le_max a2) (le_min v_17) (le_max v_17) (le_min v_21) (le_max v_21) (le_min v_40) (le_max v_40) (le_min v_55) (le_max v_55)) (o36_431 l2 u2 e_18 e_22 e_41 e_56 (le_min a2) (le_max a2) (le_min v_17) (le_max v_17) (le_min v_21) (le_max v_21) (le_min v_40) (le_max v_40) (le_min v_55) (le_max v_55)) dX12_countsOn_98 (fun v_99 e_100 => ?_)
                refine lv_iload C0.1 C0.2.1 dX12_countsOn_99 (lv_at hl 0 rfl) ?_
                refine y_add C0 (o36_432 l2 u2 l3 u3 e_18 e_22 e_31 e_32 e_33 e_36 c_37 e_41 e_48 e_49 e_56 e_63 e_64 g_66 e_68 e_70 b_80 b_81 hn_79 e_83 c_84 e_90 e_92 e_94 e_100 (le_min v_99) (le_max v_99) (le_min x8_73) (le_max x8_73) (le_min a2) (le_max a2) (le_min a3) (le_max a3) (le_min v_17) (le_max v_17) (le_min v_21) (le_max v_21) (le_min r_28) (le_max r_28) (le_min v_35) (le_max v_35) (le_min v_40) (le_max v_40) (le_min r_45) (le_max r_45) (le_min v_55) (le_max v_55) (le_min r_60) (le_max r_60) (le_min v_67) (le_max v_67) (le_min v_69) (le_max v_69) (le_min v_82) (le_max v_82) (le_min v_89) (le_max v_89) (le_min v_91) (le_max v_91) (le_min v_93) (le_max v_93)) (o36_433 l2 u2 l3 u3 e_18 e_22 e_31 e_32 e_33 e_36 c_37 e_41 e_48 e_49 e_56 e_63 e_64 g_66 e_68 e_70 b_80 b_81 hn_79 e_83 c_84 e_90 e_92 e_94 e_100 (le_min v_99) (le_max v_99) (le_min x8_73) (le_max x8_73) (le_min a2) (le_max a2) (le_min a3) (le_max a3) (le_min v_17) (le_max v_17) (le_min v_21) (le_max v_21) (le_min r_28) (le_max r_28) (le_min v_35) (le_max v_35) (le_min v_40) (le_max v_40) (le_min r_45) (le_max r_45) (le_min v_55) (le_max v_55) (le_min r_60) (le_max r_60) (le_min v_67) (le_max v_67) (le_min v_69) (le_max v_69) (le_min v_82) (le_max v_82) (le_min v_89) (le_max v_89) (le_min v_91) (le_max v_91) (le_min v_93) (le_max v_93)) dX12_countsOn_101 (fun v_101 e_102 => ?_)
                refine y_lald C0 h kSM_14 rfl (by decide) (o36_434 l2 u2 l3 u3 e_18 e_22 e_31 e_32 e_33 e_36 c_37 e_41 e_48 e_49 e_56 e_63 e_64 g_66 e_68 e_70 b_80 b_81 hn_79 e_83 c_84 e_90 e_92 e_94 e_100 e_102) (o36_435 l2 u2 l3 u3 e_18 e_22 e_31 e_32 e_33 e_36 c_37 e_41 e_48 e_49 e_56 e_63 e_64 g_66 e_68 e_70 b_80 b_81 hn_79 e_83 c_84 e_90 e_92 e_94 e_100 e_102) dX12_countsOn_102 (fun w_103 e_104 => ?_)
                refine xr_ladd C0 dX12_countsOn_103 (fun w_105 e_106 => ?_)
                have hO_109 := h.2
                refine y_last C0 h kSM_15 rfl (by decide) (o36_436 l2 u2 l3 u3 e_18 e_22 e_31 e_32 e_33 e_36 c_37 e_41 e_48 e_49 e_56 e_63 e_64 g_66 e_68 e_70 b_80 b_81 hn_79 e_83 c_84 e_90 e_92 e_94 e_100 e_102) (o36_437 l2 u2 l3 u3 e_18 e_22 e_31 e_32 e_33 e_36 c_37 e_41 e_48 e_49 e_56 e_63 e_64 g_66 e_68 e_70 b_80 b_81 hn_79 e_83 c_84 e_90 e_92 e_94 e_100 e_102) dX12_countsOn_104 (fun H locs ws_107 h u_108 => ?_)
                replace HE : FT = g17w_X12_countsOn R3 R65 (xso SM ad ws_107) a1.toInt a2.toInt a3.toInt x4_3.toInt r_28.toInt v_69.toInt x8_73.toInt := HE.trans (by rw [(xso_L (i := 15) hO_109 h.2 kSM_15 rfl u_108), e_106, (xg2 e_104 : w_103.toInt = (xso SM ad ws_74) 2 14 v_101.toInt.toNat), e_102, e_100, (xg2 e_96 : w_95.toInt = (xso SM ad ws_74) 2 15 v_93.toInt.toNat), e_94, e_92, e_90]; rfl)
                refine y_inc (kp := 0) (n := 1) (fun v_110 => [(8, .int v_110), (7, .int v_69), (6, .int r_45), (5, .int r_28), (4, .int x4_3), (0, .ref (ad 0)), (1, .int a1), (2, .int a2), (3, .int a3)]) C0 hl rfl (by decide) (by decide) (fun _ => rfl) (o36_438 l2 u2 l3 u3 e_18 e_22 e_31 e_32 e_33 e_36 c_37 e_41 e_48 e_49 e_56 e_63 e_64 g_66 e_68 e_70 b_80 b_81 hn_79 e_83 c_84 e_90 e_92 e_94 e_100 e_102 (le_min x8_73) (le_max x8_73) (le_min a2) (le_max a2) (le_min a3) (le_max a3) (le_min v_17) (le_max v_17) (le_min v_21) (le_max v_21) (le_min r_28) (le_max r_28) (le_min v_35) (le_max v_35) (le_min v_40) (le_max v_40) (le_min r_45) (le_max r_45) (le_min v_55) (le_max v_55) (le_min r_60) (le_max r_60) (le_min v_67) (le_max v_67) (le_min v_69) (le_max v_69) (le_min v_82) (le_max v_82) (le_min v_89) (le_max v_89) (le_min v_91) (le_max v_91) (le_min v_93) (le_max v_93) (le_min v_99) (le_max v_99) (le_min v_101) (le_max v_101)) (o36_439 l2 u2 l3 u3 e_18 e_22 e_31 e_32 e_33 e_36 c_37 e_41 e_48 e_49 e_56 e_63 e_64 g_66 e_68 e_70 b_80 b_81 hn_79 e_83 c_84 e_90 e_92 e_94 e_100 e_102 (le_min x8_73) (le_max x8_73) (le_min a2) (le_max a2) (le_min a3) (le_max a3) (le_min v_17) (le_max v_17) (le_min v_21) (le_max v_21) (le_min r_28) (le_max r_28) (le_min v_35) (le_max v_35) (le_min v_40) (le_max v_40) (le_min r_45) (le_max r_45) (le_min v_55) (le_max v_55) (le_min r_60) (le_max r_60) (le_min v_67) (le_max v_67) (le_min v_69) (le_max v_69) (le_min v_82) (le_max v_82) (le_min v_89) (le_max v_89) (le_min v_91) (le_max v_91) (le_min v_93) (le_max v_93) (le_min v_99) (le_max v_99) (le_min v_101) (le_max v_101)) dX12_countsOn_105 (fun v_110 ls e_111 hl => ?_)
                refine lv_goto (tgt := 65) C0.1 C0.2.1 dX12_countsOn_108 (by decide) ?_
                exact ih_77 v_110 _ _ _ _ (o36_440 l2 u2 l3 u3 e_18 e_22 e_31 e_32 e_33 e_36 c_37 e_41 e_48 e_49 e_56 e_63 e_64 g_66 e_68 e_70 b_80 b_81 hn_79 e_83 c_84 e_90 e_92 e_94 e_100 e_102 e_111) (o36_441 l2 u2 l3 u3 e_18 e_22 e_31 e_32 e_33 e_36 c_37 e_41 e_48 e_49 e_56 e_63 e_64 g_66 e_68 e_70 b_80 b_81 hn_79 e_83 c_84 e_90 e_92 e_94 e_100 e_102 e_111) (o36_442 l2 u2 l3 u3 e_18 e_22 e_31 e_32 e_33 e_36 c_37 e_41 e_48 e_49 e_56 e_63 e_64 g_66 e_68 e_70 b_80 b_81 hn_79 e_83 c_84 e_90 e_92 e_94 e_100 e_102 e_111) (((show FT = R65 (xso SM ad ws_107) a1.toInt a2.toInt a3.toInt x4_3.toInt r_28.toInt v_69.toInt v_110.toInt from HE.trans (by rw [e_111]; rfl)).trans (by rw [hR65]))) h (Fr.tr hF_75 (Fr.up u_108.1 kSM_15 (by decide))) (lv_sub hl [0, 1, 2, 3, 4, 5, 6, 7, 8] rfl)
          exact lp_76 ((41 - v_71.toInt + 1).toNat) v_71 _ _ _ _ (o36_443 e_72) (o36_63 e_72) (o36_444 e_72) ((show FT = L12_X12_countsOn R3 (Int.toNat (41 - v_71.toInt + 1)) (xso SM ad ws_57) a1.toInt a2.toInt a3.toInt x4_3.toInt r_28.toInt v_69.toInt v_71.toInt from HE.trans (by rw [e_72, e_70, e_68]; rfl))) h Fr.rf (lv_sub hl [0, 1, 2, 3, 4, 5, 6, 7, 8] rfl)
        · -- 30
          replace HE : FT = g9_X12_countsOn R3 (xso SM ad ws_25) a1.toInt a2.toInt a3.toInt x4_3.toInt := HE.trans (if_pos (o36_222 e_31 e_32 e_33 e_36 c_37))
          refine lv_goto (tgt := 111) C0.1 C0.2.1 dX12_countsOn_33 (by decide) ?_
          refine y_inc (kp := 1) (n := 1) (fun v_112 => [(4, .int v_112), (5, .int r_28), (0, .ref (ad 0)), (1, .int a1), (2, .int a2), (3, .int a3)]) C0 hl rfl (by decide) (by decide) (fun _ => rfl) (o36_195 b_10 b_11 hn_9 e_13 c_14 (le_min x4_3) (le_max x4_3) (le_min v_12) (le_max v_12)) (o36_196 b_10 b_11 hn_9 e_13 c_14 (le_min x4_3) (le_max x4_3) (le_min v_12) (le_max v_12)) dX12_countsOn_111 (fun v_112 ls e_113 hl => ?_)
          refine lv_goto (tgt := 3) C0.1 C0.2.1 dX12_countsOn_114 (by decide) ?_
          exact ih_7 v_112 _ _ _ _ (o36_197 b_10 b_11 hn_9 e_13 c_14 e_113) (o36_198 b_10 b_11 hn_9 e_13 c_14 e_113) (o36_199 b_10 b_11 hn_9 e_13 c_14 e_113) (((show FT = R3 (xso SM ad ws_25) a1.toInt a2.toInt a3.toInt v_112.toInt from HE.trans (by rw [e_113]; rfl)).trans (by rw [hR3]))) h (Fr.tr hF_5 (Fr.mono u_26 (by decide))) (lv_sub hl [0, 2, 3, 4, 5] rfl)
  exact lp_6 ((4 - v_1.toInt + 1).toNat) v_1 _ _ _ _ (o36_62 e_2) (o36_63 e_2) (o36_64 e_2) ((show FT = L1_X12_countsOn (Int.toNat (4 - v_1.toInt + 1)) (xso SM ad ws0) a1.toInt a2.toInt a3.toInt v_1.toInt from HE.trans (by rw [e_2]; rfl))) h Fr.rf (lv_sub hl [0, 1, 2, 3, 4] rfl)
noncomputable def g8_X12_ways (s : XS) : XR := (s, ((-3)))
noncomputable def g30_X12_ways (s : XS) (x5_122 : Int) : XR := (s, x5_122)
noncomputable def g35_X12_ways (R219 : XS → Int → Int → Int → Int → XR) (s : XS) (a2 : Int) (a4 : Int) (x5_137 : Int) (x7_121 : Int) : XR := R219 s a2 a4 x5_137 ((x7_121 + 1))
noncomputable def g36_X12_ways (R219 : XS → Int → Int → Int → Int → XR) (R228 : XS → Int → Int → Int → Int → Int → XR) (s : XS) (a2 : Int) (a4 : Int) (x5_137 : Int) (x7_121 : Int) (x8_136 : Int) : XR := R228 s a2 a4 ((Xladd x5_137 (s 2 14 (Int.toNat ((41 * ((4 * a2) + x7_121)) + x8_136))))) x7_121 ((x8_136 + 1))
noncomputable def g34b_X12_ways (R219 : XS → Int → Int → Int → Int → XR) (R228 : XS → Int → Int → Int → Int → Int → XR) (s : XS) (a4 : Int) (x8_136 : Int) (a2 : Int) (x5_137 : Int) (x7_121 : Int) : XR := if a4 < x8_136 then g35_X12_ways R219 s a2 a4 x5_137 x7_121 else g36_X12_ways R219 R228 s a2 a4 x5_137 x7_121 x8_136
noncomputable def g33l_X12_ways (R219 : XS → Int → Int → Int → Int → XR) (R228 : XS → Int → Int → Int → Int → Int → XR) (s : XS) (a2 : Int) (a4 : Int) (x5_137 : Int) (x7_121 : Int) (x8_136 : Int) : XR := g34b_X12_ways R219 R228 s a4 x8_136 a2 x5_137 x7_121
noncomputable def L32_X12_ways (R219 : XS → Int → Int → Int → Int → XR) (n : Nat) : XS → Int → Int → Int → Int → Int → XR := Nat.rec (motive := fun _ => XS → Int → Int → Int → Int → Int → XR) (fun s _ _ _ _ _ => (s, 0)) (fun _ R228 => g33l_X12_ways R219 R228) n
noncomputable def g31_X12_ways (R219 : XS → Int → Int → Int → Int → XR) (s : XS) (a2 : Int) (a4 : Int) (x5_122 : Int) (x7_121 : Int) : XR := L32_X12_ways R219 (Int.toNat (41 - 0 + 1)) s a2 a4 x5_122 x7_121 0
noncomputable def g29b_X12_ways (R219 : XS → Int → Int → Int → Int → XR) (s : XS) (x7_121 : Int) (a2 : Int) (a4 : Int) (x5_122 : Int) : XR := if x7_121 < 4 then g31_X12_ways R219 s a2 a4 x5_122 x7_121 else g30_X12_ways s x5_122
noncomputable def g28l_X12_ways (R219 : XS → Int → Int → Int → Int → XR) (s : XS) (a2 : Int) (a4 : Int) (x5_122 : Int) (x7_121 : Int) : XR := g29b_X12_ways R219 s x7_121 a2 a4 x5_122
noncomputable def L27_X12_ways (n : Nat) : XS → Int → Int → Int → Int → XR := Nat.rec (motive := fun _ => XS → Int → Int → Int → Int → XR) (fun s _ _ _ _ => (s, 0)) (fun _ R219 => g28l_X12_ways R219) n
noncomputable def g25_X12_ways (s : XS) (a2 : Int) (a4 : Int) : XR := L27_X12_ways (Int.toNat (4 - 0 + 1)) s a2 a4 0 0
noncomputable def g51_X12_ways (R115 : XS → Int → Int → Int → Int → XR) (s : XS) (a2 : Int) (a3 : Int) (a4 : Int) (x5_107 : Int) : XR := R115 s a2 a3 a4 ((x5_107 + 1))
noncomputable def g53w_X12_ways (R115 : XS → Int → Int → Int → Int → XR) (R179 : XS → Int → Int → Int → Int → Int → XR) (s : XS) (a2 : Int) (a3 : Int) (a4 : Int) (x5_107 : Int) (x6_208 : Int) : XR := R179 s a2 a3 a4 x5_107 ((x6_208 + 1))
noncomputable def g52_X12_ways (R115 : XS → Int → Int → Int → Int → XR) (R179 : XS → Int → Int → Int → Int → Int → XR) (s : XS) (a2 : Int) (a3 : Int) (a4 : Int) (x5_107 : Int) (x6_208 : Int) : XR := g53w_X12_ways R115 R179 (xup s 2 14 (Int.toNat x6_208) ((s 2 15 (Int.toNat x6_208)))) a2 a3 a4 x5_107 x6_208
noncomputable def g50b_X12_ways (R115 : XS → Int → Int → Int → Int → XR) (R179 : XS → Int → Int → Int → Int → Int → XR) (s : XS) (x6_208 : Int) (a2 : Int) (a3 : Int) (a4 : Int) (x5_107 : Int) : XR := if x6_208 < 4100 then g52_X12_ways R115 R179 s a2 a3 a4 x5_107 x6_208 else g51_X12_ways R115 s a2 a3 a4 x5_107
noncomputable def g49l_X12_ways (R115 : XS → Int → Int → Int → Int → XR) (R179 : XS → Int → Int → Int → Int → Int → XR) (s : XS) (a2 : Int) (a3 : Int) (a4 : Int) (x5_107 : Int) (x6_208 : Int) : XR := g50b_X12_ways R115 R179 s x6_208 a2 a3 a4 x5_107
noncomputable def L48_X12_ways (R115 : XS → Int → Int → Int → Int → XR) (n : Nat) : XS → Int → Int → Int → Int → Int → XR := Nat.rec (motive := fun _ => XS → Int → Int → Int → Int → Int → XR) (fun s _ _ _ _ _ => (s, 0)) (fun _ R179 => g49l_X12_ways R115 R179) n
noncomputable def g46_X12_ways (R115 : XS → Int → Int → Int → Int → XR) (s : XS) (a2 : Int) (a3 : Int) (a4 : Int) (x5_107 : Int) : XR := L48_X12_ways R115 (Int.toNat (4100 - 0 + 1)) s a2 a3 a4 x5_107 0
noncomputable def g54c_X12_ways (R115 : XS → Int → Int → Int → Int → XR) (R149 : XS → Int → Int → Int → Int → Int → XR) (s : XS) (a2 : Int) (a3 : Int) (a4 : Int) (x5_107 : Int) (x6_183 : Int) : XR := R149 s a2 a3 a4 x5_107 ((x6_183 + 1))
noncomputable def g47_X12_ways (R115 : XS → Int → Int → Int → Int → XR) (R149 : XS → Int → Int → Int → Int → Int → XR) (s : XS) (a2 : Int) (a3 : Int) (a4 : Int) (x5_107 : Int) (x6_183 : Int) : XR := g54c_X12_ways R115 R149 ((f_X12_countsOn s x5_107 x6_183 a4).1) a2 a3 a4 x5_107 x6_183
noncomputable def g45b_X12_ways (R115 : XS → Int → Int → Int → Int → XR) (R149 : XS → Int → Int → Int → Int → Int → XR) (s : XS) (v_203 : Int) (x6_183 : Int) (a2 : Int) (a3 : Int) (a4 : Int) (x5_107 : Int) : XR := if x6_183 < v_203 then g47_X12_ways R115 R149 s a2 a3 a4 x5_107 x6_183 else g46_X12_ways R115 s a2 a3 a4 x5_107
noncomputable def g44c_X12_ways (R115 : XS → Int → Int → Int → Int → XR) (R149 : XS → Int → Int → Int → Int → Int → XR) (s : XS) (r_197 : Int) (x6_183 : Int) (a2 : Int) (a3 : Int) (a4 : Int) (x5_107 : Int) : XR := g45b_X12_ways R115 R149 s ((4 * r_197)) x6_183 a2 a3 a4 x5_107
noncomputable def g43l_X12_ways (R115 : XS → Int → Int → Int → Int → XR) (R149 : XS → Int → Int → Int → Int → Int → XR) (s : XS) (a2 : Int) (a3 : Int) (a4 : Int) (x5_107 : Int) (x6_183 : Int) : XR := g44c_X12_ways R115 R149 ((f_X12_crossings s).1) (((f_X12_crossings s).2)) x6_183 a2 a3 a4 x5_107
noncomputable def L42_X12_ways (R115 : XS → Int → Int → Int → Int → XR) (n : Nat) : XS → Int → Int → Int → Int → Int → XR := Nat.rec (motive := fun _ => XS → Int → Int → Int → Int → Int → XR) (fun s _ _ _ _ _ => (s, 0)) (fun _ R149 => g43l_X12_ways R115 R149) n
noncomputable def g40_X12_ways (R115 : XS → Int → Int → Int → Int → XR) (s : XS) (a2 : Int) (a3 : Int) (a4 : Int) (x5_107 : Int) : XR := L42_X12_ways R115 (Int.toNat (100 - 0 + 1)) s a2 a3 a4 x5_107 0
noncomputable def g55w_X12_ways (R115 : XS → Int → Int → Int → Int → XR) (R124 : XS → Int → Int → Int → Int → Int → XR) (s : XS) (a2 : Int) (a3 : Int) (a4 : Int) (x5_107 : Int) (x6_169 : Int) : XR := R124 s a2 a3 a4 x5_107 ((x6_169 + 1))
noncomputable def g41_X12_ways (R115 : XS → Int → Int → Int → Int → XR) (R124 : XS → Int → Int → Int → Int → Int → XR) (s : XS) (a2 : Int) (a3 : Int) (a4 : Int) (x5_107 : Int) (x6_169 : Int) : XR := g55w_X12_ways R115 R124 (xup s 2 15 (Int.toNat x6_169) (0)) a2 a3 a4 x5_107 x6_169
noncomputable def g39b_X12_ways (R115 : XS → Int → Int → Int → Int → XR) (R124 : XS → Int → Int → Int → Int → Int → XR) (s : XS) (x6_169 : Int) (a2 : Int) (a3 : Int) (a4 : Int) (x5_107 : Int) : XR := if x6_169 < 4100 then g41_X12_ways R115 R124 s a2 a3 a4 x5_107 x6_169 else g40_X12_ways R115 s a2 a3 a4 x5_107
noncomputable def g38l_X12_ways (R115 : XS → Int → Int → Int → Int → XR) (R124 : XS → Int → Int → Int → Int → Int → XR) (s : XS) (a2 : Int) (a3 : Int) (a4 : Int) (x5_107 : Int) (x6_169 : Int) : XR := g39b_X12_ways R115 R124 s x6_169 a2 a3 a4 x5_107
noncomputable def L37_X12_ways (R115 : XS → Int → Int → Int → Int → XR) (n : Nat) : XS → Int → Int → Int → Int → Int → XR := Nat.rec (motive := fun _ => XS → Int → Int → Int → Int → Int → XR) (fun s _ _ _ _ _ => (s, 0)) (fun _ R124 => g38l_X12_ways R115 R124) n
noncomputable def g26_X12_ways (R115 : XS → Int → Int → Int → Int → XR) (s : XS) (a2 : Int) (a3 : Int) (a4 : Int) (x5_107 : Int) : XR := L37_X12_ways R115 (Int.toNat (4100 - 0 + 1)) s a2 a3 a4 x5_107 0
noncomputable def g24b_X12_ways (R115 : XS → Int → Int → Int → Int → XR) (s : XS) (a3 : Int) (x5_107 : Int) (a2 : Int) (a4 : Int) : XR := if x5_107 < a3 then g26_X12_ways R115 s a2 a3 a4 x5_107 else g25_X12_ways s a2 a4
noncomputable def g23l_X12_ways (R115 : XS → Int → Int → Int → Int → XR) (s : XS) (a2 : Int) (a3 : Int) (a4 : Int) (x5_107 : Int) : XR := g24b_X12_ways R115 s a3 x5_107 a2 a4
noncomputable def L22_X12_ways (n : Nat) : XS → Int → Int → Int → Int → XR := Nat.rec (motive := fun _ => XS → Int → Int → Int → Int → XR) (fun s _ _ _ _ => (s, 0)) (fun _ R115 => g23l_X12_ways R115) n
noncomputable def g21w_X12_ways (s : XS) (a2 : Int) (a3 : Int) (a4 : Int) : XR := L22_X12_ways (Int.toNat (20 - 0 + 1)) s a2 a3 a4 0
noncomputable def g19_X12_ways (s : XS) (a1 : Int) (a2 : Int) (a3 : Int) (a4 : Int) : XR := g21w_X12_ways (xup s 2 14 (Int.toNat (41 * ((4 * (s 1 1 (Int.toNat (36 + a1)))) + (s 1 1 (Int.toNat (41 + a1)))))) (1)) a2 a3 a4
noncomputable def g56w_X12_ways (R60 : XS → Int → Int → Int → Int → Int → XR) (s : XS) (a1 : Int) (a2 : Int) (a3 : Int) (a4 : Int) (x5_60 : Int) : XR := R60 s a1 a2 a3 a4 ((x5_60 + 1))
noncomputable def g20_X12_ways (R60 : XS → Int → Int → Int → Int → Int → XR) (s : XS) (a1 : Int) (a2 : Int) (a3 : Int) (a4 : Int) (x5_60 : Int) : XR := g56w_X12_ways R60 (xup s 2 14 (Int.toNat x5_60) (0)) a1 a2 a3 a4 x5_60
noncomputable def g18b_X12_ways (R60 : XS → Int → Int → Int → Int → Int → XR) (s : XS) (x5_60 : Int) (a1 : Int) (a2 : Int) (a3 : Int) (a4 : Int) : XR := if x5_60 < 4100 then g20_X12_ways R60 s a1 a2 a3 a4 x5_60 else g19_X12_ways s a1 a2 a3 a4
noncomputable def g17l_X12_ways (R60 : XS → Int → Int → Int → Int → Int → XR) (s : XS) (a1 : Int) (a2 : Int) (a3 : Int) (a4 : Int) (x5_60 : Int) : XR := g18b_X12_ways R60 s x5_60 a1 a2 a3 a4
noncomputable def L16_X12_ways (n : Nat) : XS → Int → Int → Int → Int → Int → XR := Nat.rec (motive := fun _ => XS → Int → Int → Int → Int → Int → XR) (fun s _ _ _ _ _ => (s, 0)) (fun _ R60 => g17l_X12_ways R60) n
noncomputable def g15c_X12_ways (s : XS) (a1 : Int) (a2 : Int) (a3 : Int) (a4 : Int) : XR := L16_X12_ways (Int.toNat (4100 - 0 + 1)) s a1 a2 a3 a4 0
noncomputable def g14w_X12_ways (s : XS) (a1 : Int) (a2 : Int) (a3 : Int) (a4 : Int) : XR := g15c_X12_ways ((f_X12_laysLaws s a3).1) a1 a2 a3 a4
noncomputable def g12_X12_ways (s : XS) (a1 : Int) (a2 : Int) (a3 : Int) (a4 : Int) : XR := g14w_X12_ways (xup s 0 0 26 0) a1 a2 a3 a4
noncomputable def g13_X12_ways (s : XS) : XR := (s, ((-3)))
noncomputable def g11b_X12_ways (s : XS) (r_43 : Int) (a1 : Int) (a2 : Int) (a3 : Int) (a4 : Int) : XR := if r_43 = 0 then g13_X12_ways s else g12_X12_ways s a1 a2 a3 a4
noncomputable def g10c_X12_ways (s : XS) (r_43 : Int) (a1 : Int) (a2 : Int) (a3 : Int) (a4 : Int) : XR := g11b_X12_ways s r_43 a1 a2 a3 a4
noncomputable def g9_X12_ways (s : XS) (a1 : Int) (a2 : Int) (a3 : Int) (a4 : Int) : XR := g10c_X12_ways ((f_X12_within s a4 0 40).1) (((f_X12_within s a4 0 40).2)) a1 a2 a3 a4
noncomputable def g7b_X12_ways (s : XS) (r_25 : Int) (a1 : Int) (a2 : Int) (a3 : Int) (a4 : Int) : XR := if r_25 = 0 then g8_X12_ways s else g9_X12_ways s a1 a2 a3 a4
noncomputable def g6c_X12_ways (s : XS) (r_25 : Int) (a1 : Int) (a2 : Int) (a3 : Int) (a4 : Int) : XR := g7b_X12_ways s r_25 a1 a2 a3 a4
noncomputable def g4_X12_ways (s : XS) (a1 : Int) (a2 : Int) (a3 : Int) (a4 : Int) : XR := g6c_X12_ways ((f_X12_within s a3 0 20).1) (((f_X12_within s a3 0 20).2)) a1 a2 a3 a4
noncomputable def g5_X12_ways (s : XS) : XR := (s, ((-2)))
noncomputable def g3b_X12_ways (s : XS) (r_8 : Int) (a1 : Int) (a2 : Int) (a3 : Int) (a4 : Int) : XR := if r_8 = 0 then g5_X12_ways s else g4_X12_ways s a1 a2 a3 a4
noncomputable def g2c_X12_ways (s : XS) (r_8 : Int) (a1 : Int) (a2 : Int) (a3 : Int) (a4 : Int) : XR := g3b_X12_ways s r_8 a1 a2 a3 a4
noncomputable def g1w_X12_ways (s : XS) (a1 : Int) (a2 : Int) (a3 : Int) (a4 : Int) : XR := g2c_X12_ways ((f_X12_areThere s a1 a2).1) (((f_X12_areThere s a1 a2).2)) a1 a2 a3 a4
noncomputable def f_X12_ways (s : XS) (a1 : Int) (a2 : Int) (a3 : Int) (a4 : Int) : XR := g1w_X12_ways (xup s 0 0 0 0) a1 a2 a3 a4
set_option maxHeartbeats 4000000 in
set_option maxRecDepth 100000 in
theorem c_X12_ways (l : Launch) (G : GG) (Z : RZ) (ad : Nat → Nat) (ws0 : va_W) (hT : Ty G SM ad ws0) (a1 : Int32) (a2 : Int32) (a3 : Int32) (a4 : Int32) (hJ : J ws0) : Mq l yX12_ways cX12_ways 9 (some .long) 6 G Z [.ref (ad 0), .int a1, .int a2, .int a3, .int a4] ws0 (PL G SM ad [0, 5, 10, 11, 12, 14, 15] ws0 (fun r u => (xso SM ad u = (f_X12_ways (xso SM ad ws0) a1.toInt a2.toInt a3.toInt a4.toInt).1) ∧ (r.toInt = (f_X12_ways (xso SM ad ws0) a1.toInt a2.toInt a3.toInt a4.toInt).2))) := by
  refine Mq.start (by decide) (Nat.le_of_ble_eq_true rfl) ?_
  intro p e s m below meth c A ls C0 hZ h hl
  have hl : lv_has ls 9 [(0, .ref (ad 0)), (1, .int a1), (2, .int a2), (3, .int a3), (4, .int a4)] := hl
  have h : Wt G SM ad A s s.heap [] ws0 := ⟨h, hT⟩
  obtain ⟨args, hargs⟩ : ∃ z, z = ([.ref (ad 0), .int a1, .int a2, .int a3, .int a4] : List Value).toArray := ⟨_, rfl⟩
  rw [← hargs] at C0 ⊢
  have C0 : Cx p s m args meth c RX12 cX12_ways 9 (some .long) := C0
  obtain ⟨Q, hQ⟩ : ∃ z, z = MQ below ((PL G SM ad [0, 5, 10, 11, 12, 14, 15] ws0 (fun r u => (xso SM ad u = (f_X12_ways (xso SM ad ws0) a1.toInt a2.toInt a3.toInt a4.toInt).1) ∧ (r.toInt = (f_X12_ways (xso SM ad ws0) a1.toInt a2.toInt a3.toInt a4.toInt).2))) A) args s 0 0 A := ⟨_, rfl⟩
  rw [← hQ]
  obtain ⟨FT, hFT⟩ : ∃ z, z = f_X12_ways (xso SM ad ws0) a1.toInt a2.toInt a3.toInt a4.toInt := ⟨_, rfl⟩
  have HE : FT = f_X12_ways (xso SM ad ws0) a1.toInt a2.toInt a3.toInt a4.toInt := hFT
  refine lv_aload_n C0.1 C0.2.1 dX12_ways_0 rfl (lv_at hl 0 rfl) ?_
  refine y_c1 (n := 0) C0 (by decide) dX12_ways_1 (fun v_1 e_2 => ?_)
  refine np_X12_thrown C0 h kSM_0 q_1438 (le_min v_1) (le_max v_1) dX12_ways_2 (fun H locs ws_3 h u_4 Xu_4 => ?_)
  replace HE : FT = g1w_X12_ways (xso SM ad ws_3) a1.toInt a2.toInt a3.toInt a4.toInt := HE.trans (by rw [Xu_4, e_2]; rfl)
  refine lv_aload_n C0.1 C0.2.1 dX12_ways_5 rfl (lv_at hl 0 rfl) ?_
  refine lv_iload_n C0.1 C0.2.1 dX12_ways_6 rfl (lv_at hl 1 rfl) ?_
  refine lv_iload_n C0.1 C0.2.1 dX12_ways_7 rfl (lv_at hl 2 rfl) ?_
  refine y_ci h (y_rV (As := [.int a1, .int a2]) (rest := []) C0 hZ h (c_X12_areThere l G Z ad _ h.2 a1 a2 (J.pa hT hJ (Pa.ud u_4.1 (by decide)))) k_X12_areThere q_1868 q_99 q_1866 kSM_0 rfl rfl rfl hl.1 rfl rfl (Nat.le_of_ble_eq_true rfl) dX12_ways_8 ⟨Nat.le_of_ble_eq_true rfl, Nat.le_of_ble_eq_true rfl⟩ ⟨Nat.le_of_ble_eq_true rfl, Nat.le_of_ble_eq_true rfl⟩) (fun r_8 H locs ws_5 h u_6 p_7 => ?_)
  obtain ⟨e_9, e_10, e_11, e_12, e_13, e_14⟩ := p_7
  replace HE : FT = g2c_X12_ways (xso SM ad ws_5) r_8.toInt a1.toInt a2.toInt a3.toInt a4.toInt := HE.trans (by rw [e_9, e_10]; rfl)
  replace HE : FT = g3b_X12_ways (xso SM ad ws_5) r_8.toInt a1.toInt a2.toInt a3.toInt a4.toInt := HE.trans rfl
  refine y_if_ne (tgt := 18) C0 dX12_ways_11 (by decide) (fun c_15 => ?_) (fun c_15 => ?_)
  · -- 11
    replace HE : FT = g4_X12_ways (xso SM ad ws_5) a1.toInt a2.toInt a3.toInt a4.toInt := HE.trans (if_neg c_15)
    refine lv_iload_n C0.1 C0.2.1 dX12_ways_18 rfl (lv_at hl 3 rfl) ?_
    refine y_i2l C0 dX12_ways_19 (fun w_16 e_17 => ?_)
    refine y_lc (v := 0) C0 (by decide) dX12_ways_20 (fun w_18 e_19 => ?_)
    refine y_lc2 (n := 20) C0 q_1666 (by decide) dX12_ways_21 (fun w_20 e_21 => ?_)
    refine y_ci h (y_rS (As := [.long w_16, .long w_18, .long w_20]) (rest := []) C0 hZ h (c_X12_within l G Z ad _ h.2 w_16 w_18 w_20) k_X12_within q_1580 q_1579 hl.1 rfl rfl (Nat.le_of_ble_eq_true rfl) dX12_ways_24 ⟨Nat.le_of_ble_eq_true rfl, Nat.le_of_ble_eq_true rfl⟩ ⟨Nat.le_of_ble_eq_true rfl, Nat.le_of_ble_eq_true rfl⟩) (fun r_25 H locs ws_22 h u_23 p_24 => ?_)
    obtain ⟨e_26, e_27, e_28, e_29, e_30⟩ := p_24
    replace HE : FT = g6c_X12_ways (xso SM ad ws_22) r_25.toInt a1.toInt a2.toInt a3.toInt a4.toInt := HE.trans (by rw [e_26, e_27, e_21, e_19, e_17]; rfl)
    replace HE : FT = g7b_X12_ways (xso SM ad ws_22) r_25.toInt a1.toInt a2.toInt a3.toInt a4.toInt := HE.trans rfl
    refine y_if_eq (tgt := 43) C0 dX12_ways_27 (by decide) (fun c_31 => ?_) (fun c_31 => ?_)
    · -- 27
      replace HE : FT = g8_X12_ways (xso SM ad ws_22) := HE.trans (if_pos c_31)
      refine y_lc2 (n := (-3)) C0 q_1941 (by decide) dX12_ways_43 (fun w_32 e_33 => ?_)
      replace HE : FT = ((xso SM ad ws_22), w_32.toInt) := HE.trans (by rw [e_33]; rfl)
      rw [hQ]
      exact y_lret C0 h (Fr.tr (Fr.tr (Fr.up u_4.1 kSM_0 (by decide)) (Fr.mono u_6 (by decide))) (Fr.mono u_23 (by decide))) ⟨(congrArg Prod.fst (HE.symm.trans hFT)), (congrArg Prod.snd (HE.symm.trans hFT))⟩ dX12_ways_46
    · -- 27
      replace HE : FT = g9_X12_ways (xso SM ad ws_22) a1.toInt a2.toInt a3.toInt a4.toInt := HE.trans (if_neg c_31)
      refine lv_iload C0.1 C0.2.1 dX12_ways_30 (lv_at hl 4 rfl) ?_
      refine y_i2l C0 dX12_ways_32 (fun w_34 e_35 => ?_)
      refine y_lc (v := 0) C0 (by decide) dX12_ways_33 (fun w_36 e_37 => ?_)
      refine y_lc2 (n := 40) C0 q_1940 (by decide) dX12_ways_34 (fun w_38 e_39 => ?_)
      refine y_ci h (y_rS (As := [.long w_34, .long w_36, .long w_38]) (rest := []) C0 hZ h (c_X12_within l G Z ad _ h.2 w_34 w_36 w_38) k_X12_within q_1580 q_1579 hl.1 rfl rfl (Nat.le_of_ble_eq_true rfl) dX12_ways_37 ⟨Nat.le_of_ble_eq_true rfl, Nat.le_of_ble_eq_true rfl⟩ ⟨Nat.le_of_ble_eq_true rfl, Nat.le_of_ble_eq_true rfl⟩) (fun r_43 H locs ws_40 h u_41 p_42 => ?_)
      obtain ⟨e_44, e_45, e_46, e_47, e_48⟩ := p_42
      replace HE : FT = g10c_X12_ways (xso SM ad ws_40) r_43.toInt a1.toInt a2.toInt a3.toInt a4.toInt := HE.trans (by rw [e_44, e_45, e_39, e_37, e_35]; rfl)
      replace HE : FT = g11b_X12_ways (xso SM ad ws_40) r_43.toInt a1.toInt a2.toInt a3.toInt a4.toInt := HE.trans rfl
      refine y_if_ne (tgt := 47) C0 dX12_ways_40 (by decide) (fun c_49 => ?_) (fun c_49 => ?_)
      · -- 40
        replace HE : FT = g12_X12_ways (xso SM ad ws_40) a1.toInt a2.toInt a3.toInt a4.toInt := HE.trans (if_neg c_49)
        refine lv_aload_n C0.1 C0.2.1 dX12_ways_47 rfl (lv_at hl 0 rfl) ?_
        refine y_c1 (n := 0) C0 (by decide) dX12_ways_48 (fun v_50 e_51 => ?_)
        refine np_X12_from0 C0 h kSM_0 q_1464 (le_min v_50) (le_max v_50) dX12_ways_49 (fun H locs ws_52 h u_53 Xu_53 => ?_)
        replace HE : FT = g14w_X12_ways (xso SM ad ws_52) a1.toInt a2.toInt a3.toInt a4.toInt := HE.trans (by rw [Xu_53, e_51]; rfl)
        refine lv_aload_n C0.1 C0.2.1 dX12_ways_52 rfl (lv_at hl 0 rfl) ?_
        refine lv_iload_n C0.1 C0.2.1 dX12_ways_53 rfl (lv_at hl 3 rfl) ?_
        refine y_cv h (y_rV (As := [.int a3]) (rest := []) C0 hZ h (c_X12_laysLaws l G Z ad _ h.2 a3 (o36_445 e_17 e_19 e_21 e_28 e_29 e_30 c_31) (o36_446 e_17 e_19 e_21 e_28 e_29 e_30 c_31) (J.pa hT hJ (Pa.tr (Pa.tr (Pa.tr (Pa.tr (Pa.ud u_4.1 (by decide)) (Pa.fr u_6 (by decide))) (Pa.fr u_23 (by decide))) (Pa.fr u_41 (by decide))) (Pa.ud u_53.1 (by decide)))) (Laid.pa (Or.resolve_left e_14 (o36_358 e_11 e_12 e_13 c_15)) (Pa.tr (Pa.tr (Pa.tr (Pa.fr u_6 (by decide)) (Pa.fr u_23 (by decide))) (Pa.fr u_41 (by decide))) (Pa.ud u_53.1 (by decide))))) k_X12_laysLaws q_1881 q_102 q_1879 kSM_0 rfl rfl rfl hl.1 rfl rfl (Nat.le_of_ble_eq_true rfl) dX12_ways_54 ⟨Nat.le_of_ble_eq_true rfl, Nat.le_of_ble_eq_true rfl⟩ ⟨Nat.le_of_ble_eq_true rfl, Nat.le_of_ble_eq_true rfl⟩) (fun H locs ws_54 h u_55 p_56 => ?_)
        have e_57 := p_56
        replace HE : FT = g15c_X12_ways (xso SM ad ws_54) a1.toInt a2.toInt a3.toInt a4.toInt := HE.trans (by rw [e_57]; rfl)
        refine y_c1 (n := 0) C0 (by decide) dX12_ways_57 (fun v_58 e_59 => ?_)
        refine lv_istore (lv' := [(5, .int v_58), (0, .ref (ad 0)), (1, .int a1), (2, .int a2), (3, .int a3), (4, .int a4)]) C0.1 C0.2.1 dX12_ways_58 hl (by decide) rfl (fun ls hl => ?_)
        have lp_63 : ∀ (n_65 : Nat) (x5_60 : Int32) (H : Heap) (locs : List Loc) (ls : Array Slot) (ws_61 : va_W), 4100 - x5_60.toInt < (n_65 : Int) → 0 ≤ x5_60.toInt → x5_60.toInt ≤ 4100 → (FT = L16_X12_ways n_65 (xso SM ad ws_61) a1.toInt a2.toInt a3.toInt a4.toInt x5_60.toInt) → Wt G SM ad A s H locs ws_61 → Fr SM [14] ws_54 ws_61 → lv_has ls 9 [(5, .int x5_60), (0, .ref (ad 0)), (1, .int a1), (2, .int a2), (3, .int a3), (4, .int a4)] → W p l e (rmd 6 0 0) s m args below meth c H locs 0 0 Q (F0 m 60 ls []) := by
          intro n_65
          induction n_65 with
          | zero => intro x5_60 H locs ls ws_61 hn_66 b_67 b_68 HE h hF_62 hl; exact ((o36_447 b_67 b_68 hn_66)).elim
          | succ n_65 ih_64 =>
            intro x5_60 H locs ls ws_61 hn_66 b_67 b_68 HE h hF_62 hl
            obtain ⟨R60, hR60⟩ : ∃ z, z = L16_X12_ways n_65 := ⟨_, rfl⟩
            replace HE : FT = g17l_X12_ways R60 (xso SM ad ws_61) a1.toInt a2.toInt a3.toInt a4.toInt x5_60.toInt := HE.trans (by rw [hR60]; rfl)
            refine lv_iload C0.1 C0.2.1 dX12_ways_60 (lv_at hl 0 rfl) ?_
            refine y_c3 (n := 4100) C0 (by decide) dX12_ways_62 (fun v_69 e_70 => ?_)
            replace HE : FT = g18b_X12_ways R60 (xso SM ad ws_61) x5_60.toInt a1.toInt a2.toInt a3.toInt a4.toInt := HE.trans rfl
            refine y_icmp_ge (tgt := 82) C0 dX12_ways_65 (by decide) (fun c_71 => ?_) (fun c_71 => ?_)
            · -- 65
              replace HE : FT = g19_X12_ways (xso SM ad ws_61) a1.toInt a2.toInt a3.toInt a4.toInt := HE.trans (if_neg (o36_449 b_67 b_68 hn_66 e_70 c_71))
              refine lv_aload_n C0.1 C0.2.1 dX12_ways_82 rfl (lv_at hl 1 rfl) ?_
              refine ng_X12_many C0 h kSM_0 q_1467 dX12_ways_83 ?_
              refine y_c2 (n := 41) C0 (by decide) dX12_ways_86 (fun v_72 e_73 => ?_)
              refine y_c1 (n := 4) C0 (by decide) dX12_ways_88 (fun v_74 e_75 => ?_)
              refine lv_aload_n C0.1 C0.2.1 dX12_ways_89 rfl (lv_at hl 1 rfl) ?_
              refine ng_X12_all C0 h kSM_0 q_1439 dX12_ways_90 ?_
              refine y_c2 (n := 36) C0 (by decide) dX12_ways_93 (fun v_76 e_77 => ?_)
              refine lv_iload_n C0.1 C0.2.1 dX12_ways_95 rfl (lv_at hl 2 rfl) ?_
              refine y_add C0 (o36_451 e_11 e_12 e_13 c_15 e_77 (le_min v_76) (le_max v_76) (le_min a1) (le_max a1) (le_min r_8) (le_max r_8) (le_min a2) (le_max a2)) (o36_452 e_11 e_12 e_13 c_15 e_77 (le_min v_76) (le_max v_76) (le_min a1) (le_max a1) (le_min r_8) (le_max r_8) (le_min a2) (le_max a2)) dX12_ways_96 (fun v_78 e_79 => ?_)
              refine y_iald C0 h kSM_1 rfl (by decide) (o36_453 e_11 e_12 e_13 c_15 e_77 e_79) (o36_454 e_11 e_12 e_13 c_15 e_77 e_79) dX12_ways_97 (fun v_80 e_81 e_82 e_83 => ?_)
              have f_84 := o36_321 v_78.toInt.toNat (o36_455 e_11 e_12 e_13 c_15 e_77 e_79) (o36_456 e_11 e_12 e_13 c_15 e_77 e_79)
              refine y_cmul (n := 4) C0 (o36_20 e_75) (o36_89 (Int.le_trans f_84.1 e_82) (Int.le_trans e_83 f_84.2) (le_min v_80) (le_max v_80)) (o36_90 (Int.le_trans f_84.1 e_82) (Int.le_trans e_83 f_84.2) (le_min v_80) (le_max v_80)) dX12_ways_98 (fun v_85 e_86 => ?_)
              refine lv_aload_n C0.1 C0.2.1 dX12_ways_99 rfl (lv_at hl 1 rfl) ?_
              refine ng_X12_all C0 h kSM_0 q_1439 dX12_ways_100 ?_
              refine y_c2 (n := 41) C0 (by decide) dX12_ways_103 (fun v_87 e_88 => ?_)
              refine lv_iload_n C0.1 C0.2.1 dX12_ways_105 rfl (lv_at hl 2 rfl) ?_
              refine y_add C0 (o36_457 e_11 e_12 e_13 c_15 e_77 e_79 e_88 (le_min v_87) (le_max v_87) (le_min a1) (le_max a1) (le_min r_8) (le_max r_8) (le_min a2) (le_max a2) (le_min v_76) (le_max v_76) (le_min v_78) (le_max v_78)) (o36_458 e_11 e_12 e_13 c_15 e_77 e_79 e_88 (le_min v_87) (le_max v_87) (le_min a1) (le_max a1) (le_min r_8) (le_max r_8) (le_min a2) (le_max a2) (le_min v_76) (le_max v_76) (le_min v_78) (le_max v_78)) dX12_ways_106 (fun v_89 e_90 => ?_)
              refine y_iald C0 h kSM_1 rfl (by decide) (o36_459 e_11 e_12 e_13 c_15 e_77 e_79 e_88 e_90) (o36_460 e_11 e_12 e_13 c_15 e_77 e_79 e_88 e_90) dX12_ways_107 (fun v_91 e_92 e_93 e_94 => ?_)
              have f_95 := o36_328 v_89.toInt.toNat (o36_461 e_11 e_12 e_13 c_15 e_77 e_79 e_88 e_90) (o36_462 e_11 e_12 e_13 c_15 e_77 e_79 e_88 e_90)
              refine y_add C0 (o36_463 (Int.le_trans f_84.1 e_82) (Int.le_trans e_83 f_84.2) e_86 (Int.le_trans f_95.1 e_93) (Int.le_trans e_94 f_95.2) (le_min v_85) (le_max v_85) (le_min v_91) (le_max v_91) (le_min v_80) (le_max v_80)) (o36_464 (Int.le_trans f_84.1 e_82) (Int.le_trans e_83 f_84.2) e_86 (Int.le_trans f_95.1 e_93) (Int.le_trans e_94 f_95.2) (le_min v_85) (le_max v_85) (le_min v_91) (le_max v_91) (le_min v_80) (le_max v_80)) dX12_ways_108 (fun v_96 e_97 => ?_)
              refine y_cmul (n := 41) C0 (o36_421 e_73) (o36_465 (Int.le_trans f_84.1 e_82) (Int.le_trans e_83 f_84.2) e_86 (Int.le_trans f_95.1 e_93) (Int.le_trans e_94 f_95.2) e_97 (le_min v_96) (le_max v_96) (le_min v_80) (le_max v_80) (le_min v_85) (le_max v_85) (le_min v_91) (le_max v_91)) (o36_466 (Int.le_trans f_84.1 e_82) (Int.le_trans e_83 f_84.2) e_86 (Int.le_trans f_95.1 e_93) (Int.le_trans e_94 f_95.2) e_97 (le_min v_96) (le_max v_96) (le_min v_80) (le_max v_80) (le_min v_85) (le_max v_85) (le_min v_91) (le_max v_91)) dX12_ways_109 (fun v_98 e_99 => ?_)
              refine y_lc (v := 1) C0 (by decide) dX12_ways_110 (fun w_100 e_101 => ?_)
              have hO_104 := h.2
              refine y_last C0 h kSM_14 rfl (by decide) (o36_467 (Int.le_trans f_84.1 e_82) (Int.le_trans e_83 f_84.2) e_86 (Int.le_trans f_95.1 e_93) (Int.le_trans e_94 f_95.2) e_97 e_99) (o36_468 (Int.le_trans f_84.1 e_82) (Int.le_trans e_83 f_84.2) e_86 (Int.le_trans f_95.1 e_93) (Int.le_trans e_94 f_95.2) e_97 e_99) dX12_ways_111 (fun H locs ws_102 h u_103 => ?_)
              replace HE : FT = g21w_X12_ways (xso SM ad ws_102) a2.toInt a3.toInt a4.toInt := HE.trans (by rw [(xso_L (i := 14) hO_104 h.2 kSM_14 rfl u_103), e_101, e_99, e_97, (xg1 e_92 : v_91.toInt = (xso SM ad ws_61) 1 1 v_89.toInt.toNat), e_90, e_88, e_86, (xg1 e_81 : v_80.toInt = (xso SM ad ws_61) 1 1 v_78.toInt.toNat), e_79, e_77]; rfl)
              refine y_c1 (n := 0) C0 (by decide) dX12_ways_112 (fun v_105 e_106 => ?_)
              refine lv_istore (lv' := [(5, .int v_105), (0, .ref (ad 0)), (1, .int a1), (2, .int a2), (3, .int a3), (4, .int a4)]) C0.1 C0.2.1 dX12_ways_113 hl (by decide) rfl (fun ls hl => ?_)
              have lp_110 : ∀ (n_112 : Nat) (x5_107 : Int32) (H : Heap) (locs : List Loc) (ls : Array Slot) (ws_108 : va_W), 20 - x5_107.toInt < (n_112 : Int) → 0 ≤ x5_107.toInt → x5_107.toInt ≤ 20 → (FT = L22_X12_ways n_112 (xso SM ad ws_108) a2.toInt a3.toInt a4.toInt x5_107.toInt) → Wt G SM ad A s H locs ws_108 → Fr SM [14, 15] ws_102 ws_108 → lv_has ls 9 [(5, .int x5_107), (0, .ref (ad 0)), (1, .int a1), (2, .int a2), (3, .int a3), (4, .int a4)] → W p l e (rmd 6 0 0) s m args below meth c H locs 0 0 Q (F0 m 115 ls []) := by
                intro n_112
                induction n_112 with
                | zero => intro x5_107 H locs ls ws_108 hn_113 b_114 b_115 HE h hF_109 hl; exact ((o36_469 b_114 b_115 hn_113)).elim
                | succ n_112 ih_111 =>
                  intro x5_107 H locs ls ws_108 hn_113 b_114 b_115 HE h hF_109 hl
                  obtain ⟨R115, hR115⟩ : ∃ z, z = L22_X12_ways n_112 := ⟨_, rfl⟩
                  replace HE : FT = g23l_X12_ways R115 (xso SM ad ws_108) a2.toInt a3.toInt a4.toInt x5_107.toInt := HE.trans (by rw [hR115]; rfl)
                  refine lv_iload C0.1 C0.2.1 dX12_ways_115 (lv_at hl 0 rfl) ?_
                  refine lv_iload_n C0.1 C0.2.1 dX12_ways_117 rfl (lv_at hl 4 rfl) ?_
                  replace HE : FT = g24b_X12_ways R115 (xso SM ad ws_108) a3.toInt x5_107.toInt a2.toInt a4.toInt := HE.trans rfl
                  refine y_icmp_ge (tgt := 213) C0 dX12_ways_118 (by decide) (fun c_116 => ?_) (fun c_116 => ?_)
                  · -- 118
                    replace HE : FT = g25_X12_ways (xso SM ad ws_108) a2.toInt a4.toInt := HE.trans (if_neg (Int.not_lt.mpr c_116))
                    refine y_lc (v := 0) C0 (by decide) dX12_ways_213 (fun w_117 e_118 => ?_)
                    refine lv_lstore (lv' := [(5, .long w_117), (0, .ref (ad 0)), (1, .int a1), (2, .int a2), (3, .int a3), (4, .int a4)]) C0.1 C0.2.1 dX12_ways_214 hl (by decide) rfl (fun ls hl => ?_)
                    refine y_c1 (n := 0) C0 (by decide) dX12_ways_216 (fun v_119 e_120 => ?_)
                    refine lv_istore (lv' := [(7, .int v_119), (5, .long w_117), (0, .ref (ad 0)), (1, .int a1), (2, .int a2), (3, .int a3), (4, .int a4)]) C0.1 C0.2.1 dX12_ways_217 hl (by decide) rfl (fun ls hl => ?_)
                    have lp_125 : ∀ (n_127 : Nat) (x7_121 : Int32) (x5_122 : Int64) (H : Heap) (locs : List Loc) (ls : Array Slot) (ws_123 : va_W), 4 - x7_121.toInt < (n_127 : Int) → 0 ≤ x7_121.toInt → x7_121.toInt ≤ 4 → (FT = L27_X12_ways n_127 (xso SM ad ws_123) a2.toInt a4.toInt x5_122.toInt x7_121.toInt) → Wt G SM ad A s H locs ws_123 → Fr SM [] ws_108 ws_123 → lv_has ls 9 [(7, .int x7_121), (5, .long x5_122), (0, .ref (ad 0)), (1, .int a1), (2, .int a2), (3, .int a3), (4, .int a4)] → W p l e (rmd 6 0 0) s m args below meth c H locs 0 0 Q (F0 m 219 ls []) := by
                      intro n_127
                      induction n_127 with
                      | zero => intro x7_121 x5_122 H locs ls ws_123 hn_128 b_129 b_130 HE h hF_124 hl; exact ((o36_19 b_129 b_130 hn_128)).elim
                      | succ n_127 ih_126 =>
                        intro x7_121 x5_122 H locs ls ws_123 hn_128 b_129 b_130 HE h hF_124 hl
                        obtain ⟨R219, hR219⟩ : ∃ z, z = L27_X12_ways n_127 := ⟨_, rfl⟩
                        replace HE : FT = g28l_X12_ways R219 (xso SM ad ws_123) a2.toInt a4.toInt x5_122.toInt x7_121.toInt := HE.trans (by rw [hR219]; rfl)
                        refine lv_iload C0.1 C0.2.1 dX12_ways_219 (lv_at hl 0 rfl) ?_
                        refine y_c1 (n := 4) C0 (by decide) dX12_ways_221 (fun v_131 e_132 => ?_)
                        replace HE : FT = g29b_X12_ways R219 (xso SM ad ws_123) x7_121.toInt a2.toInt a4.toInt x5_122.toInt := HE.trans rfl
                        refine y_icmp_ge (tgt := 269) C0 dX12_ways_222 (by decide) (fun c_133 => ?_) (fun c_133 => ?_)
                        · -- 222
                          replace HE : FT = g30_X12_ways (xso SM ad ws_123) x5_122.toInt := HE.trans (if_neg (o36_21 b_129 b_130 hn_128 e_132 c_133))
                          refine lv_lload C0.1 C0.2.1 dX12_ways_269 (lv_at hl 1 rfl) ?_
                          replace HE : FT = ((xso SM ad ws_123), x5_122.toInt) := HE.trans rfl
                          rw [hQ]
                          exact y_lret C0 h (Fr.tr (Fr.tr (Fr.tr (Fr.tr (Fr.tr (Fr.tr (Fr.tr (Fr.tr (Fr.tr (Fr.up u_4.1 kSM_0 (by decide)) (Fr.mono u_6 (by decide))) (Fr.mono u_23 (by decide))) (Fr.mono u_41 (by decide))) (Fr.up u_53.1 kSM_0 (by decide))) (Fr.mono u_55 (by decide))) (Fr.mono hF_62 (by decide))) (Fr.up u_103.1 kSM_14 (by decide))) (Fr.mono hF_109 (by decide))) (Fr.mono hF_124 (by decide))) ⟨(congrArg Prod.fst (HE.symm.trans hFT)), (congrArg Prod.snd (HE.symm.trans hFT))⟩ dX12_ways_271
                        · -- 222
                          replace HE : FT = g31_X12_ways R219 (xso SM ad ws_123) a2.toInt a4.toInt x5_122.toInt x7_121.toInt := HE.trans (if_pos (o36_22 b_129 b_130 hn_128 e_132 c_133))
                          refine y_c1 (n := 0) C0 (by decide) dX12_ways_225 (fun v_134 e_135 => ?_)
                          refine lv_istore (lv' := [(8, .int v_134), (7, .int x7_121), (5, .long x5_122), (0, .ref (ad 0)), (1, .int a1), (2, .int a2), (3, .int a3), (4, .int a4)]) C0.1 C0.2.1 dX12_ways_226 hl (by decide) rfl (fun ls hl => ?_)
                          have lp_140 : ∀ (n_142 : Nat) (x8_136 : Int32) (x5_137 : Int64) (H : Heap) (locs : List Loc) (ls : Array Slot) (ws_138 : va_W), 41 - x8_136.toInt < (n_142 : Int) → 0 ≤ x8_136.toInt → x8_136.toInt ≤ 41 → (FT = L32_X12_ways R219 n_142 (xso SM ad ws_138) a2.toInt a4.toInt x5_137.toInt x7_121.toInt x8_136.toInt) → Wt G SM ad A s H locs ws_138 → Fr SM [] ws_123 ws_138 → lv_has ls 9 [(8, .int x8_136), (7, .int x7_121), (5, .long x5_137), (0, .ref (ad 0)), (1, .int a1), (2, .int a2), (3, .int a3), (4, .int a4)] → W p l e (rmd 6 0 0) s m args below meth c H locs 0 0 Q (F0 m 228 ls []) := by
                            intro n_142
                            induction n_142 with
                            | zero => intro x8_136 x5_137 H locs ls ws_138 hn_143 b_144 b_145 HE h hF_139 hl; exact ((o36_418 b_144 b_145 hn_143)).elim
                            | succ n_142 ih_141 =>
                              intro x8_136 x5_137 H locs ls ws_138 hn_143 b_144 b_145 HE h hF_139 hl
                              obtain ⟨R228, hR228⟩ : ∃ z, z = L32_X12_ways R219 n_142 := ⟨_, rfl⟩
                              replace HE : FT = g33l_X12_ways R219 R228 (xso SM ad ws_138) a2.toInt a4.toInt x5_137.toInt x7_121.toInt x8_136.toInt := HE.trans (by rw [hR228]; rfl)
                              refine lv_iload C0.1 C0.2.1 dX12_ways_228 (lv_at hl 0 rfl) ?_
                              refine lv_iload C0.1 C0.2.1 dX12_ways_230 (lv_at hl 7 rfl) ?_
                              replace HE : FT = g34b_X12_ways R219 R228 (xso SM ad ws_138) a4.toInt x8_136.toInt a2.toInt x5_137.toInt x7_121.toInt := HE.trans rfl
                              refine y_icmp_gt (tgt := 263) C0 dX12_ways_232 (by decide) (fun c_146 => ?_) (fun c_146 => ?_)
                              · -- 232
                                replace HE : FT = g35_X12_ways R219 (xso SM ad ws_138) a2.toInt a4.toInt x5_137.toInt x7_121.toInt := HE.trans (if_pos c_146)
                                refine y_inc (kp := 1) (n := 1) (fun v_147 => [(7, .int v_147), (8, .int x8_136), (5, .long x5_137), (0, .ref (ad 0)), (1, .int a1), (2, .int a2), (3, .int a3), (4, .int a4)]) C0 hl rfl (by decide) (by decide) (fun _ => rfl) (o36_195 b_129 b_130 hn_128 e_132 c_133 (le_min x7_121) (le_max x7_121) (le_min v_131) (le_max v_131)) (o36_196 b_129 b_130 hn_128 e_132 c_133 (le_min x7_121) (le_max x7_121) (le_min v_131) (le_max v_131)) dX12_ways_263 (fun v_147 ls e_148 hl => ?_)
                                refine lv_goto (tgt := 219) C0.1 C0.2.1 dX12_ways_266 (by decide) ?_
                                exact ih_126 v_147 x5_137 _ _ _ _ (o36_197 b_129 b_130 hn_128 e_132 c_133 e_148) (o36_198 b_129 b_130 hn_128 e_132 c_133 e_148) (o36_199 b_129 b_130 hn_128 e_132 c_133 e_148) (((show FT = R219 (xso SM ad ws_138) a2.toInt a4.toInt x5_137.toInt v_147.toInt from HE.trans (by rw [e_148]; rfl)).trans (by rw [hR219]))) h (Fr.tr hF_124 hF_139) (lv_sub hl [0, 2, 3, 4, 5, 6, 7] rfl)
                              · -- 232
                                replace HE : FT = g36_X12_ways R219 R228 (xso SM ad ws_138) a2.toInt a4.toInt x5_137.toInt x7_121.toInt x8_136.toInt := HE.trans (if_neg (Int.not_lt.mpr c_146))
                                refine lv_lload C0.1 C0.2.1 dX12_ways_235 (lv_at hl 2 rfl) ?_
                                refine lv_aload_n C0.1 C0.2.1 dX12_ways_237 rfl (lv_at hl 3 rfl) ?_
                                refine ng_X12_many C0 h kSM_0 q_1467 dX12_ways_238 ?_
                                refine y_c2 (n := 41) C0 (by decide) dX12_ways_241 (fun v_149 e_150 => ?_)
                                refine y_c1 (n := 4) C0 (by decide) dX12_ways_243 (fun v_151 e_152 => ?_)
                                refine lv_iload_n C0.1 C0.2.1 dX12_ways_244 rfl (lv_at hl 5 rfl) ?_
                                refine y_cmul (n := 4) C0 (o36_20 e_152) (o36_470 e_11 e_12 e_13 c_15 e_77 e_79 e_88 e_90 (le_min a2) (le_max a2) (le_min r_8) (le_max r_8) (le_min a1) (le_max a1) (le_min v_76) (le_max v_76) (le_min v_78) (le_max v_78) (le_min v_87) (le_max v_87) (le_min v_89) (le_max v_89)) (o36_471 e_11 e_12 e_13 c_15 e_77 e_79 e_88 e_90 (le_min a2) (le_max a2) (le_min r_8) (le_max r_8) (le_min a1) (le_max a1) (le_min v_76) (le_max v_76) (le_min v_78) (le_max v_78) (le_min v_87) (le_max v_87) (le_min v_89) (le_max v_89)) dX12_ways_245 (fun v_153 e_154 => ?_)
                                refine lv_iload C0.1 C0.2.1 dX12_ways_246 (lv_at hl 1 rfl) ?_
                                refine y_add C0 (o36_472 e_11 e_12 e_13 c_15 e_77 e_79 e_88 e_90 b_129 b_130 hn_128 e_132 c_133 e_154 (le_min v_153) (le_max v_153) (le_min x7_121) (le_max x7_121) (le_min r_8) (le_max r_8) (le_min a1) (le_max a1) (le_min a2) (le_max a2) (le_min v_76) (le_max v_76) (le_min v_78) (le_max v_78) (le_min v_87) (le_max v_87) (le_min v_89) (le_max v_89) (le_min v_131) (le_max v_131)) (o36_473 e_11 e_12 e_13 c_15 e_77 e_79 e_88 e_90 b_129 b_130 hn_128 e_132 c_133 e_154 (le_min v_153) (le_max v_153) (le_min x7_121) (le_max x7_121) (le_min r_8) (le_max r_8) (le_min a1) (le_max a1) (le_min a2) (le_max a2) (le_min v_76) (le_max v_76) (le_min v_78) (le_max v_78) (le_min v_87) (le_max v_87) (le_min v_89) (le_max v_89) (le_min v_131) (le_max v_131)) dX12_ways_248 (fun v_155 e_156 => ?_)
                                refine y_cmul (n := 41) C0 (o36_421 e_150) (o36_474 e_11 e_12 e_13 c_15 e_77 e_79 e_88 e_90 b_129 b_130 hn_128 e_132 c_133 e_154 e_156 (le_min v_155) (le_max v_155) (le_min r_8) (le_max r_8) (le_min a1) (le_max a1) (le_min a2) (le_max a2) (le_min v_76) (le_max v_76) (le_min v_78) (le_max v_78) (le_min v_87) (le_max v_87) (le_min v_89) (le_max v_89) (le_min x7_121) (le_max x7_121) (le_min v_131) (le_max v_131) (le_min v_153) (le_max v_153)) (o36_475 e_11 e_12 e_13 c_15 e_77 e_79 e_88 e_90 b_129 b_130 hn_128 e_132 c_133 e_154 e_156 (le_min v_155) (le_max v_155) (le_min r_8) (le_max r_8) (le_min a1) (le_max a1) (le_min a2) (le_max a2) (le_min v_76) (le_max v_76) (le_min v_78) (le_max v_78) (le_min v_87) (le_max v_87) (le_min v_89) (le_max v_89) (le_min x7_121) (le_max x7_121) (le_min v_131) (le_max v_131) (le_min v_153) (le_max v_153)) dX12_ways_249 (fun v_157 e_158 => ?_)
                                refine lv_iload C0.1 C0.2.1 dX12_ways_250 (lv_at hl 0 rfl) ?_
                                refine y_add C0 (o36_476 e_11 e_12 e_13 c_15 e_35 e_37 e_39 e_46 e_47 e_48 c_49 e_77 e_79 e_88 e_90 b_129 b_130 hn_128 e_132 c_133 b_144 b_145 hn_143 c_146 e_154 e_156 e_158 (le_min v_157) (le_max v_157) (le_min x8_136) (le_max x8_136) (le_min r_8) (le_max r_8) (le_min a1) (le_max a1) (le_min a2) (le_max a2) (le_min a4) (le_max a4) (le_min r_43) (le_max r_43) (le_min v_76) (le_max v_76) (le_min v_78) (le_max v_78) (le_min v_87) (le_max v_87) (le_min v_89) (le_max v_89) (le_min x7_121) (le_max x7_121) (le_min v_131) (le_max v_131) (le_min v_153) (le_max v_153) (le_min v_155) (le_max v_155)) (o36_477 e_11 e_12 e_13 c_15 e_35 e_37 e_39 e_46 e_47 e_48 c_49 e_77 e_79 e_88 e_90 b_129 b_130 hn_128 e_132 c_133 b_144 b_145 hn_143 c_146 e_154 e_156 e_158 (le_min v_157) (le_max v_157) (le_min x8_136) (le_max x8_136) (le_min r_8) (le_max r_8) (le_min a1) (le_max a1) (le_min a2) (le_max a2) (le_min a4) (le_max a4) (le_min r_43) (le_max r_43) (le_min v_76) (le_max v_76) (le_min v_78) (le_max v_78) (le_min v_87) (le_max v_87) (le_min v_89) (le_max v_89) (le_min x7_121) (le_max x7_121) (le_min v_131) (le_max v_131) (le_min v_153) (le_max v_153) (le_min v_155) (le_max v_155)) dX12_ways_252 (fun v_159 e_160 => ?_)
                                refine y_lald C0 h kSM_14 rfl (by decide) (o36_478 e_11 e_12 e_13 c_15 e_35 e_37 e_39 e_46 e_47 e_48 c_49 e_77 e_79 e_88 e_90 b_129 b_130 hn_128 e_132 c_133 b_144 b_145 hn_143 c_146 e_154 e_156 e_158 e_160) (o36_479 e_11 e_12 e_13 c_15 e_35 e_37 e_39 e_46 e_47 e_48 c_49 e_77 e_79 e_88 e_90 b_129 b_130 hn_128 e_132 c_133 b_144 b_145 hn_143 c_146 e_154 e_156 e_158 e_160) dX12_ways_253 (fun w_161 e_162 => ?_)
                                refine xr_ladd C0 dX12_ways_254 (fun w_163 e_164 => ?_)
                                refine lv_lstore (lv' := [(5, .long w_163), (8, .int x8_136), (7, .int x7_121), (0, .ref (ad 0)), (1, .int a1), (2, .int a2), (3, .int a3), (4, .int a4)]) C0.1 C0.2.1 dX12_ways_255 hl (by decide) rfl (fun ls hl => ?_)
                                refine y_inc (kp := 1) (n := 1) (fun v_165 => [(8, .int v_165), (5, .long w_163), (7, .int x7_121), (0, .ref (ad 0)), (1, .int a1), (2, .int a2), (3, .int a3), (4, .int a4)]) C0 hl rfl (by decide) (by decide) (fun _ => rfl) (o36_480 e_11 e_12 e_13 c_15 e_35 e_37 e_39 e_46 e_47 e_48 c_49 e_77 e_79 e_88 e_90 b_129 b_130 hn_128 e_132 c_133 b_144 b_145 hn_143 c_146 e_154 e_156 e_158 e_160 (le_min x8_136) (le_max x8_136) (le_min r_8) (le_max r_8) (le_min a1) (le_max a1) (le_min a2) (le_max a2) (le_min a4) (le_max a4) (le_min r_43) (le_max r_43) (le_min v_76) (le_max v_76) (le_min v_78) (le_max v_78) (le_min v_87) (le_max v_87) (le_min v_89) (le_max v_89) (le_min x7_121) (le_max x7_121) (le_min v_131) (le_max v_131) (le_min v_153) (le_max v_153) (le_min v_155) (le_max v_155) (le_min v_157) (le_max v_157) (le_min v_159) (le_max v_159)) (o36_481 e_11 e_12 e_13 c_15 e_35 e_37 e_39 e_46 e_47 e_48 c_49 e_77 e_79 e_88 e_90 b_129 b_130 hn_128 e_132 c_133 b_144 b_145 hn_143 c_146 e_154 e_156 e_158 e_160 (le_min x8_136) (le_max x8_136) (le_min r_8) (le_max r_8) (le_min a1) (le_max a1) (le_min a2) (le_max a2) (le_min a4) (le_max a4) (le_min r_43) (le_max r_43) (le_min v_76) (le_max v_76) (le_min v_78) (le_max v_78) (le_min v_87) (le_max v_87) (le_min v_89) (le_max v_89) (le_min x7_121) (le_max x7_121) (le_min v_131) (le_max v_131) (le_min v_153) (le_max v_153) (le_min v_155) (le_max v_155) (le_min v_157) (le_max v_157) (le_min v_159) (le_max v_159)) dX12_ways_257 (fun v_165 ls e_166 hl => ?_)
                                refine lv_goto (tgt := 228) C0.1 C0.2.1 dX12_ways_260 (by decide) ?_
                                exact ih_141 v_165 w_163 _ _ _ _ (o36_482 e_11 e_12 e_13 c_15 e_35 e_37 e_39 e_46 e_47 e_48 c_49 e_77 e_79 e_88 e_90 b_129 b_130 hn_128 e_132 c_133 b_144 b_145 hn_143 c_146 e_154 e_156 e_158 e_160 e_166) (o36_483 e_11 e_12 e_13 c_15 e_35 e_37 e_39 e_46 e_47 e_48 c_49 e_77 e_79 e_88 e_90 b_129 b_130 hn_128 e_132 c_133 b_144 b_145 hn_143 c_146 e_154 e_156 e_158 e_160 e_166) (o36_484 e_11 e_12 e_13 c_15 e_35 e_37 e_39 e_46 e_47 e_48 c_49 e_77 e_79 e_88 e_90 b_129 b_130 hn_128 e_132 c_133 b_144 b_145 hn_143 c_146 e_154 e_156 e_158 e_160 e_166) (((show FT = R228 (xso SM ad ws_138) a2.toInt a4.toInt w_163.toInt x7_121.toInt v_165.toInt from HE.trans (by rw [e_166, e_164, (xg2 e_162 : w_161.toInt = (xso SM ad ws_138) 2 14 v_159.toInt.toNat), e_160, e_158, e_156, e_154]; rfl)).trans (by rw [hR228]))) h hF_139 (lv_sub hl [0, 2, 1, 3, 4, 5, 6, 7] rfl)
                          exact lp_140 ((41 - v_134.toInt + 1).toNat) v_134 x5_122 _ _ _ _ (o36_443 e_135) (o36_63 e_135) (o36_444 e_135) ((show FT = L32_X12_ways R219 (Int.toNat (41 - v_134.toInt + 1)) (xso SM ad ws_123) a2.toInt a4.toInt x5_122.toInt x7_121.toInt v_134.toInt from HE.trans (by rw [e_135]; rfl))) h Fr.rf (lv_sub hl [0, 1, 2, 3, 4, 5, 6, 7] rfl)
                    exact lp_125 ((4 - v_119.toInt + 1).toNat) v_119 w_117 _ _ _ _ (o36_62 e_120) (o36_63 e_120) (o36_64 e_120) ((show FT = L27_X12_ways (Int.toNat (4 - v_119.toInt + 1)) (xso SM ad ws_108) a2.toInt a4.toInt w_117.toInt v_119.toInt from HE.trans (by rw [e_120, e_118]; rfl))) h Fr.rf (lv_sub hl [0, 1, 2, 3, 4, 5, 6] rfl)
                  · -- 118
                    replace HE : FT = g26_X12_ways R115 (xso SM ad ws_108) a2.toInt a3.toInt a4.toInt x5_107.toInt := HE.trans (if_pos c_116)
                    refine y_c1 (n := 0) C0 (by decide) dX12_ways_121 (fun v_167 e_168 => ?_)
                    refine lv_istore (lv' := [(6, .int v_167), (5, .int x5_107), (0, .ref (ad 0)), (1, .int a1), (2, .int a2), (3, .int a3), (4, .int a4)]) C0.1 C0.2.1 dX12_ways_122 hl (by decide) rfl (fun ls hl => ?_)
                    have lp_172 : ∀ (n_174 : Nat) (x6_169 : Int32) (H : Heap) (locs : List Loc) (ls : Array Slot) (ws_170 : va_W), 4100 - x6_169.toInt < (n_174 : Int) → 0 ≤ x6_169.toInt → x6_169.toInt ≤ 4100 → (FT = L37_X12_ways R115 n_174 (xso SM ad ws_170) a2.toInt a3.toInt a4.toInt x5_107.toInt x6_169.toInt) → Wt G SM ad A s H locs ws_170 → Fr SM [15] ws_108 ws_170 → lv_has ls 9 [(6, .int x6_169), (5, .int x5_107), (0, .ref (ad 0)), (1, .int a1), (2, .int a2), (3, .int a3), (4, .int a4)] → W p l e (rmd 6 0 0) s m args below meth c H locs 0 0 Q (F0 m 124 ls []) := by
                      intro n_174
                      induction n_174 with
                      | zero => intro x6_169 H locs ls ws_170 hn_175 b_176 b_177 HE h hF_171 hl; exact ((o36_447 b_176 b_177 hn_175)).elim
                      | succ n_174 ih_173 =>
                        intro x6_169 H locs ls ws_170 hn_175 b_176 b_177 HE h hF_171 hl
                        obtain ⟨R124, hR124⟩ : ∃ z, z = L37_X12_ways R115 n_174 := ⟨_, rfl⟩
                        replace HE : FT = g38l_X12_ways R115 R124 (xso SM ad ws_170) a2.toInt a3.toInt a4.toInt x5_107.toInt x6_169.toInt := HE.trans (by rw [hR124]; rfl)
                        refine lv_iload C0.1 C0.2.1 dX12_ways_124 (lv_at hl 0 rfl) ?_
                        refine y_c3 (n := 4100) C0 (by decide) dX12_ways_126 (fun v_178 e_179 => ?_)
                        replace HE : FT = g39b_X12_ways R115 R124 (xso SM ad ws_170) x6_169.toInt a2.toInt a3.toInt a4.toInt x5_107.toInt := HE.trans rfl
                        refine y_icmp_ge (tgt := 146) C0 dX12_ways_129 (by decide) (fun c_180 => ?_) (fun c_180 => ?_)
                        · -- 129
                          replace HE : FT = g40_X12_ways R115 (xso SM ad ws_170) a2.toInt a3.toInt a4.toInt x5_107.toInt := HE.trans (if_neg (o36_449 b_176 b_177 hn_175 e_179 c_180))
                          refine y_c1 (n := 0) C0 (by decide) dX12_ways_146 (fun v_181 e_182 => ?_)
                          refine lv_istore (lv' := [(6, .int v_181), (5, .int x5_107), (0, .ref (ad 0)), (1, .int a1), (2, .int a2), (3, .int a3), (4, .int a4)]) C0.1 C0.2.1 dX12_ways_147 hl (by decide) rfl (fun ls hl => ?_)
                          have lp_186 : ∀ (n_188 : Nat) (x6_183 : Int32) (H : Heap) (locs : List Loc) (ls : Array Slot) (ws_184 : va_W), 100 - x6_183.toInt < (n_188 : Int) → 0 ≤ x6_183.toInt → x6_183.toInt ≤ 100 → (FT = L42_X12_ways R115 n_188 (xso SM ad ws_184) a2.toInt a3.toInt a4.toInt x5_107.toInt x6_183.toInt) → Wt G SM ad A s H locs ws_184 → Fr SM [15] ws_170 ws_184 → lv_has ls 9 [(6, .int x6_183), (5, .int x5_107), (0, .ref (ad 0)), (1, .int a1), (2, .int a2), (3, .int a3), (4, .int a4)] → W p l e (rmd 6 0 0) s m args below meth c H locs 0 0 Q (F0 m 149 ls []) := by
                            intro n_188
                            induction n_188 with
                            | zero => intro x6_183 H locs ls ws_184 hn_189 b_190 b_191 HE h hF_185 hl; exact ((o36_134 b_190 b_191 hn_189)).elim
                            | succ n_188 ih_187 =>
                              intro x6_183 H locs ls ws_184 hn_189 b_190 b_191 HE h hF_185 hl
                              obtain ⟨R149, hR149⟩ : ∃ z, z = L42_X12_ways R115 n_188 := ⟨_, rfl⟩
                              replace HE : FT = g43l_X12_ways R115 R149 (xso SM ad ws_184) a2.toInt a3.toInt a4.toInt x5_107.toInt x6_183.toInt := HE.trans (by rw [hR149]; rfl)
                              refine lv_iload C0.1 C0.2.1 dX12_ways_149 (lv_at hl 0 rfl) ?_
                              refine y_c1 (n := 4) C0 (by decide) dX12_ways_151 (fun v_192 e_193 => ?_)
                              refine lv_aload_n C0.1 C0.2.1 dX12_ways_152 rfl (lv_at hl 2 rfl) ?_
                              refine y_ci h (y_rV (As := []) (rest := [.int v_192, .int x6_183]) C0 hZ h (c_X12_crossings l G Z ad _ h.2) k_X12_crossings q_1705 q_79 q_1703 kSM_0 rfl rfl rfl hl.1 rfl rfl (Nat.le_of_ble_eq_true rfl) dX12_ways_153 ⟨Nat.le_of_ble_eq_true rfl, Nat.le_of_ble_eq_true rfl⟩ ⟨Nat.le_of_ble_eq_true rfl, Nat.le_of_ble_eq_true rfl⟩) (fun r_197 H locs ws_194 h u_195 p_196 => ?_)
                              obtain ⟨e_198, e_199, e_200, e_201, e_202⟩ := p_196
                              replace HE : FT = g44c_X12_ways R115 R149 (xso SM ad ws_194) r_197.toInt x6_183.toInt a2.toInt a3.toInt a4.toInt x5_107.toInt := HE.trans (by rw [e_198, e_199]; rfl)
                              refine y_cmul (n := 4) C0 (o36_20 e_193) (o36_135 e_200 e_201 (le_min r_197) (le_max r_197)) (o36_136 e_200 e_201 (le_min r_197) (le_max r_197)) dX12_ways_156 (fun v_203 e_204 => ?_)
                              replace HE : FT = g45b_X12_ways R115 R149 (xso SM ad ws_194) v_203.toInt x6_183.toInt a2.toInt a3.toInt a4.toInt x5_107.toInt := HE.trans (by rw [e_204]; rfl)
                              refine y_icmp_ge (tgt := 176) C0 dX12_ways_157 (by decide) (fun c_205 => ?_) (fun c_205 => ?_)
                              · -- 157
                                replace HE : FT = g46_X12_ways R115 (xso SM ad ws_194) a2.toInt a3.toInt a4.toInt x5_107.toInt := HE.trans (if_neg (Int.not_lt.mpr c_205))
                                refine y_c1 (n := 0) C0 (by decide) dX12_ways_176 (fun v_206 e_207 => ?_)
                                refine lv_istore (lv' := [(6, .int v_206), (5, .int x5_107), (0, .ref (ad 0)), (1, .int a1), (2, .int a2), (3, .int a3), (4, .int a4)]) C0.1 C0.2.1 dX12_ways_177 hl (by decide) rfl (fun ls hl => ?_)
                                have lp_211 : ∀ (n_213 : Nat) (x6_208 : Int32) (H : Heap) (locs : List Loc) (ls : Array Slot) (ws_209 : va_W), 4100 - x6_208.toInt < (n_213 : Int) → 0 ≤ x6_208.toInt → x6_208.toInt ≤ 4100 → (FT = L48_X12_ways R115 n_213 (xso SM ad ws_209) a2.toInt a3.toInt a4.toInt x5_107.toInt x6_208.toInt) → Wt G SM ad A s H locs ws_209 → Fr SM [14] ws_194 ws_209 → lv_has ls 9 [(6, .int x6_208), (5, .int x5_107), (0, .ref (ad 0)), (1, .int a1), (2, .int a2), (3, .int a3), (4, .int a4)] → W p l e (rmd 6 0 0) s m args below meth c H locs 0 0 Q (F0 m 179 ls []) := by
                                  intro n_213
                                  induction n_213 with
                                  | zero => intro x6_208 H locs ls ws_209 hn_214 b_215 b_216 HE h hF_210 hl; exact ((o36_447 b_215 b_216 hn_214)).elim
                                  | succ n_213 ih_212 =>
                                    intro x6_208 H locs ls ws_209 hn_214 b_215 b_216 HE h hF_210 hl
                                    obtain ⟨R179, hR179⟩ : ∃ z, z = L48_X12_ways R115 n_213 := ⟨_, rfl⟩
                                    replace HE : FT = g49l_X12_ways R115 R179 (xso SM ad ws_209) a2.toInt a3.toInt a4.toInt x5_107.toInt x6_208.toInt := HE.trans (by rw [hR179]; rfl)
                                    refine lv_iload C0.1 C0.2.1 dX12_ways_179 (lv_at hl 0 rfl) ?_
                                    refine y_c3 (n := 4100) C0 (by decide) dX12_ways_181 (fun v_217 e_218 => ?_)
                                    replace HE : FT = g50b_X12_ways R115 R179 (xso SM ad ws_209) x6_208.toInt a2.toInt a3.toInt a4.toInt x5_107.toInt := HE.trans rfl
                                    refine y_icmp_ge (tgt := 207) C0 dX12_ways_184 (by decide) (fun c_219 => ?_) (fun c_219 => ?_)
                                    · -- 184
                                      replace HE : FT = g51_X12_ways R115 (xso SM ad ws_209) a2.toInt a3.toInt a4.toInt x5_107.toInt := HE.trans (if_neg (o36_449 b_215 b_216 hn_214 e_218 c_219))
                                      refine y_inc (kp := 1) (n := 1) (fun v_220 => [(5, .int v_220), (6, .int x6_208), (0, .ref (ad 0)), (1, .int a1), (2, .int a2), (3, .int a3), (4, .int a4)]) C0 hl rfl (by decide) (by decide) (fun _ => rfl) (o36_485 e_17 e_19 e_21 e_28 e_29 e_30 c_31 b_114 b_115 hn_113 c_116 (le_min x5_107) (le_max x5_107) (le_min a3) (le_max a3) (le_min r_25) (le_max r_25)) (o36_486 e_17 e_19 e_21 e_28 e_29 e_30 c_31 b_114 b_115 hn_113 c_116 (le_min x5_107) (le_max x5_107) (le_min a3) (le_max a3) (le_min r_25) (le_max r_25)) dX12_ways_207 (fun v_220 ls e_221 hl => ?_)
                                      refine lv_goto (tgt := 115) C0.1 C0.2.1 dX12_ways_210 (by decide) ?_
                                      exact ih_111 v_220 _ _ _ _ (o36_487 e_17 e_19 e_21 e_28 e_29 e_30 c_31 b_114 b_115 hn_113 c_116 e_221) (o36_488 e_17 e_19 e_21 e_28 e_29 e_30 c_31 b_114 b_115 hn_113 c_116 e_221) (o36_489 e_17 e_19 e_21 e_28 e_29 e_30 c_31 b_114 b_115 hn_113 c_116 e_221) (((show FT = R115 (xso SM ad ws_209) a2.toInt a3.toInt a4.toInt v_220.toInt from HE.trans (by rw [e_221]; rfl)).trans (by rw [hR115]))) h (Fr.tr (Fr.tr (Fr.tr (Fr.tr hF_109 (Fr.mono hF_171 (by decide))) (Fr.mono hF_185 (by decide))) (Fr.mono u_195 (by decide))) (Fr.mono hF_210 (by decide))) (lv_sub hl [0, 2, 3, 4, 5, 6] rfl)
                                    · -- 184
                                      replace HE : FT = g52_X12_ways R115 R179 (xso SM ad ws_209) a2.toInt a3.toInt a4.toInt x5_107.toInt x6_208.toInt := HE.trans (if_pos (o36_450 b_215 b_216 hn_214 e_218 c_219))
                                      refine lv_aload_n C0.1 C0.2.1 dX12_ways_187 rfl (lv_at hl 2 rfl) ?_
                                      refine ng_X12_many C0 h kSM_0 q_1467 dX12_ways_188 ?_
                                      refine lv_iload C0.1 C0.2.1 dX12_ways_191 (lv_at hl 0 rfl) ?_
                                      refine lv_aload_n C0.1 C0.2.1 dX12_ways_193 rfl (lv_at hl 2 rfl) ?_
                                      refine ng_X12_manyThen C0 h kSM_0 q_1468 dX12_ways_194 ?_
                                      refine lv_iload C0.1 C0.2.1 dX12_ways_197 (lv_at hl 0 rfl) ?_
                                      refine y_lald C0 h kSM_15 rfl (by decide) (o36_490 b_215 b_216 hn_214 e_218 c_219) (o36_491 b_215 b_216 hn_214 e_218 c_219) dX12_ways_199 (fun w_222 e_223 => ?_)
                                      have hO_226 := h.2
                                      refine y_last C0 h kSM_14 rfl (by decide) (o36_490 b_215 b_216 hn_214 e_218 c_219) (o36_491 b_215 b_216 hn_214 e_218 c_219) dX12_ways_200 (fun H locs ws_224 h u_225 => ?_)
                                      replace HE : FT = g53w_X12_ways R115 R179 (xso SM ad ws_224) a2.toInt a3.toInt a4.toInt x5_107.toInt x6_208.toInt := HE.trans (by rw [(xso_L (i := 14) hO_226 h.2 kSM_14 rfl u_225), (xg2 e_223 : w_222.toInt = (xso SM ad ws_209) 2 15 x6_208.toInt.toNat)]; rfl)
                                      refine y_inc (kp := 0) (n := 1) (fun v_227 => [(6, .int v_227), (5, .int x5_107), (0, .ref (ad 0)), (1, .int a1), (2, .int a2), (3, .int a3), (4, .int a4)]) C0 hl rfl (by decide) (by decide) (fun _ => rfl) (o36_492 b_215 b_216 hn_214 e_218 c_219 (le_min x6_208) (le_max x6_208) (le_min v_217) (le_max v_217)) (o36_493 b_215 b_216 hn_214 e_218 c_219 (le_min x6_208) (le_max x6_208) (le_min v_217) (le_max v_217)) dX12_ways_201 (fun v_227 ls e_228 hl => ?_)
                                      refine lv_goto (tgt := 179) C0.1 C0.2.1 dX12_ways_204 (by decide) ?_
                                      exact ih_212 v_227 _ _ _ _ (o36_494 b_215 b_216 hn_214 e_218 c_219 e_228) (o36_495 b_215 b_216 hn_214 e_218 c_219 e_228) (o36_496 b_215 b_216 hn_214 e_218 c_219 e_228) (((show FT = R179 (xso SM ad ws_224) a2.toInt a3.toInt a4.toInt x5_107.toInt v_227.toInt from HE.trans (by rw [e_228]; rfl)).trans (by rw [hR179]))) h (Fr.tr hF_210 (Fr.up u_225.1 kSM_14 (by decide))) (lv_sub hl [0, 1, 2, 3, 4, 5, 6] rfl)
                                exact lp_211 ((4100 - v_206.toInt + 1).toNat) v_206 _ _ _ _ (o36_497 e_207) (o36_63 e_207) (o36_498 e_207) ((show FT = L48_X12_ways R115 (Int.toNat (4100 - v_206.toInt + 1)) (xso SM ad ws_194) a2.toInt a3.toInt a4.toInt x5_107.toInt v_206.toInt from HE.trans (by rw [e_207]; rfl))) h Fr.rf (lv_sub hl [0, 1, 2, 3, 4, 5, 6] rfl)
                              · -- 157
                                replace HE : FT = g47_X12_ways R115 R149 (xso SM ad ws_194) a2.toInt a3.toInt a4.toInt x5_107.toInt x6_183.toInt := HE.trans (if_pos c_205)
                                refine lv_aload_n C0.1 C0.2.1 dX12_ways_160 rfl (lv_at hl 2 rfl) ?_
                                refine lv_iload C0.1 C0.2.1 dX12_ways_161 (lv_at hl 1 rfl) ?_
                                refine lv_iload C0.1 C0.2.1 dX12_ways_163 (lv_at hl 0 rfl) ?_
                                refine lv_iload C0.1 C0.2.1 dX12_ways_165 (lv_at hl 6 rfl) ?_
                                refine y_cv h (y_rV (As := [.int x5_107, .int x6_183, .int a4]) (rest := []) C0 hZ h (c_X12_countsOn l G Z ad _ h.2 x5_107 x6_183 a4 (o36_499 e_17 e_19 e_21 e_28 e_29 e_30 c_31 b_114 b_115 hn_113 c_116) (o36_500 e_17 e_19 e_21 e_28 e_29 e_30 c_31 b_114 b_115 hn_113 c_116) (o36_501 b_190 b_191 hn_189 e_200 e_201 e_204 c_205) (o36_502 b_190 b_191 hn_189 e_200 e_201 e_204 c_205) (o36_503 e_35 e_37 e_39 e_46 e_47 e_48 c_49) (o36_504 e_35 e_37 e_39 e_46 e_47 e_48 c_49) (Laid.pa (Or.resolve_left e_14 (o36_505 e_11 e_12 e_13 c_15 e_77 e_79 e_88 e_90)) (Pa.tr (Pa.tr (Pa.tr (Pa.tr (Pa.tr (Pa.tr (Pa.tr (Pa.tr (Pa.tr (Pa.tr (Pa.fr u_6 (by decide)) (Pa.fr u_23 (by decide))) (Pa.fr u_41 (by decide))) (Pa.ud u_53.1 (by decide))) (Pa.fr u_55 (by decide))) (Pa.fr hF_62 (by decide))) (Pa.ud u_103.1 (by decide))) (Pa.fr hF_109 (by decide))) (Pa.fr hF_171 (by decide))) (Pa.fr hF_185 (by decide))) (Pa.fr u_195 (by decide))))) k_X12_countsOn q_1944 q_112 q_1942 kSM_0 rfl rfl rfl hl.1 rfl rfl (Nat.le_of_ble_eq_true rfl) dX12_ways_167 ⟨Nat.le_of_ble_eq_true rfl, Nat.le_of_ble_eq_true rfl⟩ ⟨Nat.le_of_ble_eq_true rfl, Nat.le_of_ble_eq_true rfl⟩) (fun H locs ws_229 h u_230 p_231 => ?_)
                                have e_232 := p_231
                                replace HE : FT = g54c_X12_ways R115 R149 (xso SM ad ws_229) a2.toInt a3.toInt a4.toInt x5_107.toInt x6_183.toInt := HE.trans (by rw [e_232]; rfl)
                                refine y_inc (kp := 0) (n := 1) (fun v_233 => [(6, .int v_233), (5, .int x5_107), (0, .ref (ad 0)), (1, .int a1), (2, .int a2), (3, .int a3), (4, .int a4)]) C0 hl rfl (by decide) (by decide) (fun _ => rfl) (o36_506 b_190 b_191 hn_189 e_200 e_201 e_204 c_205 (le_min x6_183) (le_max x6_183) (le_min r_197) (le_max r_197) (le_min v_203) (le_max v_203)) (o36_507 b_190 b_191 hn_189 e_200 e_201 e_204 c_205 (le_min x6_183) (le_max x6_183) (le_min r_197) (le_max r_197) (le_min v_203) (le_max v_203)) dX12_ways_170 (fun v_233 ls e_234 hl => ?_)
                                refine lv_goto (tgt := 149) C0.1 C0.2.1 dX12_ways_173 (by decide) ?_
                                exact ih_187 v_233 _ _ _ _ (o36_508 b_190 b_191 hn_189 e_200 e_201 e_204 c_205 e_234) (o36_509 b_190 b_191 hn_189 e_200 e_201 e_204 c_205 e_234) (o36_510 b_190 b_191 hn_189 e_200 e_201 e_204 c_205 e_234) (((show FT = R149 (xso SM ad ws_229) a2.toInt a3.toInt a4.toInt x5_107.toInt v_233.toInt from HE.trans (by rw [e_234]; rfl)).trans (by rw [hR149]))) h (Fr.tr (Fr.tr hF_185 (Fr.mono u_195 (by decide))) u_230) (lv_sub hl [0, 1, 2, 3, 4, 5, 6] rfl)
                          exact lp_186 ((100 - v_181.toInt + 1).toNat) v_181 _ _ _ _ (o36_200 e_182) (o36_63 e_182) (o36_201 e_182) ((show FT = L42_X12_ways R115 (Int.toNat (100 - v_181.toInt + 1)) (xso SM ad ws_170) a2.toInt a3.toInt a4.toInt x5_107.toInt v_181.toInt from HE.trans (by rw [e_182]; rfl))) h Fr.rf (lv_sub hl [0, 1, 2, 3, 4, 5, 6] rfl)
                        · -- 129
                          replace HE : FT = g41_X12_ways R115 R124 (xso SM ad ws_170) a2.toInt a3.toInt a4.toInt x5_107.toInt x6_169.toInt := HE.trans (if_pos (o36_450 b_176 b_177 hn_175 e_179 c_180))
                          refine lv_aload_n C0.1 C0.2.1 dX12_ways_132 rfl (lv_at hl 2 rfl) ?_
                          refine ng_X12_manyThen C0 h kSM_0 q_1468 dX12_ways_133 ?_
                          refine lv_iload C0.1 C0.2.1 dX12_ways_136 (lv_at hl 0 rfl) ?_
                          refine y_lc (v := 0) C0 (by decide) dX12_ways_138 (fun w_235 e_236 => ?_)
                          have hO_239 := h.2
                          refine y_last C0 h kSM_15 rfl (by decide) (o36_490 b_176 b_177 hn_175 e_179 c_180) (o36_491 b_176 b_177 hn_175 e_179 c_180) dX12_ways_139 (fun H locs ws_237 h u_238 => ?_)
                          replace HE : FT = g55w_X12_ways R115 R124 (xso SM ad ws_237) a2.toInt a3.toInt a4.toInt x5_107.toInt x6_169.toInt := HE.trans (by rw [(xso_L (i := 15) hO_239 h.2 kSM_15 rfl u_238), e_236]; rfl)
                          refine y_inc (kp := 0) (n := 1) (fun v_240 => [(6, .int v_240), (5, .int x5_107), (0, .ref (ad 0)), (1, .int a1), (2, .int a2), (3, .int a3), (4, .int a4)]) C0 hl rfl (by decide) (by decide) (fun _ => rfl) (o36_492 b_176 b_177 hn_175 e_179 c_180 (le_min x6_169) (le_max x6_169) (le_min v_178) (le_max v_178)) (o36_493 b_176 b_177 hn_175 e_179 c_180 (le_min x6_169) (le_max x6_169) (le_min v_178) (le_max v_178)) dX12_ways_140 (fun v_240 ls e_241 hl => ?_)
                          refine lv_goto (tgt := 124) C0.1 C0.2.1 dX12_ways_143 (by decide) ?_
                          exact ih_173 v_240 _ _ _ _ (o36_494 b_176 b_177 hn_175 e_179 c_180 e_241) (o36_495 b_176 b_177 hn_175 e_179 c_180 e_241) (o36_496 b_176 b_177 hn_175 e_179 c_180 e_241) (((show FT = R124 (xso SM ad ws_237) a2.toInt a3.toInt a4.toInt x5_107.toInt v_240.toInt from HE.trans (by rw [e_241]; rfl)).trans (by rw [hR124]))) h (Fr.tr hF_171 (Fr.up u_238.1 kSM_15 (by decide))) (lv_sub hl [0, 1, 2, 3, 4, 5, 6] rfl)
                    exact lp_172 ((4100 - v_167.toInt + 1).toNat) v_167 _ _ _ _ (o36_497 e_168) (o36_63 e_168) (o36_498 e_168) ((show FT = L37_X12_ways R115 (Int.toNat (4100 - v_167.toInt + 1)) (xso SM ad ws_108) a2.toInt a3.toInt a4.toInt x5_107.toInt v_167.toInt from HE.trans (by rw [e_168]; rfl))) h Fr.rf (lv_sub hl [0, 1, 2, 3, 4, 5, 6] rfl)
              exact lp_110 ((20 - v_105.toInt + 1).toNat) v_105 _ _ _ _ (o36_511 e_106) (o36_63 e_106) (o36_512 e_106) ((show FT = L22_X12_ways (Int.toNat (20 - v_105.toInt + 1)) (xso SM ad ws_102) a2.toInt a3.toInt a4.toInt v_105.toInt from HE.trans (by rw [e_106]; rfl))) h Fr.rf (lv_sub hl [0, 1, 2, 3, 4, 5] rfl)
            · -- 65
              replace HE : FT = g20_X12_ways R60 (xso SM ad ws_61) a1.toInt a2.toInt a3.toInt a4.toInt x5_60.toInt := HE.trans (if_pos (o36_450 b_67 b_68 hn_66 e_70 c_71))
              refine lv_aload_n C0.1 C0.2.1 dX12_ways_68 rfl (lv_at hl 1 rfl) ?_
              refine ng_X12_many C0 h kSM_0 q_1467 dX12_ways_69 ?_
              refine lv_iload C0.1 C0.2.1 dX12_ways_72 (lv_at hl 0 rfl) ?_
              refine y_lc (v := 0) C0 (by decide) dX12_ways_74 (fun w_242 e_243 => ?_)
              have hO_246 := h.2
              refine y_last C0 h kSM_14 rfl (by decide) (o36_490 b_67 b_68 hn_66 e_70 c_71) (o36_491 b_67 b_68 hn_66 e_70 c_71) dX12_ways_75 (fun H locs ws_244 h u_245 => ?_)
              replace HE : FT = g56w_X12_ways R60 (xso SM ad ws_244) a1.toInt a2.toInt a3.toInt a4.toInt x5_60.toInt := HE.trans (by rw [(xso_L (i := 14) hO_246 h.2 kSM_14 rfl u_245), e_243]; rfl)
              refine y_inc (kp := 0) (n := 1) (fun v_247 => [(5, .int v_247), (0, .ref (ad 0)), (1, .int a1), (2, .int a2), (3, .int a3), (4, .int a4)]) C0 hl rfl (by decide) (by decide) (fun _ => rfl) (o36_492 b_67 b_68 hn_66 e_70 c_71 (le_min x5_60) (le_max x5_60) (le_min v_69) (le_max v_69)) (o36_493 b_67 b_68 hn_66 e_70 c_71 (le_min x5_60) (le_max x5_60) (le_min v_69) (le_max v_69)) dX12_ways_76 (fun v_247 ls e_248 hl => ?_)
              refine lv_goto (tgt := 60) C0.1 C0.2.1 dX12_ways_79 (by decide) ?_
              exact ih_64 v_247 _ _ _ _ (o36_494 b_67 b_68 hn_66 e_70 c_71 e_248) (o36_495 b_67 b_68 hn_66 e_70 c_71 e_248) (o36_496 b_67 b_68 hn_66 e_70 c_71 e_248) (((show FT = R60 (xso SM ad ws_244) a1.toInt a2.toInt a3.toInt a4.toInt v_247.toInt from HE.trans (by rw [e_248]; rfl)).trans (by rw [hR60]))) h (Fr.tr hF_62 (Fr.up u_245.1 kSM_14 (by decide))) (lv_sub hl [0, 1, 2, 3, 4, 5] rfl)
        exact lp_63 ((4100 - v_58.toInt + 1).toNat) v_58 _ _ _ _ (o36_497 e_59) (o36_63 e_59) (o36_498 e_59) ((show FT = L16_X12_ways (Int.toNat (4100 - v_58.toInt + 1)) (xso SM ad ws_54) a1.toInt a2.toInt a3.toInt a4.toInt v_58.toInt from HE.trans (by rw [e_59]; rfl))) h Fr.rf (lv_sub hl [0, 1, 2, 3, 4, 5] rfl)
      · -- 40
        replace HE : FT = g13_X12_ways (xso SM ad ws_40) := HE.trans (if_pos c_49)
        refine y_lc2 (n := (-3)) C0 q_1941 (by decide) dX12_ways_43 (fun w_249 e_250 => ?_)
        replace HE : FT = ((xso SM ad ws_40), w_249.toInt) := HE.trans (by rw [e_250]; rfl)
        rw [hQ]
        exact y_lret C0 h (Fr.tr (Fr.tr (Fr.tr (Fr.up u_4.1 kSM_0 (by decide)) (Fr.mono u_6 (by decide))) (Fr.mono u_23 (by decide))) (Fr.mono u_41 (by decide))) ⟨(congrArg Prod.fst (HE.symm.trans hFT)), (congrArg Prod.snd (HE.symm.trans hFT))⟩ dX12_ways_46
  · -- 11
    replace HE : FT = g5_X12_ways (xso SM ad ws_5) := HE.trans (if_pos c_15)
    refine y_lc2 (n := (-2)) C0 q_1939 (by decide) dX12_ways_14 (fun w_251 e_252 => ?_)
    replace HE : FT = ((xso SM ad ws_5), w_251.toInt) := HE.trans (by rw [e_252]; rfl)
    rw [hQ]
    exact y_lret C0 h (Fr.tr (Fr.up u_4.1 kSM_0 (by decide)) (Fr.mono u_6 (by decide))) ⟨(congrArg Prod.fst (HE.symm.trans hFT)), (congrArg Prod.snd (HE.symm.trans hFT))⟩ dX12_ways_17
noncomputable def g15_X12_reach (s : XS) (x3_47 : Int) : XR := (s, x3_47)
noncomputable def g19_X12_reach (R45 : XS → Int → Int → Int → XR) (s : XS) (a2 : Int) (x3_47 : Int) (x4_46 : Int) : XR := R45 s a2 x3_47 ((x4_46 + 1))
noncomputable def g20_X12_reach (R45 : XS → Int → Int → Int → XR) (s : XS) (a2 : Int) (x3_47 : Int) (x4_46 : Int) : XR := R45 s a2 ((Xior x3_47 (Xishl 1 x4_46))) ((x4_46 + 1))
noncomputable def g18b_X12_reach (R45 : XS → Int → Int → Int → XR) (s : XS) (a2 : Int) (r_71 : Int) (x3_47 : Int) (x4_46 : Int) : XR := if a2 < r_71 then g19_X12_reach R45 s a2 x3_47 x4_46 else g20_X12_reach R45 s a2 x3_47 x4_46
noncomputable def g17c_X12_reach (R45 : XS → Int → Int → Int → XR) (s : XS) (r_71 : Int) (a2 : Int) (x3_47 : Int) (x4_46 : Int) : XR := g18b_X12_reach R45 s a2 r_71 x3_47 x4_46
noncomputable def g16_X12_reach (R45 : XS → Int → Int → Int → XR) (s : XS) (a2 : Int) (x3_47 : Int) (x4_46 : Int) : XR := g17c_X12_reach R45 ((f_X12_leastWithin s x4_46 60).1) (((f_X12_leastWithin s x4_46 60).2)) a2 x3_47 x4_46
noncomputable def g14b_X12_reach (R45 : XS → Int → Int → Int → XR) (s : XS) (r_59 : Int) (x4_46 : Int) (a2 : Int) (x3_47 : Int) : XR := if x4_46 < r_59 then g16_X12_reach R45 s a2 x3_47 x4_46 else g15_X12_reach s x3_47
noncomputable def g13c_X12_reach (R45 : XS → Int → Int → Int → XR) (s : XS) (r_59 : Int) (x4_46 : Int) (a2 : Int) (x3_47 : Int) : XR := g14b_X12_reach R45 s r_59 x4_46 a2 x3_47
noncomputable def g12l_X12_reach (R45 : XS → Int → Int → Int → XR) (s : XS) (a2 : Int) (x3_47 : Int) (x4_46 : Int) : XR := g13c_X12_reach R45 ((f_X12_crossings s).1) (((f_X12_crossings s).2)) x4_46 a2 x3_47
noncomputable def L11_X12_reach (n : Nat) : XS → Int → Int → Int → XR := Nat.rec (motive := fun _ => XS → Int → Int → Int → XR) (fun s _ _ _ => (s, 0)) (fun _ R45 => g12l_X12_reach R45) n
noncomputable def g10c_X12_reach (s : XS) (a2 : Int) : XR := L11_X12_reach (Int.toNat (25 - 0 + 1)) s a2 0 0
noncomputable def g8_X12_reach (s : XS) (a1 : Int) (a2 : Int) : XR := g10c_X12_reach ((f_X12_laysFor s a1 60 0).1) a2
noncomputable def g9_X12_reach (s : XS) : XR := (s, ((-3)))
noncomputable def g7b_X12_reach (s : XS) (r_27 : Int) (a1 : Int) (a2 : Int) : XR := if r_27 = 0 then g9_X12_reach s else g8_X12_reach s a1 a2
noncomputable def g6c_X12_reach (s : XS) (r_27 : Int) (a1 : Int) (a2 : Int) : XR := g7b_X12_reach s r_27 a1 a2
noncomputable def g4_X12_reach (s : XS) (a1 : Int) (a2 : Int) : XR := g6c_X12_reach ((f_X12_within s a2 0 120).1) (((f_X12_within s a2 0 120).2)) a1 a2
noncomputable def g5_X12_reach (s : XS) : XR := (s, ((-2)))
noncomputable def g3b_X12_reach (s : XS) (r_10 : Int) (a1 : Int) (a2 : Int) : XR := if r_10 = 0 then g5_X12_reach s else g4_X12_reach s a1 a2
noncomputable def g2c_X12_reach (s : XS) (r_10 : Int) (a1 : Int) (a2 : Int) : XR := g3b_X12_reach s r_10 a1 a2
noncomputable def g1w_X12_reach (s : XS) (a1 : Int) (a2 : Int) : XR := g2c_X12_reach ((f_X12_isPerson s a1).1) (((f_X12_isPerson s a1).2)) a1 a2
noncomputable def f_X12_reach (s : XS) (a1 : Int) (a2 : Int) : XR := g1w_X12_reach (xup s 0 0 0 0) a1 a2
set_option maxHeartbeats 4000000 in
set_option maxRecDepth 100000 in
theorem c_X12_reach (l : Launch) (G : GG) (Z : RZ) (ad : Nat → Nat) (ws0 : va_W) (hT : Ty G SM ad ws0) (a1 : Int32) (a2 : Int32) (hJ : J ws0) : Mq l yX12_reach cX12_reach 5 (some .int) 7 G Z [.ref (ad 0), .int a1, .int a2] ws0 (PI G SM ad [0, 5, 8, 10, 11, 12] ws0 (fun r u => (xso SM ad u = (f_X12_reach (xso SM ad ws0) a1.toInt a2.toInt).1) ∧ (r.toInt = (f_X12_reach (xso SM ad ws0) a1.toInt a2.toInt).2))) := by
  refine Mq.start (by decide) (Nat.le_of_ble_eq_true rfl) ?_
  intro p e s m below meth c A ls C0 hZ h hl
  have hl : lv_has ls 5 [(0, .ref (ad 0)), (1, .int a1), (2, .int a2)] := hl
  have h : Wt G SM ad A s s.heap [] ws0 := ⟨h, hT⟩
  obtain ⟨args, hargs⟩ : ∃ z, z = ([.ref (ad 0), .int a1, .int a2] : List Value).toArray := ⟨_, rfl⟩
  rw [← hargs] at C0 ⊢
  have C0 : Cx p s m args meth c RX12 cX12_reach 5 (some .int) := C0
  obtain ⟨Q, hQ⟩ : ∃ z, z = MQ below ((PI G SM ad [0, 5, 8, 10, 11, 12] ws0 (fun r u => (xso SM ad u = (f_X12_reach (xso SM ad ws0) a1.toInt a2.toInt).1) ∧ (r.toInt = (f_X12_reach (xso SM ad ws0) a1.toInt a2.toInt).2))) A) args s 0 0 A := ⟨_, rfl⟩
  rw [← hQ]
  obtain ⟨FT, hFT⟩ : ∃ z, z = f_X12_reach (xso SM ad ws0) a1.toInt a2.toInt := ⟨_, rfl⟩
  have HE : FT = f_X12_reach (xso SM ad ws0) a1.toInt a2.toInt := hFT
  refine lv_aload_n C0.1 C0.2.1 dX12_reach_0 rfl (lv_at hl 0 rfl) ?_
  refine y_c1 (n := 0) C0 (by decide) dX12_reach_1 (fun v_1 e_2 => ?_)
  refine np_X12_thrown C0 h kSM_0 q_1438 (le_min v_1) (le_max v_1) dX12_reach_2 (fun H locs ws_3 h u_4 Xu_4 => ?_)
  replace HE : FT = g1w_X12_reach (xso SM ad ws_3) a1.toInt a2.toInt := HE.trans (by rw [Xu_4, e_2]; rfl)
  refine lv_aload_n C0.1 C0.2.1 dX12_reach_5 rfl (lv_at hl 0 rfl) ?_
  refine lv_iload_n C0.1 C0.2.1 dX12_reach_6 rfl (lv_at hl 1 rfl) ?_
  refine y_i2l C0 dX12_reach_7 (fun w_5 e_6 => ?_)
  refine y_ci h (y_rV (As := [.long w_5]) (rest := []) C0 hZ h (c_X12_isPerson l G Z ad _ h.2 w_5 (J.pa hT hJ (Pa.ud u_4.1 (by decide)))) k_X12_isPerson q_1693 q_77 q_1691 kSM_0 rfl rfl rfl hl.1 rfl rfl (Nat.le_of_ble_eq_true rfl) dX12_reach_8 ⟨Nat.le_of_ble_eq_true rfl, Nat.le_of_ble_eq_true rfl⟩ ⟨Nat.le_of_ble_eq_true rfl, Nat.le_of_ble_eq_true rfl⟩) (fun r_10 H locs ws_7 h u_8 p_9 => ?_)
  obtain ⟨e_11, e_12, e_13, e_14, e_15, e_16⟩ := p_9
  replace HE : FT = g2c_X12_reach (xso SM ad ws_7) r_10.toInt a1.toInt a2.toInt := HE.trans (by rw [e_11, e_12, e_6]; rfl)
  replace HE : FT = g3b_X12_reach (xso SM ad ws_7) r_10.toInt a1.toInt a2.toInt := HE.trans rfl
  refine y_if_ne (tgt := 17) C0 dX12_reach_11 (by decide) (fun c_17 => ?_) (fun c_17 => ?_)
  · -- 11
    replace HE : FT = g4_X12_reach (xso SM ad ws_7) a1.toInt a2.toInt := HE.trans (if_neg c_17)
    refine lv_iload_n C0.1 C0.2.1 dX12_reach_17 rfl (lv_at hl 2 rfl) ?_
    refine y_i2l C0 dX12_reach_18 (fun w_18 e_19 => ?_)
    refine y_lc (v := 0) C0 (by decide) dX12_reach_19 (fun w_20 e_21 => ?_)
    refine y_lc2 (n := 120) C0 q_1870 (by decide) dX12_reach_20 (fun w_22 e_23 => ?_)
    refine y_ci h (y_rS (As := [.long w_18, .long w_20, .long w_22]) (rest := []) C0 hZ h (c_X12_within l G Z ad _ h.2 w_18 w_20 w_22) k_X12_within q_1580 q_1579 hl.1 rfl rfl (Nat.le_of_ble_eq_true rfl) dX12_reach_23 ⟨Nat.le_of_ble_eq_true rfl, Nat.le_of_ble_eq_true rfl⟩ ⟨Nat.le_of_ble_eq_true rfl, Nat.le_of_ble_eq_true rfl⟩) (fun r_27 H locs ws_24 h u_25 p_26 => ?_)
    obtain ⟨e_28, e_29, e_30, e_31, e_32⟩ := p_26
    replace HE : FT = g6c_X12_reach (xso SM ad ws_24) r_27.toInt a1.toInt a2.toInt := HE.trans (by rw [e_28, e_29, e_23, e_21, e_19]; rfl)
    replace HE : FT = g7b_X12_reach (xso SM ad ws_24) r_27.toInt a1.toInt a2.toInt := HE.trans rfl
    refine y_if_ne (tgt := 32) C0 dX12_reach_26 (by decide) (fun c_33 => ?_) (fun c_33 => ?_)
    · -- 26
      replace HE : FT = g8_X12_reach (xso SM ad ws_24) a1.toInt a2.toInt := HE.trans (if_neg c_33)
      refine lv_aload_n C0.1 C0.2.1 dX12_reach_32 rfl (lv_at hl 0 rfl) ?_
      refine lv_iload_n C0.1 C0.2.1 dX12_reach_33 rfl (lv_at hl 1 rfl) ?_
      refine y_c2 (n := 60) C0 (by decide) dX12_reach_34 (fun v_34 e_35 => ?_)
      refine y_c1 (n := 0) C0 (by decide) dX12_reach_36 (fun v_36 e_37 => ?_)
      refine y_cv h (y_rV (As := [.int a1, .int v_34, .int v_36]) (rest := []) C0 hZ h (c_X12_laysFor l G Z ad _ h.2 a1 v_34 v_36 (o36_513 e_6 e_13 e_14 e_15 c_17) (o36_514 e_6 e_13 e_14 e_15 c_17) (o36_347 e_35) (o36_348 e_35) (o36_63 e_37) (o36_349 e_37) (J.pa hT hJ (Pa.tr (Pa.tr (Pa.ud u_4.1 (by decide)) (Pa.fr u_8 (by decide))) (Pa.fr u_25 (by decide)))) (Laid.pa (Or.resolve_left e_16 (o36_515 e_6 e_13 e_14 e_15 c_17)) (Pa.tr (Pa.fr u_8 (by decide)) (Pa.fr u_25 (by decide))))) k_X12_laysFor q_1877 q_101 q_1875 kSM_0 rfl rfl rfl hl.1 rfl rfl (Nat.le_of_ble_eq_true rfl) dX12_reach_37 ⟨Nat.le_of_ble_eq_true rfl, Nat.le_of_ble_eq_true rfl⟩ ⟨Nat.le_of_ble_eq_true rfl, Nat.le_of_ble_eq_true rfl⟩) (fun H locs ws_38 h u_39 p_40 => ?_)
      have e_41 := p_40
      replace HE : FT = g10c_X12_reach (xso SM ad ws_38) a2.toInt := HE.trans (by rw [e_41, e_37, e_35]; rfl)
      refine y_c1 (n := 0) C0 (by decide) dX12_reach_40 (fun v_42 e_43 => ?_)
      refine lv_istore_n (lv' := [(3, .int v_42), (0, .ref (ad 0)), (1, .int a1), (2, .int a2)]) C0.1 C0.2.1 dX12_reach_41 rfl hl (by decide) rfl (fun ls hl => ?_)
      refine y_c1 (n := 0) C0 (by decide) dX12_reach_42 (fun v_44 e_45 => ?_)
      refine lv_istore (lv' := [(4, .int v_44), (3, .int v_42), (0, .ref (ad 0)), (1, .int a1), (2, .int a2)]) C0.1 C0.2.1 dX12_reach_43 hl (by decide) rfl (fun ls hl => ?_)
      have lp_50 : ∀ (n_52 : Nat) (x4_46 : Int32) (x3_47 : Int32) (H : Heap) (locs : List Loc) (ls : Array Slot) (ws_48 : va_W), 25 - x4_46.toInt < (n_52 : Int) → 0 ≤ x4_46.toInt → x4_46.toInt ≤ 25 → (FT = L11_X12_reach n_52 (xso SM ad ws_48) a2.toInt x3_47.toInt x4_46.toInt) → Wt G SM ad A s H locs ws_48 → Fr SM [] ws_38 ws_48 → lv_has ls 5 [(4, .int x4_46), (3, .int x3_47), (0, .ref (ad 0)), (1, .int a1), (2, .int a2)] → W p l e (rmd 7 0 0) s m args below meth c H locs 0 0 Q (F0 m 45 ls []) := by
        intro n_52
        induction n_52 with
        | zero => intro x4_46 x3_47 H locs ls ws_48 hn_53 b_54 b_55 HE h hF_49 hl; exact ((o36_2 b_54 b_55 hn_53)).elim
        | succ n_52 ih_51 =>
          intro x4_46 x3_47 H locs ls ws_48 hn_53 b_54 b_55 HE h hF_49 hl
          obtain ⟨R45, hR45⟩ : ∃ z, z = L11_X12_reach n_52 := ⟨_, rfl⟩
          replace HE : FT = g12l_X12_reach R45 (xso SM ad ws_48) a2.toInt x3_47.toInt x4_46.toInt := HE.trans (by rw [hR45]; rfl)
          refine lv_iload C0.1 C0.2.1 dX12_reach_45 (lv_at hl 0 rfl) ?_
          refine lv_aload_n C0.1 C0.2.1 dX12_reach_47 rfl (lv_at hl 2 rfl) ?_
          refine y_ci h (y_rV (As := []) (rest := [.int x4_46]) C0 hZ h (c_X12_crossings l G Z ad _ h.2) k_X12_crossings q_1705 q_79 q_1703 kSM_0 rfl rfl rfl hl.1 rfl rfl (Nat.le_of_ble_eq_true rfl) dX12_reach_48 ⟨Nat.le_of_ble_eq_true rfl, Nat.le_of_ble_eq_true rfl⟩ ⟨Nat.le_of_ble_eq_true rfl, Nat.le_of_ble_eq_true rfl⟩) (fun r_59 H locs ws_56 h u_57 p_58 => ?_)
          obtain ⟨e_60, e_61, e_62, e_63, e_64⟩ := p_58
          replace HE : FT = g13c_X12_reach R45 (xso SM ad ws_56) r_59.toInt x4_46.toInt a2.toInt x3_47.toInt := HE.trans (by rw [e_60, e_61]; rfl)
          replace HE : FT = g14b_X12_reach R45 (xso SM ad ws_56) r_59.toInt x4_46.toInt a2.toInt x3_47.toInt := HE.trans rfl
          refine y_icmp_ge (tgt := 79) C0 dX12_reach_51 (by decide) (fun c_65 => ?_) (fun c_65 => ?_)
          · -- 51
            replace HE : FT = g15_X12_reach (xso SM ad ws_56) x3_47.toInt := HE.trans (if_neg (Int.not_lt.mpr c_65))
            refine lv_iload_n C0.1 C0.2.1 dX12_reach_79 rfl (lv_at hl 1 rfl) ?_
            replace HE : FT = ((xso SM ad ws_56), x3_47.toInt) := HE.trans rfl
            rw [hQ]
            exact y_iret C0 h (Fr.tr (Fr.tr (Fr.tr (Fr.tr (Fr.tr (Fr.up u_4.1 kSM_0 (by decide)) (Fr.mono u_8 (by decide))) (Fr.mono u_25 (by decide))) u_39) (Fr.mono hF_49 (by decide))) (Fr.mono u_57 (by decide))) ⟨(congrArg Prod.fst (HE.symm.trans hFT)), (congrArg Prod.snd (HE.symm.trans hFT))⟩ dX12_reach_80
          · -- 51
            replace HE : FT = g16_X12_reach R45 (xso SM ad ws_56) a2.toInt x3_47.toInt x4_46.toInt := HE.trans (if_pos c_65)
            refine lv_aload_n C0.1 C0.2.1 dX12_reach_54 rfl (lv_at hl 2 rfl) ?_
            refine lv_iload C0.1 C0.2.1 dX12_reach_55 (lv_at hl 0 rfl) ?_
            refine y_c2 (n := 60) C0 (by decide) dX12_reach_57 (fun v_66 e_67 => ?_)
            refine y_ci h (y_rV (As := [.int x4_46, .int v_66]) (rest := []) C0 hZ h (c_X12_leastWithin l G Z ad _ h.2 x4_46 v_66 (o36_516 b_54 b_55 hn_53 e_62 e_63 c_65) (o36_517 b_54 b_55 hn_53 e_62 e_63 c_65) (o36_347 e_67) (o36_348 e_67)) k_X12_leastWithin q_1926 q_111 q_1924 kSM_0 rfl rfl rfl hl.1 rfl rfl (Nat.le_of_ble_eq_true rfl) dX12_reach_59 ⟨Nat.le_of_ble_eq_true rfl, Nat.le_of_ble_eq_true rfl⟩ ⟨Nat.le_of_ble_eq_true rfl, Nat.le_of_ble_eq_true rfl⟩) (fun r_71 H locs ws_68 h u_69 p_70 => ?_)
            obtain ⟨e_72, e_73, e_74⟩ := p_70
            replace HE : FT = g17c_X12_reach R45 (xso SM ad ws_68) r_71.toInt a2.toInt x3_47.toInt x4_46.toInt := HE.trans (by rw [e_72, e_73, e_67]; rfl)
            refine lv_iload_n C0.1 C0.2.1 dX12_reach_62 rfl (lv_at hl 4 rfl) ?_
            replace HE : FT = g18b_X12_reach R45 (xso SM ad ws_68) a2.toInt r_71.toInt x3_47.toInt x4_46.toInt := HE.trans rfl
            refine y_icmp_gt (tgt := 73) C0 dX12_reach_63 (by decide) (fun c_75 => ?_) (fun c_75 => ?_)
            · -- 63
              replace HE : FT = g19_X12_reach R45 (xso SM ad ws_68) a2.toInt x3_47.toInt x4_46.toInt := HE.trans (if_pos c_75)
              refine y_inc (kp := 0) (n := 1) (fun v_76 => [(4, .int v_76), (3, .int x3_47), (0, .ref (ad 0)), (1, .int a1), (2, .int a2)]) C0 hl rfl (by decide) (by decide) (fun _ => rfl) (o36_518 b_54 b_55 hn_53 e_62 e_63 c_65 (le_min x4_46) (le_max x4_46) (le_min r_59) (le_max r_59)) (o36_519 b_54 b_55 hn_53 e_62 e_63 c_65 (le_min x4_46) (le_max x4_46) (le_min r_59) (le_max r_59)) dX12_reach_73 (fun v_76 ls e_77 hl => ?_)
              refine lv_goto (tgt := 45) C0.1 C0.2.1 dX12_reach_76 (by decide) ?_
              exact ih_51 v_76 x3_47 _ _ _ _ (o36_520 b_54 b_55 hn_53 e_62 e_63 c_65 e_77) (o36_521 b_54 b_55 hn_53 e_62 e_63 c_65 e_77) (o36_522 b_54 b_55 hn_53 e_62 e_63 c_65 e_77) (((show FT = R45 (xso SM ad ws_68) a2.toInt x3_47.toInt v_76.toInt from HE.trans (by rw [e_77]; rfl)).trans (by rw [hR45]))) h (Fr.tr (Fr.tr hF_49 u_57) u_69) (lv_sub hl [0, 1, 2, 3, 4] rfl)
            · -- 63
              replace HE : FT = g20_X12_reach R45 (xso SM ad ws_68) a2.toInt x3_47.toInt x4_46.toInt := HE.trans (if_neg (Int.not_lt.mpr c_75))
              refine lv_iload_n C0.1 C0.2.1 dX12_reach_66 rfl (lv_at hl 1 rfl) ?_
              refine y_c1 (n := 1) C0 (by decide) dX12_reach_67 (fun v_78 e_79 => ?_)
              refine lv_iload C0.1 C0.2.1 dX12_reach_68 (lv_at hl 0 rfl) ?_
              refine xr_ishl C0 dX12_reach_70 (fun v_80 e_81 => ?_)
              refine xr_ior C0 dX12_reach_71 (fun v_82 e_83 => ?_)
              refine lv_istore_n (lv' := [(3, .int v_82), (4, .int x4_46), (0, .ref (ad 0)), (1, .int a1), (2, .int a2)]) C0.1 C0.2.1 dX12_reach_72 rfl hl (by decide) rfl (fun ls hl => ?_)
              refine y_inc (kp := 1) (n := 1) (fun v_84 => [(4, .int v_84), (3, .int v_82), (0, .ref (ad 0)), (1, .int a1), (2, .int a2)]) C0 hl rfl (by decide) (by decide) (fun _ => rfl) (o36_518 b_54 b_55 hn_53 e_62 e_63 c_65 (le_min x4_46) (le_max x4_46) (le_min r_59) (le_max r_59)) (o36_519 b_54 b_55 hn_53 e_62 e_63 c_65 (le_min x4_46) (le_max x4_46) (le_min r_59) (le_max r_59)) dX12_reach_73 (fun v_84 ls e_85 hl => ?_)
              refine lv_goto (tgt := 45) C0.1 C0.2.1 dX12_reach_76 (by decide) ?_
              exact ih_51 v_84 v_82 _ _ _ _ (o36_520 b_54 b_55 hn_53 e_62 e_63 c_65 e_85) (o36_521 b_54 b_55 hn_53 e_62 e_63 c_65 e_85) (o36_522 b_54 b_55 hn_53 e_62 e_63 c_65 e_85) (((show FT = R45 (xso SM ad ws_68) a2.toInt v_82.toInt v_84.toInt from HE.trans (by rw [e_85, e_83, e_81, e_79]; rfl)).trans (by rw [hR45]))) h (Fr.tr (Fr.tr hF_49 u_57) u_69) (lv_sub hl [0, 1, 2, 3, 4] rfl)
      exact lp_50 ((25 - v_44.toInt + 1).toNat) v_44 v_42 _ _ _ _ (o36_65 e_45) (o36_63 e_45) (o36_66 e_45) ((show FT = L11_X12_reach (Int.toNat (25 - v_44.toInt + 1)) (xso SM ad ws_38) a2.toInt v_42.toInt v_44.toInt from HE.trans (by rw [e_45, e_43]; rfl))) h Fr.rf (lv_sub hl [0, 1, 2, 3, 4] rfl)
    · -- 26
      replace HE : FT = g9_X12_reach (xso SM ad ws_24) := HE.trans (if_pos c_33)
      refine y_c2 (n := (-3)) C0 (by decide) dX12_reach_29 (fun v_86 e_87 => ?_)
      replace HE : FT = ((xso SM ad ws_24), v_86.toInt) := HE.trans (by rw [e_87]; rfl)
      rw [hQ]
      exact y_iret C0 h (Fr.tr (Fr.tr (Fr.up u_4.1 kSM_0 (by decide)) (Fr.mono u_8 (by decide))) (Fr.mono u_25 (by decide))) ⟨(congrArg Prod.fst (HE.symm.trans hFT)), (congrArg Prod.snd (HE.symm.trans hFT))⟩ dX12_reach_31
  · -- 11
    replace HE : FT = g5_X12_reach (xso SM ad ws_7) := HE.trans (if_pos c_17)
    refine y_c2 (n := (-2)) C0 (by decide) dX12_reach_14 (fun v_88 e_89 => ?_)
    replace HE : FT = ((xso SM ad ws_7), v_88.toInt) := HE.trans (by rw [e_89]; rfl)
    rw [hQ]
    exact y_iret C0 h (Fr.tr (Fr.up u_4.1 kSM_0 (by decide)) (Fr.mono u_8 (by decide))) ⟨(congrArg Prod.fst (HE.symm.trans hFT)), (congrArg Prod.snd (HE.symm.trans hFT))⟩ dX12_reach_16
noncomputable def g11_X12_enough (s : XS) (x2_31 : Int) : XR := (s, x2_31)
noncomputable def g15_X12_enough (R29 : XS → Int → Int → XR) (s : XS) (x2_31 : Int) (x3_30 : Int) : XR := R29 s x2_31 ((x3_30 + 1))
noncomputable def g18_X12_enough (R29 : XS → Int → Int → XR) (s : XS) (x2_31 : Int) (x3_30 : Int) : XR := R29 s x2_31 ((x3_30 + 1))
noncomputable def g19_X12_enough (R29 : XS → Int → Int → XR) (s : XS) (x3_30 : Int) (r_56 : Int) : XR := R29 s r_56 ((x3_30 + 1))
noncomputable def g17b_X12_enough (R29 : XS → Int → Int → XR) (s : XS) (x2_31 : Int) (r_56 : Int) (x3_30 : Int) : XR := if x2_31 < r_56 then g19_X12_enough R29 s x3_30 r_56 else g18_X12_enough R29 s x2_31 x3_30
noncomputable def g16_X12_enough (R29 : XS → Int → Int → XR) (s : XS) (x2_31 : Int) (x3_30 : Int) (r_56 : Int) : XR := g17b_X12_enough R29 s x2_31 r_56 x3_30
noncomputable def g14b_X12_enough (R29 : XS → Int → Int → XR) (s : XS) (r_56 : Int) (x2_31 : Int) (x3_30 : Int) : XR := if r_56 = 1000000000 then g15_X12_enough R29 s x2_31 x3_30 else g16_X12_enough R29 s x2_31 x3_30 r_56
noncomputable def g13c_X12_enough (R29 : XS → Int → Int → XR) (s : XS) (r_56 : Int) (x2_31 : Int) (x3_30 : Int) : XR := g14b_X12_enough R29 s r_56 x2_31 x3_30
noncomputable def g12_X12_enough (R29 : XS → Int → Int → XR) (s : XS) (x2_31 : Int) (x3_30 : Int) : XR := g13c_X12_enough R29 ((f_X12_leastWithin s x3_30 60).1) (((f_X12_leastWithin s x3_30 60).2)) x2_31 x3_30
noncomputable def g10b_X12_enough (R29 : XS → Int → Int → XR) (s : XS) (r_44 : Int) (x3_30 : Int) (x2_31 : Int) : XR := if x3_30 < r_44 then g12_X12_enough R29 s x2_31 x3_30 else g11_X12_enough s x2_31
noncomputable def g9c_X12_enough (R29 : XS → Int → Int → XR) (s : XS) (r_44 : Int) (x3_30 : Int) (x2_31 : Int) : XR := g10b_X12_enough R29 s r_44 x3_30 x2_31
noncomputable def g8l_X12_enough (R29 : XS → Int → Int → XR) (s : XS) (x2_31 : Int) (x3_30 : Int) : XR := g9c_X12_enough R29 ((f_X12_crossings s).1) (((f_X12_crossings s).2)) x3_30 x2_31
noncomputable def L7_X12_enough (n : Nat) : XS → Int → Int → XR := Nat.rec (motive := fun _ => XS → Int → Int → XR) (fun s _ _ => (s, 0)) (fun _ R29 => g8l_X12_enough R29) n
noncomputable def g6c_X12_enough (s : XS) : XR := L7_X12_enough (Int.toNat (25 - 0 + 1)) s 0 0
noncomputable def g4_X12_enough (s : XS) (a1 : Int) : XR := g6c_X12_enough ((f_X12_laysFor s a1 60 0).1)
noncomputable def g5_X12_enough (s : XS) : XR := (s, ((-2)))
noncomputable def g3b_X12_enough (s : XS) (r_10 : Int) (a1 : Int) : XR := if r_10 = 0 then g5_X12_enough s else g4_X12_enough s a1
noncomputable def g2c_X12_enough (s : XS) (r_10 : Int) (a1 : Int) : XR := g3b_X12_enough s r_10 a1
noncomputable def g1w_X12_enough (s : XS) (a1 : Int) : XR := g2c_X12_enough ((f_X12_isPerson s a1).1) (((f_X12_isPerson s a1).2)) a1
noncomputable def f_X12_enough (s : XS) (a1 : Int) : XR := g1w_X12_enough (xup s 0 0 0 0) a1
set_option maxHeartbeats 4000000 in
set_option maxRecDepth 100000 in
theorem c_X12_enough (l : Launch) (G : GG) (Z : RZ) (ad : Nat → Nat) (ws0 : va_W) (hT : Ty G SM ad ws0) (a1 : Int32) (hJ : J ws0) : Mq l yX12_enough cX12_enough 5 (some .int) 7 G Z [.ref (ad 0), .int a1] ws0 (PI G SM ad [0, 5, 8, 10, 11, 12] ws0 (fun r u => (xso SM ad u = (f_X12_enough (xso SM ad ws0) a1.toInt).1) ∧ (r.toInt = (f_X12_enough (xso SM ad ws0) a1.toInt).2) ∧ ((-2) ≤ r.toInt))) := by
  refine Mq.start (by decide) (Nat.le_of_ble_eq_true rfl) ?_
  intro p e s m below meth c A ls C0 hZ h hl
  have hl : lv_has ls 5 [(0, .ref (ad 0)), (1, .int a1)] := hl
  have h : Wt G SM ad A s s.heap [] ws0 := ⟨h, hT⟩
  obtain ⟨args, hargs⟩ : ∃ z, z = ([.ref (ad 0), .int a1] : List Value).toArray := ⟨_, rfl⟩
  rw [← hargs] at C0 ⊢
  have C0 : Cx p s m args meth c RX12 cX12_enough 5 (some .int) := C0
  obtain ⟨Q, hQ⟩ : ∃ z, z = MQ below ((PI G SM ad [0, 5, 8, 10, 11, 12] ws0 (fun r u => (xso SM ad u = (f_X12_enough (xso SM ad ws0) a1.toInt).1) ∧ (r.toInt = (f_X12_enough (xso SM ad ws0) a1.toInt).2) ∧ ((-2) ≤ r.toInt))) A) args s 0 0 A := ⟨_, rfl⟩
  rw [← hQ]
  obtain ⟨FT, hFT⟩ : ∃ z, z = f_X12_enough (xso SM ad ws0) a1.toInt := ⟨_, rfl⟩
  have HE : FT = f_X12_enough (xso SM ad ws0) a1.toInt := hFT
  refine lv_aload_n C0.1 C0.2.1 dX12_enough_0 rfl (lv_at hl 0 rfl) ?_
  refine y_c1 (n := 0) C0 (by decide) dX12_enough_1 (fun v_1 e_2 => ?_)
  refine np_X12_thrown C0 h kSM_0 q_1438 (le_min v_1) (le_max v_1) dX12_enough_2 (fun H locs ws_3 h u_4 Xu_4 => ?_)
  replace HE : FT = g1w_X12_enough (xso SM ad ws_3) a1.toInt := HE.trans (by rw [Xu_4, e_2]; rfl)
  refine lv_aload_n C0.1 C0.2.1 dX12_enough_5 rfl (lv_at hl 0 rfl) ?_
  refine lv_iload_n C0.1 C0.2.1 dX12_enough_6 rfl (lv_at hl 1 rfl) ?_
  refine y_i2l C0 dX12_enough_7 (fun w_5 e_6 => ?_)
  refine y_ci h (y_rV (As := [.long w_5]) (rest := []) C0 hZ h (c_X12_isPerson l G Z ad _ h.2 w_5 (J.pa hT hJ (Pa.ud u_4.1 (by decide)))) k_X12_isPerson q_1693 q_77 q_1691 kSM_0 rfl rfl rfl hl.1 rfl rfl (Nat.le_of_ble_eq_true rfl) dX12_enough_8 ⟨Nat.le_of_ble_eq_true rfl, Nat.le_of_ble_eq_true rfl⟩ ⟨Nat.le_of_ble_eq_true rfl, Nat.le_of_ble_eq_true rfl⟩) (fun r_10 H locs ws_7 h u_8 p_9 => ?_)
  obtain ⟨e_11, e_12, e_13, e_14, e_15, e_16⟩ := p_9
  replace HE : FT = g2c_X12_enough (xso SM ad ws_7) r_10.toInt a1.toInt := HE.trans (by rw [e_11, e_12, e_6]; rfl)
  replace HE : FT = g3b_X12_enough (xso SM ad ws_7) r_10.toInt a1.toInt := HE.trans rfl
  refine y_if_ne (tgt := 17) C0 dX12_enough_11 (by decide) (fun c_17 => ?_) (fun c_17 => ?_)
  · -- 11
    replace HE : FT = g4_X12_enough (xso SM ad ws_7) a1.toInt := HE.trans (if_neg c_17)
    refine lv_aload_n C0.1 C0.2.1 dX12_enough_17 rfl (lv_at hl 0 rfl) ?_
    refine lv_iload_n C0.1 C0.2.1 dX12_enough_18 rfl (lv_at hl 1 rfl) ?_
    refine y_c2 (n := 60) C0 (by decide) dX12_enough_19 (fun v_18 e_19 => ?_)
    refine y_c1 (n := 0) C0 (by decide) dX12_enough_21 (fun v_20 e_21 => ?_)
    refine y_cv h (y_rV (As := [.int a1, .int v_18, .int v_20]) (rest := []) C0 hZ h (c_X12_laysFor l G Z ad _ h.2 a1 v_18 v_20 (o36_513 e_6 e_13 e_14 e_15 c_17) (o36_514 e_6 e_13 e_14 e_15 c_17) (o36_347 e_19) (o36_348 e_19) (o36_63 e_21) (o36_349 e_21) (J.pa hT hJ (Pa.tr (Pa.ud u_4.1 (by decide)) (Pa.fr u_8 (by decide)))) (Laid.pa (Or.resolve_left e_16 (o36_515 e_6 e_13 e_14 e_15 c_17)) (Pa.fr u_8 (by decide)))) k_X12_laysFor q_1877 q_101 q_1875 kSM_0 rfl rfl rfl hl.1 rfl rfl (Nat.le_of_ble_eq_true rfl) dX12_enough_22 ⟨Nat.le_of_ble_eq_true rfl, Nat.le_of_ble_eq_true rfl⟩ ⟨Nat.le_of_ble_eq_true rfl, Nat.le_of_ble_eq_true rfl⟩) (fun H locs ws_22 h u_23 p_24 => ?_)
    have e_25 := p_24
    replace HE : FT = g6c_X12_enough (xso SM ad ws_22) := HE.trans (by rw [e_25, e_21, e_19]; rfl)
    refine y_c1 (n := 0) C0 (by decide) dX12_enough_25 (fun v_26 e_27 => ?_)
    refine lv_istore_n (lv' := [(2, .int v_26), (0, .ref (ad 0)), (1, .int a1)]) C0.1 C0.2.1 dX12_enough_26 rfl hl (by decide) rfl (fun ls hl => ?_)
    refine y_c1 (n := 0) C0 (by decide) dX12_enough_27 (fun v_28 e_29 => ?_)
    refine lv_istore_n (lv' := [(3, .int v_28), (2, .int v_26), (0, .ref (ad 0)), (1, .int a1)]) C0.1 C0.2.1 dX12_enough_28 rfl hl (by decide) rfl (fun ls hl => ?_)
    have lp_34 : ∀ (n_36 : Nat) (x3_30 : Int32) (x2_31 : Int32) (H : Heap) (locs : List Loc) (ls : Array Slot) (ws_32 : va_W), 25 - x3_30.toInt < (n_36 : Int) → 0 ≤ x3_30.toInt → x3_30.toInt ≤ 25 → 0 ≤ x2_31.toInt → (FT = L7_X12_enough n_36 (xso SM ad ws_32) x2_31.toInt x3_30.toInt) → Wt G SM ad A s H locs ws_32 → Fr SM [] ws_22 ws_32 → lv_has ls 5 [(3, .int x3_30), (2, .int x2_31), (0, .ref (ad 0)), (1, .int a1)] → W p l e (rmd 7 0 0) s m args below meth c H locs 0 0 Q (F0 m 29 ls []) := by
      intro n_36
      induction n_36 with
      | zero => intro x3_30 x2_31 H locs ls ws_32 hn_37 b_38 b_39 b_40 HE h hF_33 hl; exact ((o36_2 b_38 b_39 hn_37)).elim
      | succ n_36 ih_35 =>
        intro x3_30 x2_31 H locs ls ws_32 hn_37 b_38 b_39 b_40 HE h hF_33 hl
        obtain ⟨R29, hR29⟩ : ∃ z, z = L7_X12_enough n_36 := ⟨_, rfl⟩
        replace HE : FT = g8l_X12_enough R29 (xso SM ad ws_32) x2_31.toInt x3_30.toInt := HE.trans (by rw [hR29]; rfl)
        refine lv_iload_n C0.1 C0.2.1 dX12_enough_29 rfl (lv_at hl 0 rfl) ?_
        refine lv_aload_n C0.1 C0.2.1 dX12_enough_30 rfl (lv_at hl 2 rfl) ?_
        refine y_ci h (y_rV (As := []) (rest := [.int x3_30]) C0 hZ h (c_X12_crossings l G Z ad _ h.2) k_X12_crossings q_1705 q_79 q_1703 kSM_0 rfl rfl rfl hl.1 rfl rfl (Nat.le_of_ble_eq_true rfl) dX12_enough_31 ⟨Nat.le_of_ble_eq_true rfl, Nat.le_of_ble_eq_true rfl⟩ ⟨Nat.le_of_ble_eq_true rfl, Nat.le_of_ble_eq_true rfl⟩) (fun r_44 H locs ws_41 h u_42 p_43 => ?_)
        obtain ⟨e_45, e_46, e_47, e_48, e_49⟩ := p_43
        replace HE : FT = g9c_X12_enough R29 (xso SM ad ws_41) r_44.toInt x3_30.toInt x2_31.toInt := HE.trans (by rw [e_45, e_46]; rfl)
        replace HE : FT = g10b_X12_enough R29 (xso SM ad ws_41) r_44.toInt x3_30.toInt x2_31.toInt := HE.trans rfl
        refine y_icmp_ge (tgt := 73) C0 dX12_enough_34 (by decide) (fun c_50 => ?_) (fun c_50 => ?_)
        · -- 34
          replace HE : FT = g11_X12_enough (xso SM ad ws_41) x2_31.toInt := HE.trans (if_neg (Int.not_lt.mpr c_50))
          refine lv_iload_n C0.1 C0.2.1 dX12_enough_73 rfl (lv_at hl 1 rfl) ?_
          replace HE : FT = ((xso SM ad ws_41), x2_31.toInt) := HE.trans rfl
          rw [hQ]
          exact y_iret C0 h (Fr.tr (Fr.tr (Fr.tr (Fr.tr (Fr.up u_4.1 kSM_0 (by decide)) (Fr.mono u_8 (by decide))) u_23) (Fr.mono hF_33 (by decide))) (Fr.mono u_42 (by decide))) ⟨(congrArg Prod.fst (HE.symm.trans hFT)), (congrArg Prod.snd (HE.symm.trans hFT)), (o36_523 b_40)⟩ dX12_enough_74
        · -- 34
          replace HE : FT = g12_X12_enough R29 (xso SM ad ws_41) x2_31.toInt x3_30.toInt := HE.trans (if_pos c_50)
          refine lv_aload_n C0.1 C0.2.1 dX12_enough_37 rfl (lv_at hl 2 rfl) ?_
          refine lv_iload_n C0.1 C0.2.1 dX12_enough_38 rfl (lv_at hl 0 rfl) ?_
          refine y_c2 (n := 60) C0 (by decide) dX12_enough_39 (fun v_51 e_52 => ?_)
          refine y_ci h (y_rV (As := [.int x3_30, .int v_51]) (rest := []) C0 hZ h (c_X12_leastWithin l G Z ad _ h.2 x3_30 v_51 (o36_516 b_38 b_39 hn_37 e_47 e_48 c_50) (o36_517 b_38 b_39 hn_37 e_47 e_48 c_50) (o36_347 e_52) (o36_348 e_52)) k_X12_leastWithin q_1926 q_111 q_1924 kSM_0 rfl rfl rfl hl.1 rfl rfl (Nat.le_of_ble_eq_true rfl) dX12_enough_41 ⟨Nat.le_of_ble_eq_true rfl, Nat.le_of_ble_eq_true rfl⟩ ⟨Nat.le_of_ble_eq_true rfl, Nat.le_of_ble_eq_true rfl⟩) (fun r_56 H locs ws_53 h u_54 p_55 => ?_)
          obtain ⟨e_57, e_58, e_59⟩ := p_55
          replace HE : FT = g13c_X12_enough R29 (xso SM ad ws_53) r_56.toInt x2_31.toInt x3_30.toInt := HE.trans (by rw [e_57, e_58, e_52]; rfl)
          refine lv_istore (lv' := [(4, .int r_56), (3, .int x3_30), (2, .int x2_31), (0, .ref (ad 0)), (1, .int a1)]) C0.1 C0.2.1 dX12_enough_44 hl (by decide) rfl (fun ls hl => ?_)
          refine lv_iload C0.1 C0.2.1 dX12_enough_46 (lv_at hl 0 rfl) ?_
          refine y_c5 (n := 1000000000) C0 q_1887 (by decide) dX12_enough_48 (fun v_60 e_61 => ?_)
          replace HE : FT = g14b_X12_enough R29 (xso SM ad ws_53) r_56.toInt x2_31.toInt x3_30.toInt := HE.trans rfl
          refine y_icmp_eq (tgt := 65) C0 dX12_enough_51 (by decide) (fun c_62 => ?_) (fun c_62 => ?_)
          · -- 51
            replace HE : FT = g15_X12_enough R29 (xso SM ad ws_53) x2_31.toInt x3_30.toInt := HE.trans (if_pos (o36_149 e_61 c_62))
            refine lv_iload_n C0.1 C0.2.1 dX12_enough_65 rfl (lv_at hl 2 rfl) ?_
            refine lv_istore_n (lv' := [(2, .int x2_31), (4, .int r_56), (3, .int x3_30), (0, .ref (ad 0)), (1, .int a1)]) C0.1 C0.2.1 dX12_enough_66 rfl hl (by decide) rfl (fun ls hl => ?_)
            refine y_inc (kp := 2) (n := 1) (fun v_63 => [(3, .int v_63), (2, .int x2_31), (4, .int r_56), (0, .ref (ad 0)), (1, .int a1)]) C0 hl rfl (by decide) (by decide) (fun _ => rfl) (o36_518 b_38 b_39 hn_37 e_47 e_48 c_50 (le_min x3_30) (le_max x3_30) (le_min r_44) (le_max r_44)) (o36_519 b_38 b_39 hn_37 e_47 e_48 c_50 (le_min x3_30) (le_max x3_30) (le_min r_44) (le_max r_44)) dX12_enough_67 (fun v_63 ls e_64 hl => ?_)
            refine lv_goto (tgt := 29) C0.1 C0.2.1 dX12_enough_70 (by decide) ?_
            exact ih_35 v_63 x2_31 _ _ _ _ (o36_520 b_38 b_39 hn_37 e_47 e_48 c_50 e_64) (o36_521 b_38 b_39 hn_37 e_47 e_48 c_50 e_64) (o36_522 b_38 b_39 hn_37 e_47 e_48 c_50 e_64) (o36_524 b_40) (((show FT = R29 (xso SM ad ws_53) x2_31.toInt v_63.toInt from HE.trans (by rw [e_64]; rfl)).trans (by rw [hR29]))) h (Fr.tr (Fr.tr hF_33 u_42) u_54) (lv_sub hl [0, 1, 3, 4] rfl)
          · -- 51
            replace HE : FT = g16_X12_enough R29 (xso SM ad ws_53) x2_31.toInt x3_30.toInt r_56.toInt := HE.trans (if_neg (o36_148 e_61 c_62))
            refine lv_iload C0.1 C0.2.1 dX12_enough_54 (lv_at hl 0 rfl) ?_
            refine lv_iload_n C0.1 C0.2.1 dX12_enough_56 rfl (lv_at hl 2 rfl) ?_
            replace HE : FT = g17b_X12_enough R29 (xso SM ad ws_53) x2_31.toInt r_56.toInt x3_30.toInt := HE.trans rfl
            refine y_icmp_le (tgt := 65) C0 dX12_enough_57 (by decide) (fun c_65 => ?_) (fun c_65 => ?_)
            · -- 57
              replace HE : FT = g18_X12_enough R29 (xso SM ad ws_53) x2_31.toInt x3_30.toInt := HE.trans (if_neg (Int.not_lt.mpr c_65))
              refine lv_iload_n C0.1 C0.2.1 dX12_enough_65 rfl (lv_at hl 2 rfl) ?_
              refine lv_istore_n (lv' := [(2, .int x2_31), (4, .int r_56), (3, .int x3_30), (0, .ref (ad 0)), (1, .int a1)]) C0.1 C0.2.1 dX12_enough_66 rfl hl (by decide) rfl (fun ls hl => ?_)
              refine y_inc (kp := 2) (n := 1) (fun v_66 => [(3, .int v_66), (2, .int x2_31), (4, .int r_56), (0, .ref (ad 0)), (1, .int a1)]) C0 hl rfl (by decide) (by decide) (fun _ => rfl) (o36_518 b_38 b_39 hn_37 e_47 e_48 c_50 (le_min x3_30) (le_max x3_30) (le_min r_44) (le_max r_44)) (o36_519 b_38 b_39 hn_37 e_47 e_48 c_50 (le_min x3_30) (le_max x3_30) (le_min r_44) (le_max r_44)) dX12_enough_67 (fun v_66 ls e_67 hl => ?_)
              refine lv_goto (tgt := 29) C0.1 C0.2.1 dX12_enough_70 (by decide) ?_
              exact ih_35 v_66 x2_31 _ _ _ _ (o36_520 b_38 b_39 hn_37 e_47 e_48 c_50 e_67) (o36_521 b_38 b_39 hn_37 e_47 e_48 c_50 e_67) (o36_522 b_38 b_39 hn_37 e_47 e_48 c_50 e_67) (o36_525 b_40 e_61 c_62 c_65) (((show FT = R29 (xso SM ad ws_53) x2_31.toInt v_66.toInt from HE.trans (by rw [e_67]; rfl)).trans (by rw [hR29]))) h (Fr.tr (Fr.tr hF_33 u_42) u_54) (lv_sub hl [0, 1, 3, 4] rfl)
            · -- 57
              replace HE : FT = g19_X12_enough R29 (xso SM ad ws_53) x3_30.toInt r_56.toInt := HE.trans (if_pos c_65)
              refine lv_iload C0.1 C0.2.1 dX12_enough_60 (lv_at hl 0 rfl) ?_
              refine lv_goto (tgt := 66) C0.1 C0.2.1 dX12_enough_62 (by decide) ?_
              refine lv_istore_n (lv' := [(2, .int r_56), (4, .int r_56), (3, .int x3_30), (0, .ref (ad 0)), (1, .int a1)]) C0.1 C0.2.1 dX12_enough_66 rfl hl (by decide) rfl (fun ls hl => ?_)
              refine y_inc (kp := 2) (n := 1) (fun v_68 => [(3, .int v_68), (2, .int r_56), (4, .int r_56), (0, .ref (ad 0)), (1, .int a1)]) C0 hl rfl (by decide) (by decide) (fun _ => rfl) (o36_518 b_38 b_39 hn_37 e_47 e_48 c_50 (le_min x3_30) (le_max x3_30) (le_min r_44) (le_max r_44)) (o36_519 b_38 b_39 hn_37 e_47 e_48 c_50 (le_min x3_30) (le_max x3_30) (le_min r_44) (le_max r_44)) dX12_enough_67 (fun v_68 ls e_69 hl => ?_)
              refine lv_goto (tgt := 29) C0.1 C0.2.1 dX12_enough_70 (by decide) ?_
              exact ih_35 v_68 r_56 _ _ _ _ (o36_520 b_38 b_39 hn_37 e_47 e_48 c_50 e_69) (o36_521 b_38 b_39 hn_37 e_47 e_48 c_50 e_69) (o36_522 b_38 b_39 hn_37 e_47 e_48 c_50 e_69) (o36_526 b_40 e_61 c_62 c_65) (((show FT = R29 (xso SM ad ws_53) r_56.toInt v_68.toInt from HE.trans (by rw [e_69]; rfl)).trans (by rw [hR29]))) h (Fr.tr (Fr.tr hF_33 u_42) u_54) (lv_sub hl [0, 1, 3, 4] rfl)
    exact lp_34 ((25 - v_28.toInt + 1).toNat) v_28 v_26 _ _ _ _ (o36_65 e_29) (o36_63 e_29) (o36_66 e_29) (o36_63 e_27) ((show FT = L7_X12_enough (Int.toNat (25 - v_28.toInt + 1)) (xso SM ad ws_22) v_26.toInt v_28.toInt from HE.trans (by rw [e_29, e_27]; rfl))) h Fr.rf (lv_sub hl [0, 1, 2, 3] rfl)
  · -- 11
    replace HE : FT = g5_X12_enough (xso SM ad ws_7) := HE.trans (if_pos c_17)
    refine y_c2 (n := (-2)) C0 (by decide) dX12_enough_14 (fun v_70 e_71 => ?_)
    replace HE : FT = ((xso SM ad ws_7), v_70.toInt) := HE.trans (by rw [e_71]; rfl)
    rw [hQ]
    exact y_iret C0 h (Fr.tr (Fr.up u_4.1 kSM_0 (by decide)) (Fr.mono u_8 (by decide))) ⟨(congrArg Prod.fst (HE.symm.trans hFT)), (congrArg Prod.snd (HE.symm.trans hFT)), (o36_527 e_71)⟩ dX12_enough_16
noncomputable def g4_X12_byRights (s : XS) : XR := (s, ((-2)))
noncomputable def g23_X12_byRights (s : XS) : XR := (s, ((-1)))
noncomputable def g44_X12_byRights (R83 : XS → Int → Int → XR) (s : XS) (r_44 : Int) (x4_69 : Int) : XR := R83 s r_44 ((x4_69 + 1))
noncomputable def g47_X12_byRights (R83 : XS → Int → Int → XR) (R234 : XS → Int → Int → Int → XR) (s : XS) (r_44 : Int) (x4_69 : Int) (x5_138 : Int) : XR := R234 s r_44 x4_69 ((x5_138 + 1))
noncomputable def g48_X12_byRights (s : XS) (x4_69 : Int) : XR := (s, x4_69)
noncomputable def g46b_X12_byRights (R83 : XS → Int → Int → XR) (R234 : XS → Int → Int → Int → XR) (s : XS) (v_158 : Int) (r_44 : Int) (x4_69 : Int) (x5_138 : Int) : XR := if v_158 = 0 then g47_X12_byRights R83 R234 s r_44 x4_69 x5_138 else g48_X12_byRights s x4_69
noncomputable def g45_X12_byRights (R83 : XS → Int → Int → XR) (R234 : XS → Int → Int → Int → XR) (s : XS) (r_44 : Int) (x4_69 : Int) (x5_138 : Int) : XR := g46b_X12_byRights R83 R234 s ((s 1 16 (Int.toNat ((4 * r_44) + x5_138)))) r_44 x4_69 x5_138
noncomputable def g43b_X12_byRights (R83 : XS → Int → Int → XR) (R234 : XS → Int → Int → Int → XR) (s : XS) (x5_138 : Int) (r_44 : Int) (x4_69 : Int) : XR := if x5_138 < 4 then g45_X12_byRights R83 R234 s r_44 x4_69 x5_138 else g44_X12_byRights R83 s r_44 x4_69
noncomputable def g42l_X12_byRights (R83 : XS → Int → Int → XR) (R234 : XS → Int → Int → Int → XR) (s : XS) (r_44 : Int) (x4_69 : Int) (x5_138 : Int) : XR := g43b_X12_byRights R83 R234 s x5_138 r_44 x4_69
noncomputable def L41_X12_byRights (R83 : XS → Int → Int → XR) (n : Nat) : XS → Int → Int → Int → XR := Nat.rec (motive := fun _ => XS → Int → Int → Int → XR) (fun s _ _ _ => (s, 0)) (fun _ R234 => g42l_X12_byRights R83 R234) n
noncomputable def g39_X12_byRights (R83 : XS → Int → Int → XR) (s : XS) (r_44 : Int) (x4_69 : Int) : XR := L41_X12_byRights R83 (Int.toNat (4 - 0 + 1)) s r_44 x4_69 0
noncomputable def g49w_X12_byRights (R83 : XS → Int → Int → XR) (R204 : XS → Int → Int → Int → XR) (s : XS) (r_44 : Int) (x4_69 : Int) (x5_124 : Int) : XR := R204 s r_44 x4_69 ((x5_124 + 1))
noncomputable def g40_X12_byRights (R83 : XS → Int → Int → XR) (R204 : XS → Int → Int → Int → XR) (s : XS) (r_44 : Int) (x4_69 : Int) (x5_124 : Int) : XR := g49w_X12_byRights R83 R204 (xup s 1 16 (Int.toNat x5_124) ((s 1 17 (Int.toNat x5_124)))) r_44 x4_69 x5_124
noncomputable def g38b_X12_byRights (R83 : XS → Int → Int → XR) (R204 : XS → Int → Int → Int → XR) (s : XS) (x5_124 : Int) (r_44 : Int) (x4_69 : Int) : XR := if x5_124 < 100 then g40_X12_byRights R83 R204 s r_44 x4_69 x5_124 else g39_X12_byRights R83 s r_44 x4_69
noncomputable def g37l_X12_byRights (R83 : XS → Int → Int → XR) (R204 : XS → Int → Int → Int → XR) (s : XS) (r_44 : Int) (x4_69 : Int) (x5_124 : Int) : XR := g38b_X12_byRights R83 R204 s x5_124 r_44 x4_69
noncomputable def L36_X12_byRights (R83 : XS → Int → Int → XR) (n : Nat) : XS → Int → Int → Int → XR := Nat.rec (motive := fun _ => XS → Int → Int → Int → XR) (fun s _ _ _ => (s, 0)) (fun _ R204 => g37l_X12_byRights R83 R204) n
noncomputable def g34_X12_byRights (R83 : XS → Int → Int → XR) (s : XS) (r_44 : Int) (x4_69 : Int) : XR := L36_X12_byRights R83 (Int.toNat (100 - 0 + 1)) s r_44 x4_69 0
noncomputable def g53_X12_byRights (R83 : XS → Int → Int → XR) (R117 : XS → Int → Int → Int → XR) (s : XS) (r_44 : Int) (x4_69 : Int) (x5_99 : Int) : XR := R117 s r_44 x4_69 ((x5_99 + 1))
noncomputable def g56_X12_byRights (R83 : XS → Int → Int → XR) (R117 : XS → Int → Int → Int → XR) (s : XS) (r_44 : Int) (x4_69 : Int) (x5_99 : Int) : XR := R117 s r_44 x4_69 ((x5_99 + 1))
noncomputable def g61_X12_byRights (R83 : XS → Int → Int → XR) (R117 : XS → Int → Int → Int → XR) (R131 : XS → Int → Int → Int → Int → XR) (s : XS) (r_44 : Int) (x4_69 : Int) (x5_99 : Int) (x6_176 : Int) : XR := R131 s r_44 x4_69 x5_99 ((x6_176 + 1))
noncomputable def g63w_X12_byRights (R83 : XS → Int → Int → XR) (R117 : XS → Int → Int → Int → XR) (R131 : XS → Int → Int → Int → Int → XR) (s : XS) (r_44 : Int) (x4_69 : Int) (x5_99 : Int) (x6_176 : Int) : XR := R131 s r_44 x4_69 x5_99 ((x6_176 + 1))
noncomputable def g62_X12_byRights (R83 : XS → Int → Int → XR) (R117 : XS → Int → Int → Int → XR) (R131 : XS → Int → Int → Int → Int → XR) (s : XS) (r_44 : Int) (x4_69 : Int) (x5_99 : Int) (x6_176 : Int) (r_204 : Int) (r_217 : Int) : XR := g63w_X12_byRights R83 R117 R131 (xup s 1 17 (Int.toNat ((4 * r_217) + r_204)) (1)) r_44 x4_69 x5_99 x6_176
noncomputable def g60b_X12_byRights (R83 : XS → Int → Int → XR) (R117 : XS → Int → Int → Int → XR) (R131 : XS → Int → Int → Int → Int → XR) (s : XS) (r_217 : Int) (r_44 : Int) (x4_69 : Int) (x5_99 : Int) (x6_176 : Int) (r_204 : Int) : XR := if r_217 = ((-1)) then g61_X12_byRights R83 R117 R131 s r_44 x4_69 x5_99 x6_176 else g62_X12_byRights R83 R117 R131 s r_44 x4_69 x5_99 x6_176 r_204 r_217
noncomputable def g59c_X12_byRights (R83 : XS → Int → Int → XR) (R117 : XS → Int → Int → Int → XR) (R131 : XS → Int → Int → Int → Int → XR) (s : XS) (r_217 : Int) (r_44 : Int) (x4_69 : Int) (x5_99 : Int) (x6_176 : Int) (r_204 : Int) : XR := g60b_X12_byRights R83 R117 R131 s r_217 r_44 x4_69 x5_99 x6_176 r_204
noncomputable def g58c_X12_byRights (R83 : XS → Int → Int → XR) (R117 : XS → Int → Int → Int → XR) (R131 : XS → Int → Int → Int → Int → XR) (s : XS) (r_204 : Int) (r_44 : Int) (x4_69 : Int) (x5_99 : Int) (x6_176 : Int) : XR := g59c_X12_byRights R83 R117 R131 ((f_X12_streetFrom s (x5_99 / 4) r_204).1) (((f_X12_streetFrom s (x5_99 / 4) r_204).2)) r_44 x4_69 x5_99 x6_176 r_204
noncomputable def g57_X12_byRights (R83 : XS → Int → Int → XR) (R117 : XS → Int → Int → Int → XR) (R131 : XS → Int → Int → Int → Int → XR) (s : XS) (r_44 : Int) (x4_69 : Int) (x5_99 : Int) (x6_176 : Int) : XR := g58c_X12_byRights R83 R117 R131 ((f_X12_directionBy s (x5_99 % 4) x6_176).1) (((f_X12_directionBy s (x5_99 % 4) x6_176).2)) r_44 x4_69 x5_99 x6_176
noncomputable def g55b_X12_byRights (R83 : XS → Int → Int → XR) (R117 : XS → Int → Int → Int → XR) (R131 : XS → Int → Int → Int → Int → XR) (s : XS) (v_190 : Int) (r_44 : Int) (x4_69 : Int) (x5_99 : Int) (x6_176 : Int) : XR := if v_190 = 0 then g56_X12_byRights R83 R117 s r_44 x4_69 x5_99 else g57_X12_byRights R83 R117 R131 s r_44 x4_69 x5_99 x6_176
noncomputable def g54_X12_byRights (R83 : XS → Int → Int → XR) (R117 : XS → Int → Int → Int → XR) (R131 : XS → Int → Int → Int → Int → XR) (s : XS) (r_44 : Int) (x4_69 : Int) (x5_99 : Int) (x6_176 : Int) : XR := g55b_X12_byRights R83 R117 R131 s ((s 1 16 (Int.toNat x5_99))) r_44 x4_69 x5_99 x6_176
noncomputable def g52b_X12_byRights (R83 : XS → Int → Int → XR) (R117 : XS → Int → Int → Int → XR) (R131 : XS → Int → Int → Int → Int → XR) (s : XS) (x6_176 : Int) (r_44 : Int) (x4_69 : Int) (x5_99 : Int) : XR := if x6_176 < 2 then g54_X12_byRights R83 R117 R131 s r_44 x4_69 x5_99 x6_176 else g53_X12_byRights R83 R117 s r_44 x4_69 x5_99
noncomputable def g51l_X12_byRights (R83 : XS → Int → Int → XR) (R117 : XS → Int → Int → Int → XR) (R131 : XS → Int → Int → Int → Int → XR) (s : XS) (r_44 : Int) (x4_69 : Int) (x5_99 : Int) (x6_176 : Int) : XR := g52b_X12_byRights R83 R117 R131 s x6_176 r_44 x4_69 x5_99
noncomputable def L50_X12_byRights (R83 : XS → Int → Int → XR) (R117 : XS → Int → Int → Int → XR) (n : Nat) : XS → Int → Int → Int → Int → XR := Nat.rec (motive := fun _ => XS → Int → Int → Int → Int → XR) (fun s _ _ _ _ => (s, 0)) (fun _ R131 => g51l_X12_byRights R83 R117 R131) n
noncomputable def g35_X12_byRights (R83 : XS → Int → Int → XR) (R117 : XS → Int → Int → Int → XR) (s : XS) (r_44 : Int) (x4_69 : Int) (x5_99 : Int) : XR := L50_X12_byRights R83 R117 (Int.toNat (2 - 0 + 1)) s r_44 x4_69 x5_99 0
noncomputable def g33b_X12_byRights (R83 : XS → Int → Int → XR) (R117 : XS → Int → Int → Int → XR) (s : XS) (v_119 : Int) (x5_99 : Int) (r_44 : Int) (x4_69 : Int) : XR := if x5_99 < v_119 then g35_X12_byRights R83 R117 s r_44 x4_69 x5_99 else g34_X12_byRights R83 s r_44 x4_69
noncomputable def g32c_X12_byRights (R83 : XS → Int → Int → XR) (R117 : XS → Int → Int → Int → XR) (s : XS) (r_113 : Int) (x5_99 : Int) (r_44 : Int) (x4_69 : Int) : XR := g33b_X12_byRights R83 R117 s ((4 * r_113)) x5_99 r_44 x4_69
noncomputable def g31l_X12_byRights (R83 : XS → Int → Int → XR) (R117 : XS → Int → Int → Int → XR) (s : XS) (r_44 : Int) (x4_69 : Int) (x5_99 : Int) : XR := g32c_X12_byRights R83 R117 ((f_X12_crossings s).1) (((f_X12_crossings s).2)) x5_99 r_44 x4_69
noncomputable def L30_X12_byRights (R83 : XS → Int → Int → XR) (n : Nat) : XS → Int → Int → Int → XR := Nat.rec (motive := fun _ => XS → Int → Int → Int → XR) (fun s _ _ _ => (s, 0)) (fun _ R117 => g31l_X12_byRights R83 R117) n
noncomputable def g28_X12_byRights (R83 : XS → Int → Int → XR) (s : XS) (r_44 : Int) (x4_69 : Int) : XR := L30_X12_byRights R83 (Int.toNat (100 - 0 + 1)) s r_44 x4_69 0
noncomputable def g64w_X12_byRights (R83 : XS → Int → Int → XR) (R93 : XS → Int → Int → Int → XR) (s : XS) (r_44 : Int) (x4_69 : Int) (x5_85 : Int) : XR := R93 s r_44 x4_69 ((x5_85 + 1))
noncomputable def g29_X12_byRights (R83 : XS → Int → Int → XR) (R93 : XS → Int → Int → Int → XR) (s : XS) (r_44 : Int) (x4_69 : Int) (x5_85 : Int) : XR := g64w_X12_byRights R83 R93 (xup s 1 17 (Int.toNat x5_85) (0)) r_44 x4_69 x5_85
noncomputable def g27b_X12_byRights (R83 : XS → Int → Int → XR) (R93 : XS → Int → Int → Int → XR) (s : XS) (x5_85 : Int) (r_44 : Int) (x4_69 : Int) : XR := if x5_85 < 100 then g29_X12_byRights R83 R93 s r_44 x4_69 x5_85 else g28_X12_byRights R83 s r_44 x4_69
noncomputable def g26l_X12_byRights (R83 : XS → Int → Int → XR) (R93 : XS → Int → Int → Int → XR) (s : XS) (r_44 : Int) (x4_69 : Int) (x5_85 : Int) : XR := g27b_X12_byRights R83 R93 s x5_85 r_44 x4_69
noncomputable def L25_X12_byRights (R83 : XS → Int → Int → XR) (n : Nat) : XS → Int → Int → Int → XR := Nat.rec (motive := fun _ => XS → Int → Int → Int → XR) (fun s _ _ _ => (s, 0)) (fun _ R93 => g26l_X12_byRights R83 R93) n
noncomputable def g24_X12_byRights (R83 : XS → Int → Int → XR) (s : XS) (r_44 : Int) (x4_69 : Int) : XR := L25_X12_byRights R83 (Int.toNat (100 - 0 + 1)) s r_44 x4_69 0
noncomputable def g22b_X12_byRights (R83 : XS → Int → Int → XR) (s : XS) (x4_69 : Int) (r_44 : Int) : XR := if 60 < x4_69 then g23_X12_byRights s else g24_X12_byRights R83 s r_44 x4_69
noncomputable def g21l_X12_byRights (R83 : XS → Int → Int → XR) (s : XS) (r_44 : Int) (x4_69 : Int) : XR := g22b_X12_byRights R83 s x4_69 r_44
noncomputable def L20_X12_byRights (n : Nat) : XS → Int → Int → XR := Nat.rec (motive := fun _ => XS → Int → Int → XR) (fun s _ _ => (s, 0)) (fun _ R83 => g21l_X12_byRights R83) n
noncomputable def g18_X12_byRights (s : XS) (r_44 : Int) : XR := L20_X12_byRights (Int.toNat (61 - 1 + 1)) s r_44 1
noncomputable def g68w_X12_byRights (R45 : XS → Int → Int → Int → Int → XR) (s : XS) (a1 : Int) (a2 : Int) (r_44 : Int) (x4_55 : Int) : XR := R45 s a1 a2 r_44 ((x4_55 + 1))
noncomputable def g66_X12_byRights (R45 : XS → Int → Int → Int → Int → XR) (s : XS) (x4_55 : Int) (a1 : Int) (a2 : Int) (r_44 : Int) : XR := g68w_X12_byRights R45 (xup s 1 16 (Int.toNat x4_55) (0)) a1 a2 r_44 x4_55
noncomputable def g69w_X12_byRights (R45 : XS → Int → Int → Int → Int → XR) (s : XS) (a1 : Int) (a2 : Int) (r_44 : Int) (x4_55 : Int) : XR := R45 s a1 a2 r_44 ((x4_55 + 1))
noncomputable def g67_X12_byRights (R45 : XS → Int → Int → Int → Int → XR) (s : XS) (x4_55 : Int) (a1 : Int) (a2 : Int) (r_44 : Int) : XR := g69w_X12_byRights R45 (xup s 1 16 (Int.toNat x4_55) (1)) a1 a2 r_44 x4_55
noncomputable def g65b_X12_byRights (R45 : XS → Int → Int → Int → Int → XR) (s : XS) (v_252 : Int) (x4_55 : Int) (a1 : Int) (a2 : Int) (r_44 : Int) : XR := if x4_55 = v_252 then g67_X12_byRights R45 s x4_55 a1 a2 r_44 else g66_X12_byRights R45 s x4_55 a1 a2 r_44
noncomputable def g19_X12_byRights (R45 : XS → Int → Int → Int → Int → XR) (s : XS) (a1 : Int) (a2 : Int) (r_44 : Int) (x4_55 : Int) : XR := g65b_X12_byRights R45 s (((4 * a1) + a2)) x4_55 a1 a2 r_44
noncomputable def g17b_X12_byRights (R45 : XS → Int → Int → Int → Int → XR) (s : XS) (x4_55 : Int) (a1 : Int) (a2 : Int) (r_44 : Int) : XR := if x4_55 < 100 then g19_X12_byRights R45 s a1 a2 r_44 x4_55 else g18_X12_byRights s r_44
noncomputable def g16l_X12_byRights (R45 : XS → Int → Int → Int → Int → XR) (s : XS) (a1 : Int) (a2 : Int) (r_44 : Int) (x4_55 : Int) : XR := g17b_X12_byRights R45 s x4_55 a1 a2 r_44
noncomputable def L15_X12_byRights (n : Nat) : XS → Int → Int → Int → Int → XR := Nat.rec (motive := fun _ => XS → Int → Int → Int → Int → XR) (fun s _ _ _ _ => (s, 0)) (fun _ R45 => g16l_X12_byRights R45) n
noncomputable def g13_X12_byRights (s : XS) (a1 : Int) (a2 : Int) (r_44 : Int) : XR := L15_X12_byRights (Int.toNat (100 - 0 + 1)) s a1 a2 r_44 0
noncomputable def g14_X12_byRights (s : XS) : XR := (s, ((-1)))
noncomputable def g12b_X12_byRights (s : XS) (r_44 : Int) (a1 : Int) (a2 : Int) : XR := if r_44 = ((-1)) then g14_X12_byRights s else g13_X12_byRights s a1 a2 r_44
noncomputable def g11c_X12_byRights (s : XS) (r_44 : Int) (a1 : Int) (a2 : Int) : XR := g12b_X12_byRights s r_44 a1 a2
noncomputable def g10c_X12_byRights (s : XS) (r_35 : Int) (a1 : Int) (a2 : Int) : XR := g11c_X12_byRights ((f_X12_streetFrom s a1 r_35).1) (((f_X12_streetFrom s a1 r_35).2)) a1 a2
noncomputable def g8_X12_byRights (s : XS) (a1 : Int) (a2 : Int) : XR := g10c_X12_byRights ((f_X12_directionBy s a2 2).1) (((f_X12_directionBy s a2 2).2)) a1 a2
noncomputable def g9_X12_byRights (s : XS) : XR := (s, ((-2)))
noncomputable def g7b_X12_byRights (s : XS) (r_23 : Int) (a1 : Int) (a2 : Int) : XR := if r_23 = 0 then g9_X12_byRights s else g8_X12_byRights s a1 a2
noncomputable def g6c_X12_byRights (s : XS) (r_23 : Int) (a1 : Int) (a2 : Int) : XR := g7b_X12_byRights s r_23 a1 a2
noncomputable def g5_X12_byRights (s : XS) (a1 : Int) (a2 : Int) : XR := g6c_X12_byRights ((f_X12_isDirection s a2).1) (((f_X12_isDirection s a2).2)) a1 a2
noncomputable def g3b_X12_byRights (s : XS) (r_10 : Int) (a1 : Int) (a2 : Int) : XR := if r_10 = 0 then g4_X12_byRights s else g5_X12_byRights s a1 a2
noncomputable def g2c_X12_byRights (s : XS) (r_10 : Int) (a1 : Int) (a2 : Int) : XR := g3b_X12_byRights s r_10 a1 a2
noncomputable def g1w_X12_byRights (s : XS) (a1 : Int) (a2 : Int) : XR := g2c_X12_byRights ((f_X12_isCrossing s a1).1) (((f_X12_isCrossing s a1).2)) a1 a2
noncomputable def f_X12_byRights (s : XS) (a1 : Int) (a2 : Int) : XR := g1w_X12_byRights (xup s 0 0 0 0) a1 a2
set_option maxHeartbeats 4000000 in
set_option maxRecDepth 100000 in
theorem c_X12_byRights (l : Launch) (G : GG) (Z : RZ) (ad : Nat → Nat) (ws0 : va_W) (hT : Ty G SM ad ws0) (a1 : Int32) (a2 : Int32) (hJ : J ws0) : Mq l yX12_byRights cX12_byRights 9 (some .int) 4 G Z [.ref (ad 0), .int a1, .int a2] ws0 (PI G SM ad [0, 16, 17] ws0 (fun r u => (xso SM ad u = (f_X12_byRights (xso SM ad ws0) a1.toInt a2.toInt).1) ∧ (r.toInt = (f_X12_byRights (xso SM ad ws0) a1.toInt a2.toInt).2) ∧ ((-2) ≤ r.toInt) ∧ (r.toInt ≤ 60))) := by
  refine Mq.start (by decide) (Nat.le_of_ble_eq_true rfl) ?_
  intro p e s m below meth c A ls C0 hZ h hl
  have hl : lv_has ls 9 [(0, .ref (ad 0)), (1, .int a1), (2, .int a2)] := hl
  have h : Wt G SM ad A s s.heap [] ws0 := ⟨h, hT⟩
  obtain ⟨args, hargs⟩ : ∃ z, z = ([.ref (ad 0), .int a1, .int a2] : List Value).toArray := ⟨_, rfl⟩
  rw [← hargs] at C0 ⊢
  have C0 : Cx p s m args meth c RX12 cX12_byRights 9 (some .int) := C0
  obtain ⟨Q, hQ⟩ : ∃ z, z = MQ below ((PI G SM ad [0, 16, 17] ws0 (fun r u => (xso SM ad u = (f_X12_byRights (xso SM ad ws0) a1.toInt a2.toInt).1) ∧ (r.toInt = (f_X12_byRights (xso SM ad ws0) a1.toInt a2.toInt).2) ∧ ((-2) ≤ r.toInt) ∧ (r.toInt ≤ 60))) A) args s 0 0 A := ⟨_, rfl⟩
  rw [← hQ]
  obtain ⟨FT, hFT⟩ : ∃ z, z = f_X12_byRights (xso SM ad ws0) a1.toInt a2.toInt := ⟨_, rfl⟩
  have HE : FT = f_X12_byRights (xso SM ad ws0) a1.toInt a2.toInt := hFT
  refine lv_aload_n C0.1 C0.2.1 dX12_byRights_0 rfl (lv_at hl 0 rfl) ?_
  refine y_c1 (n := 0) C0 (by decide) dX12_byRights_1 (fun v_1 e_2 => ?_)
  refine np_X12_thrown C0 h kSM_0 q_1438 (le_min v_1) (le_max v_1) dX12_byRights_2 (fun H locs ws_3 h u_4 Xu_4 => ?_)
  replace HE : FT = g1w_X12_byRights (xso SM ad ws_3) a1.toInt a2.toInt := HE.trans (by rw [Xu_4, e_2]; rfl)
  refine lv_aload_n C0.1 C0.2.1 dX12_byRights_5 rfl (lv_at hl 0 rfl) ?_
  refine lv_iload_n C0.1 C0.2.1 dX12_byRights_6 rfl (lv_at hl 1 rfl) ?_
  refine y_i2l C0 dX12_byRights_7 (fun w_5 e_6 => ?_)
  refine y_ci h (y_rV (As := [.long w_5]) (rest := []) C0 hZ h (c_X12_isCrossing l G Z ad _ h.2 w_5) k_X12_isCrossing q_1701 q_78 q_1699 kSM_0 rfl rfl rfl hl.1 rfl rfl (Nat.le_of_ble_eq_true rfl) dX12_byRights_8 ⟨Nat.le_of_ble_eq_true rfl, Nat.le_of_ble_eq_true rfl⟩ ⟨Nat.le_of_ble_eq_true rfl, Nat.le_of_ble_eq_true rfl⟩) (fun r_10 H locs ws_7 h u_8 p_9 => ?_)
  obtain ⟨e_11, e_12, e_13, e_14, e_15, e_16⟩ := p_9
  replace HE : FT = g2c_X12_byRights (xso SM ad ws_7) r_10.toInt a1.toInt a2.toInt := HE.trans (by rw [e_11, e_12, e_6]; rfl)
  replace HE : FT = g3b_X12_byRights (xso SM ad ws_7) r_10.toInt a1.toInt a2.toInt := HE.trans rfl
  refine y_if_eq (tgt := 21) C0 dX12_byRights_11 (by decide) (fun c_17 => ?_) (fun c_17 => ?_)
  · -- 11
    replace HE : FT = g4_X12_byRights (xso SM ad ws_7) := HE.trans (if_pos c_17)
    refine y_c2 (n := (-2)) C0 (by decide) dX12_byRights_21 (fun v_18 e_19 => ?_)
    replace HE : FT = ((xso SM ad ws_7), v_18.toInt) := HE.trans (by rw [e_19]; rfl)
    rw [hQ]
    exact y_iret C0 h (Fr.tr (Fr.up u_4.1 kSM_0 (by decide)) (Fr.mono u_8 (by decide))) ⟨(congrArg Prod.fst (HE.symm.trans hFT)), (congrArg Prod.snd (HE.symm.trans hFT)), (o36_527 e_19), (o36_361 e_19)⟩ dX12_byRights_23
  · -- 11
    replace HE : FT = g5_X12_byRights (xso SM ad ws_7) a1.toInt a2.toInt := HE.trans (if_neg c_17)
    refine lv_iload_n C0.1 C0.2.1 dX12_byRights_14 rfl (lv_at hl 2 rfl) ?_
    refine y_ci h (y_rS (As := [.int a2]) (rest := []) C0 hZ h (c_X12_isDirection l G Z ad _ h.2 a2) k_X12_isDirection q_1708 q_1707 hl.1 rfl rfl (Nat.le_of_ble_eq_true rfl) dX12_byRights_15 ⟨Nat.le_of_ble_eq_true rfl, Nat.le_of_ble_eq_true rfl⟩ ⟨Nat.le_of_ble_eq_true rfl, Nat.le_of_ble_eq_true rfl⟩) (fun r_23 H locs ws_20 h u_21 p_22 => ?_)
    obtain ⟨e_24, e_25, e_26, e_27, e_28⟩ := p_22
    replace HE : FT = g6c_X12_byRights (xso SM ad ws_20) r_23.toInt a1.toInt a2.toInt := HE.trans (by rw [e_24, e_25]; rfl)
    replace HE : FT = g7b_X12_byRights (xso SM ad ws_20) r_23.toInt a1.toInt a2.toInt := HE.trans rfl
    refine y_if_ne (tgt := 24) C0 dX12_byRights_18 (by decide) (fun c_29 => ?_) (fun c_29 => ?_)
    · -- 18
      replace HE : FT = g8_X12_byRights (xso SM ad ws_20) a1.toInt a2.toInt := HE.trans (if_neg c_29)
      refine lv_aload_n C0.1 C0.2.1 dX12_byRights_24 rfl (lv_at hl 0 rfl) ?_
      refine lv_iload_n C0.1 C0.2.1 dX12_byRights_25 rfl (lv_at hl 1 rfl) ?_
      refine lv_iload_n C0.1 C0.2.1 dX12_byRights_26 rfl (lv_at hl 2 rfl) ?_
      refine y_c1 (n := 2) C0 (by decide) dX12_byRights_27 (fun v_30 e_31 => ?_)
      refine y_ci h (y_rS (As := [.int a2, .int v_30]) (rest := [.int a1, .ref (ad 0)]) C0 hZ h (c_X12_directionBy l G Z ad _ h.2 a2 v_30 (o36_528 e_26 e_27 e_28 c_29) (o36_529 e_26 e_27 e_28 c_29) (o36_530 e_31) (o36_531 e_31)) k_X12_directionBy q_1761 q_1760 hl.1 rfl rfl (Nat.le_of_ble_eq_true rfl) dX12_byRights_28 ⟨Nat.le_of_ble_eq_true rfl, Nat.le_of_ble_eq_true rfl⟩ ⟨Nat.le_of_ble_eq_true rfl, Nat.le_of_ble_eq_true rfl⟩) (fun r_35 H locs ws_32 h u_33 p_34 => ?_)
      obtain ⟨e_36, e_37, e_38, e_39, e_40⟩ := p_34
      replace HE : FT = g10c_X12_byRights (xso SM ad ws_32) r_35.toInt a1.toInt a2.toInt := HE.trans (by rw [e_36, e_37, e_31]; rfl)
      refine y_ci h (y_rV (As := [.int a1, .int r_35]) (rest := []) C0 hZ h (c_X12_streetFrom l G Z ad _ h.2 a1 r_35 (o36_532 e_6 e_13 e_14 e_15 c_17) (o36_533 e_6 e_13 e_14 e_15 c_17) (o36_69 e_38 e_39) (o36_70 e_38 e_39) (Laid.pa (Or.resolve_left e_16 (o36_534 e_6 e_13 e_14 e_15 c_17)) (Pa.tr (Pa.tr (Pa.fr u_8 (by decide)) (Pa.fr u_21 (by decide))) (Pa.fr u_33 (by decide))))) k_X12_streetFrom q_1713 q_80 q_1711 kSM_0 rfl rfl rfl hl.1 rfl rfl (Nat.le_of_ble_eq_true rfl) dX12_byRights_31 ⟨Nat.le_of_ble_eq_true rfl, Nat.le_of_ble_eq_true rfl⟩ ⟨Nat.le_of_ble_eq_true rfl, Nat.le_of_ble_eq_true rfl⟩) (fun r_44 H locs ws_41 h u_42 p_43 => ?_)
      obtain ⟨e_45, e_46, e_47, e_48, e_49⟩ := p_43
      replace HE : FT = g11c_X12_byRights (xso SM ad ws_41) r_44.toInt a1.toInt a2.toInt := HE.trans (by rw [e_45, e_46]; rfl)
      refine lv_istore_n (lv' := [(3, .int r_44), (0, .ref (ad 0)), (1, .int a1), (2, .int a2)]) C0.1 C0.2.1 dX12_byRights_34 rfl hl (by decide) rfl (fun ls hl => ?_)
      refine lv_iload_n C0.1 C0.2.1 dX12_byRights_35 rfl (lv_at hl 0 rfl) ?_
      refine y_c1 (n := (-1)) C0 (by decide) dX12_byRights_36 (fun v_50 e_51 => ?_)
      replace HE : FT = g12b_X12_byRights (xso SM ad ws_41) r_44.toInt a1.toInt a2.toInt := HE.trans rfl
      refine y_icmp_ne (tgt := 42) C0 dX12_byRights_37 (by decide) (fun c_52 => ?_) (fun c_52 => ?_)
      · -- 37
        replace HE : FT = g13_X12_byRights (xso SM ad ws_41) a1.toInt a2.toInt r_44.toInt := HE.trans (if_neg (o36_75 e_47 e_48 e_51 c_52))
        refine y_c1 (n := 0) C0 (by decide) dX12_byRights_42 (fun v_53 e_54 => ?_)
        refine lv_istore (lv' := [(4, .int v_53), (3, .int r_44), (0, .ref (ad 0)), (1, .int a1), (2, .int a2)]) C0.1 C0.2.1 dX12_byRights_43 hl (by decide) rfl (fun ls hl => ?_)
        have lp_58 : ∀ (n_60 : Nat) (x4_55 : Int32) (H : Heap) (locs : List Loc) (ls : Array Slot) (ws_56 : va_W), 100 - x4_55.toInt < (n_60 : Int) → 0 ≤ x4_55.toInt → x4_55.toInt ≤ 100 → (FT = L15_X12_byRights n_60 (xso SM ad ws_56) a1.toInt a2.toInt r_44.toInt x4_55.toInt) → Wt G SM ad A s H locs ws_56 → Fr SM [16] ws_41 ws_56 → lv_has ls 9 [(4, .int x4_55), (3, .int r_44), (0, .ref (ad 0)), (1, .int a1), (2, .int a2)] → W p l e (rmd 4 0 0) s m args below meth c H locs 0 0 Q (F0 m 45 ls []) := by
          intro n_60
          induction n_60 with
          | zero => intro x4_55 H locs ls ws_56 hn_61 b_62 b_63 HE h hF_57 hl; exact ((o36_134 b_62 b_63 hn_61)).elim
          | succ n_60 ih_59 =>
            intro x4_55 H locs ls ws_56 hn_61 b_62 b_63 HE h hF_57 hl
            obtain ⟨R45, hR45⟩ : ∃ z, z = L15_X12_byRights n_60 := ⟨_, rfl⟩
            replace HE : FT = g16l_X12_byRights R45 (xso SM ad ws_56) a1.toInt a2.toInt r_44.toInt x4_55.toInt := HE.trans (by rw [hR45]; rfl)
            refine lv_iload C0.1 C0.2.1 dX12_byRights_45 (lv_at hl 0 rfl) ?_
            refine y_c2 (n := 100) C0 (by decide) dX12_byRights_47 (fun v_64 e_65 => ?_)
            replace HE : FT = g17b_X12_byRights R45 (xso SM ad ws_56) x4_55.toInt a1.toInt a2.toInt r_44.toInt := HE.trans rfl
            refine y_icmp_ge (tgt := 80) C0 dX12_byRights_49 (by decide) (fun c_66 => ?_) (fun c_66 => ?_)
            · -- 49
              replace HE : FT = g18_X12_byRights (xso SM ad ws_56) r_44.toInt := HE.trans (if_neg (o36_535 b_62 b_63 hn_61 e_65 c_66))
              refine y_c1 (n := 1) C0 (by decide) dX12_byRights_80 (fun v_67 e_68 => ?_)
              refine lv_istore (lv' := [(4, .int v_67), (3, .int r_44), (0, .ref (ad 0)), (1, .int a1), (2, .int a2)]) C0.1 C0.2.1 dX12_byRights_81 hl (by decide) rfl (fun ls hl => ?_)
              have lp_72 : ∀ (n_74 : Nat) (x4_69 : Int32) (H : Heap) (locs : List Loc) (ls : Array Slot) (ws_70 : va_W), 61 - x4_69.toInt < (n_74 : Int) → 1 ≤ x4_69.toInt → x4_69.toInt ≤ 61 → (FT = L20_X12_byRights n_74 (xso SM ad ws_70) r_44.toInt x4_69.toInt) → Wt G SM ad A s H locs ws_70 → Fr SM [16, 17] ws_56 ws_70 → lv_has ls 9 [(4, .int x4_69), (3, .int r_44), (0, .ref (ad 0)), (1, .int a1), (2, .int a2)] → W p l e (rmd 4 0 0) s m args below meth c H locs 0 0 Q (F0 m 83 ls []) := by
                intro n_74
                induction n_74 with
                | zero => intro x4_69 H locs ls ws_70 hn_75 b_76 b_77 HE h hF_71 hl; exact ((o36_537 b_76 b_77 hn_75)).elim
                | succ n_74 ih_73 =>
                  intro x4_69 H locs ls ws_70 hn_75 b_76 b_77 HE h hF_71 hl
                  obtain ⟨R83, hR83⟩ : ∃ z, z = L20_X12_byRights n_74 := ⟨_, rfl⟩
                  replace HE : FT = g21l_X12_byRights R83 (xso SM ad ws_70) r_44.toInt x4_69.toInt := HE.trans (by rw [hR83]; rfl)
                  refine lv_iload C0.1 C0.2.1 dX12_byRights_83 (lv_at hl 0 rfl) ?_
                  refine y_c2 (n := 60) C0 (by decide) dX12_byRights_85 (fun v_78 e_79 => ?_)
                  replace HE : FT = g22b_X12_byRights R83 (xso SM ad ws_70) x4_69.toInt r_44.toInt := HE.trans rfl
                  refine y_icmp_gt (tgt := 269) C0 dX12_byRights_87 (by decide) (fun c_80 => ?_) (fun c_80 => ?_)
                  · -- 87
                    replace HE : FT = g23_X12_byRights (xso SM ad ws_70) := HE.trans (if_pos (o36_538 b_76 b_77 hn_75 e_79 c_80))
                    refine y_c1 (n := (-1)) C0 (by decide) dX12_byRights_269 (fun v_81 e_82 => ?_)
                    replace HE : FT = ((xso SM ad ws_70), v_81.toInt) := HE.trans (by rw [e_82]; rfl)
                    rw [hQ]
                    exact y_iret C0 h (Fr.tr (Fr.tr (Fr.tr (Fr.tr (Fr.tr (Fr.tr (Fr.up u_4.1 kSM_0 (by decide)) (Fr.mono u_8 (by decide))) (Fr.mono u_21 (by decide))) (Fr.mono u_33 (by decide))) (Fr.mono u_42 (by decide))) (Fr.mono hF_57 (by decide))) (Fr.mono hF_71 (by decide))) ⟨(congrArg Prod.fst (HE.symm.trans hFT)), (congrArg Prod.snd (HE.symm.trans hFT)), (o36_540 e_82), (o36_335 e_82)⟩ dX12_byRights_270
                  · -- 87
                    replace HE : FT = g24_X12_byRights R83 (xso SM ad ws_70) r_44.toInt x4_69.toInt := HE.trans (if_neg (o36_539 b_76 b_77 hn_75 e_79 c_80))
                    refine y_c1 (n := 0) C0 (by decide) dX12_byRights_90 (fun v_83 e_84 => ?_)
                    refine lv_istore (lv' := [(5, .int v_83), (4, .int x4_69), (3, .int r_44), (0, .ref (ad 0)), (1, .int a1), (2, .int a2)]) C0.1 C0.2.1 dX12_byRights_91 hl (by decide) rfl (fun ls hl => ?_)
                    have lp_88 : ∀ (n_90 : Nat) (x5_85 : Int32) (H : Heap) (locs : List Loc) (ls : Array Slot) (ws_86 : va_W), 100 - x5_85.toInt < (n_90 : Int) → 0 ≤ x5_85.toInt → x5_85.toInt ≤ 100 → (FT = L25_X12_byRights R83 n_90 (xso SM ad ws_86) r_44.toInt x4_69.toInt x5_85.toInt) → Wt G SM ad A s H locs ws_86 → Fr SM [17] ws_70 ws_86 → lv_has ls 9 [(5, .int x5_85), (4, .int x4_69), (3, .int r_44), (0, .ref (ad 0)), (1, .int a1), (2, .int a2)] → W p l e (rmd 4 0 0) s m args below meth c H locs 0 0 Q (F0 m 93 ls []) := by
                      intro n_90
                      induction n_90 with
                      | zero => intro x5_85 H locs ls ws_86 hn_91 b_92 b_93 HE h hF_87 hl; exact ((o36_134 b_92 b_93 hn_91)).elim
                      | succ n_90 ih_89 =>
                        intro x5_85 H locs ls ws_86 hn_91 b_92 b_93 HE h hF_87 hl
                        obtain ⟨R93, hR93⟩ : ∃ z, z = L25_X12_byRights R83 n_90 := ⟨_, rfl⟩
                        replace HE : FT = g26l_X12_byRights R83 R93 (xso SM ad ws_86) r_44.toInt x4_69.toInt x5_85.toInt := HE.trans (by rw [hR93]; rfl)
                        refine lv_iload C0.1 C0.2.1 dX12_byRights_93 (lv_at hl 0 rfl) ?_
                        refine y_c2 (n := 100) C0 (by decide) dX12_byRights_95 (fun v_94 e_95 => ?_)
                        replace HE : FT = g27b_X12_byRights R83 R93 (xso SM ad ws_86) x5_85.toInt r_44.toInt x4_69.toInt := HE.trans rfl
                        refine y_icmp_ge (tgt := 114) C0 dX12_byRights_97 (by decide) (fun c_96 => ?_) (fun c_96 => ?_)
                        · -- 97
                          replace HE : FT = g28_X12_byRights R83 (xso SM ad ws_86) r_44.toInt x4_69.toInt := HE.trans (if_neg (o36_535 b_92 b_93 hn_91 e_95 c_96))
                          refine y_c1 (n := 0) C0 (by decide) dX12_byRights_114 (fun v_97 e_98 => ?_)
                          refine lv_istore (lv' := [(5, .int v_97), (4, .int x4_69), (3, .int r_44), (0, .ref (ad 0)), (1, .int a1), (2, .int a2)]) C0.1 C0.2.1 dX12_byRights_115 hl (by decide) rfl (fun ls hl => ?_)
                          have lp_102 : ∀ (n_104 : Nat) (x5_99 : Int32) (H : Heap) (locs : List Loc) (ls : Array Slot) (ws_100 : va_W), 100 - x5_99.toInt < (n_104 : Int) → 0 ≤ x5_99.toInt → x5_99.toInt ≤ 100 → (FT = L30_X12_byRights R83 n_104 (xso SM ad ws_100) r_44.toInt x4_69.toInt x5_99.toInt) → Wt G SM ad A s H locs ws_100 → Fr SM [17] ws_86 ws_100 → lv_has ls 9 [(5, .int x5_99), (4, .int x4_69), (3, .int r_44), (0, .ref (ad 0)), (1, .int a1), (2, .int a2)] → W p l e (rmd 4 0 0) s m args below meth c H locs 0 0 Q (F0 m 117 ls []) := by
                            intro n_104
                            induction n_104 with
                            | zero => intro x5_99 H locs ls ws_100 hn_105 b_106 b_107 HE h hF_101 hl; exact ((o36_134 b_106 b_107 hn_105)).elim
                            | succ n_104 ih_103 =>
                              intro x5_99 H locs ls ws_100 hn_105 b_106 b_107 HE h hF_101 hl
                              obtain ⟨R117, hR117⟩ : ∃ z, z = L30_X12_byRights R83 n_104 := ⟨_, rfl⟩
                              replace HE : FT = g31l_X12_byRights R83 R117 (xso SM ad ws_100) r_44.toInt x4_69.toInt x5_99.toInt := HE.trans (by rw [hR117]; rfl)
                              refine lv_iload C0.1 C0.2.1 dX12_byRights_117 (lv_at hl 0 rfl) ?_
                              refine y_c1 (n := 4) C0 (by decide) dX12_byRights_119 (fun v_108 e_109 => ?_)
                              refine lv_aload_n C0.1 C0.2.1 dX12_byRights_120 rfl (lv_at hl 3 rfl) ?_
                              refine y_ci h (y_rV (As := []) (rest := [.int v_108, .int x5_99]) C0 hZ h (c_X12_crossings l G Z ad _ h.2) k_X12_crossings q_1705 q_79 q_1703 kSM_0 rfl rfl rfl hl.1 rfl rfl (Nat.le_of_ble_eq_true rfl) dX12_byRights_121 ⟨Nat.le_of_ble_eq_true rfl, Nat.le_of_ble_eq_true rfl⟩ ⟨Nat.le_of_ble_eq_true rfl, Nat.le_of_ble_eq_true rfl⟩) (fun r_113 H locs ws_110 h u_111 p_112 => ?_)
                              obtain ⟨e_114, e_115, e_116, e_117, e_118⟩ := p_112
                              replace HE : FT = g32c_X12_byRights R83 R117 (xso SM ad ws_110) r_113.toInt x5_99.toInt r_44.toInt x4_69.toInt := HE.trans (by rw [e_114, e_115]; rfl)
                              refine y_cmul (n := 4) C0 (o36_20 e_109) (o36_135 e_116 e_117 (le_min r_113) (le_max r_113)) (o36_136 e_116 e_117 (le_min r_113) (le_max r_113)) dX12_byRights_124 (fun v_119 e_120 => ?_)
                              replace HE : FT = g33b_X12_byRights R83 R117 (xso SM ad ws_110) v_119.toInt x5_99.toInt r_44.toInt x4_69.toInt := HE.trans (by rw [e_120]; rfl)
                              refine y_icmp_ge (tgt := 201) C0 dX12_byRights_125 (by decide) (fun c_121 => ?_) (fun c_121 => ?_)
                              · -- 125
                                replace HE : FT = g34_X12_byRights R83 (xso SM ad ws_110) r_44.toInt x4_69.toInt := HE.trans (if_neg (Int.not_lt.mpr c_121))
                                refine y_c1 (n := 0) C0 (by decide) dX12_byRights_201 (fun v_122 e_123 => ?_)
                                refine lv_istore (lv' := [(5, .int v_122), (4, .int x4_69), (3, .int r_44), (0, .ref (ad 0)), (1, .int a1), (2, .int a2)]) C0.1 C0.2.1 dX12_byRights_202 hl (by decide) rfl (fun ls hl => ?_)
                                have lp_127 : ∀ (n_129 : Nat) (x5_124 : Int32) (H : Heap) (locs : List Loc) (ls : Array Slot) (ws_125 : va_W), 100 - x5_124.toInt < (n_129 : Int) → 0 ≤ x5_124.toInt → x5_124.toInt ≤ 100 → (FT = L36_X12_byRights R83 n_129 (xso SM ad ws_125) r_44.toInt x4_69.toInt x5_124.toInt) → Wt G SM ad A s H locs ws_125 → Fr SM [16] ws_110 ws_125 → lv_has ls 9 [(5, .int x5_124), (4, .int x4_69), (3, .int r_44), (0, .ref (ad 0)), (1, .int a1), (2, .int a2)] → W p l e (rmd 4 0 0) s m args below meth c H locs 0 0 Q (F0 m 204 ls []) := by
                                  intro n_129
                                  induction n_129 with
                                  | zero => intro x5_124 H locs ls ws_125 hn_130 b_131 b_132 HE h hF_126 hl; exact ((o36_134 b_131 b_132 hn_130)).elim
                                  | succ n_129 ih_128 =>
                                    intro x5_124 H locs ls ws_125 hn_130 b_131 b_132 HE h hF_126 hl
                                    obtain ⟨R204, hR204⟩ : ∃ z, z = L36_X12_byRights R83 n_129 := ⟨_, rfl⟩
                                    replace HE : FT = g37l_X12_byRights R83 R204 (xso SM ad ws_125) r_44.toInt x4_69.toInt x5_124.toInt := HE.trans (by rw [hR204]; rfl)
                                    refine lv_iload C0.1 C0.2.1 dX12_byRights_204 (lv_at hl 0 rfl) ?_
                                    refine y_c2 (n := 100) C0 (by decide) dX12_byRights_206 (fun v_133 e_134 => ?_)
                                    replace HE : FT = g38b_X12_byRights R83 R204 (xso SM ad ws_125) x5_124.toInt r_44.toInt x4_69.toInt := HE.trans rfl
                                    refine y_icmp_ge (tgt := 231) C0 dX12_byRights_208 (by decide) (fun c_135 => ?_) (fun c_135 => ?_)
                                    · -- 208
                                      replace HE : FT = g39_X12_byRights R83 (xso SM ad ws_125) r_44.toInt x4_69.toInt := HE.trans (if_neg (o36_535 b_131 b_132 hn_130 e_134 c_135))
                                      refine y_c1 (n := 0) C0 (by decide) dX12_byRights_231 (fun v_136 e_137 => ?_)
                                      refine lv_istore (lv' := [(5, .int v_136), (4, .int x4_69), (3, .int r_44), (0, .ref (ad 0)), (1, .int a1), (2, .int a2)]) C0.1 C0.2.1 dX12_byRights_232 hl (by decide) rfl (fun ls hl => ?_)
                                      have lp_141 : ∀ (n_143 : Nat) (x5_138 : Int32) (H : Heap) (locs : List Loc) (ls : Array Slot) (ws_139 : va_W), 4 - x5_138.toInt < (n_143 : Int) → 0 ≤ x5_138.toInt → x5_138.toInt ≤ 4 → (FT = L41_X12_byRights R83 n_143 (xso SM ad ws_139) r_44.toInt x4_69.toInt x5_138.toInt) → Wt G SM ad A s H locs ws_139 → Fr SM [] ws_125 ws_139 → lv_has ls 9 [(5, .int x5_138), (4, .int x4_69), (3, .int r_44), (0, .ref (ad 0)), (1, .int a1), (2, .int a2)] → W p l e (rmd 4 0 0) s m args below meth c H locs 0 0 Q (F0 m 234 ls []) := by
                                        intro n_143
                                        induction n_143 with
                                        | zero => intro x5_138 H locs ls ws_139 hn_144 b_145 b_146 HE h hF_140 hl; exact ((o36_19 b_145 b_146 hn_144)).elim
                                        | succ n_143 ih_142 =>
                                          intro x5_138 H locs ls ws_139 hn_144 b_145 b_146 HE h hF_140 hl
                                          obtain ⟨R234, hR234⟩ : ∃ z, z = L41_X12_byRights R83 n_143 := ⟨_, rfl⟩
                                          replace HE : FT = g42l_X12_byRights R83 R234 (xso SM ad ws_139) r_44.toInt x4_69.toInt x5_138.toInt := HE.trans (by rw [hR234]; rfl)
                                          refine lv_iload C0.1 C0.2.1 dX12_byRights_234 (lv_at hl 0 rfl) ?_
                                          refine y_c1 (n := 4) C0 (by decide) dX12_byRights_236 (fun v_147 e_148 => ?_)
                                          replace HE : FT = g43b_X12_byRights R83 R234 (xso SM ad ws_139) x5_138.toInt r_44.toInt x4_69.toInt := HE.trans rfl
                                          refine y_icmp_ge (tgt := 263) C0 dX12_byRights_237 (by decide) (fun c_149 => ?_) (fun c_149 => ?_)
                                          · -- 237
                                            replace HE : FT = g44_X12_byRights R83 (xso SM ad ws_139) r_44.toInt x4_69.toInt := HE.trans (if_neg (o36_21 b_145 b_146 hn_144 e_148 c_149))
                                            refine y_inc (kp := 1) (n := 1) (fun v_150 => [(4, .int v_150), (5, .int x5_138), (3, .int r_44), (0, .ref (ad 0)), (1, .int a1), (2, .int a2)]) C0 hl rfl (by decide) (by decide) (fun _ => rfl) (o36_541 b_76 b_77 hn_75 e_79 c_80 (le_min x4_69) (le_max x4_69) (le_min v_78) (le_max v_78)) (o36_542 b_76 b_77 hn_75 e_79 c_80 (le_min x4_69) (le_max x4_69) (le_min v_78) (le_max v_78)) dX12_byRights_263 (fun v_150 ls e_151 hl => ?_)
                                            refine lv_goto (tgt := 83) C0.1 C0.2.1 dX12_byRights_266 (by decide) ?_
                                            exact ih_73 v_150 _ _ _ _ (o36_543 b_76 b_77 hn_75 e_79 c_80 e_151) (o36_544 b_76 b_77 hn_75 e_79 c_80 e_151) (o36_545 b_76 b_77 hn_75 e_79 c_80 e_151) (((show FT = R83 (xso SM ad ws_139) r_44.toInt v_150.toInt from HE.trans (by rw [e_151]; rfl)).trans (by rw [hR83]))) h (Fr.tr (Fr.tr (Fr.tr (Fr.tr (Fr.tr hF_71 (Fr.mono hF_87 (by decide))) (Fr.mono hF_101 (by decide))) (Fr.mono u_111 (by decide))) (Fr.mono hF_126 (by decide))) (Fr.mono hF_140 (by decide))) (lv_sub hl [0, 2, 3, 4, 5] rfl)
                                          · -- 237
                                            replace HE : FT = g45_X12_byRights R83 R234 (xso SM ad ws_139) r_44.toInt x4_69.toInt x5_138.toInt := HE.trans (if_pos (o36_22 b_145 b_146 hn_144 e_148 c_149))
                                            refine lv_aload_n C0.1 C0.2.1 dX12_byRights_240 rfl (lv_at hl 3 rfl) ?_
                                            refine ng_X12_met C0 h kSM_0 q_1469 dX12_byRights_241 ?_
                                            refine y_c1 (n := 4) C0 (by decide) dX12_byRights_244 (fun v_152 e_153 => ?_)
                                            refine lv_iload_n C0.1 C0.2.1 dX12_byRights_245 rfl (lv_at hl 2 rfl) ?_
                                            refine y_cmul (n := 4) C0 (o36_20 e_153) (o36_546 e_47 e_48 e_51 c_52 (le_min r_44) (le_max r_44) (le_min v_50) (le_max v_50)) (o36_547 e_47 e_48 e_51 c_52 (le_min r_44) (le_max r_44) (le_min v_50) (le_max v_50)) dX12_byRights_246 (fun v_154 e_155 => ?_)
                                            refine lv_iload C0.1 C0.2.1 dX12_byRights_247 (lv_at hl 0 rfl) ?_
                                            refine y_add C0 (o36_548 e_47 e_48 e_51 c_52 b_145 b_146 hn_144 e_148 c_149 e_155 (le_min v_154) (le_max v_154) (le_min x5_138) (le_max x5_138) (le_min r_44) (le_max r_44) (le_min v_50) (le_max v_50) (le_min v_147) (le_max v_147)) (o36_549 e_47 e_48 e_51 c_52 b_145 b_146 hn_144 e_148 c_149 e_155 (le_min v_154) (le_max v_154) (le_min x5_138) (le_max x5_138) (le_min r_44) (le_max r_44) (le_min v_50) (le_max v_50) (le_min v_147) (le_max v_147)) dX12_byRights_249 (fun v_156 e_157 => ?_)
                                            refine y_zald C0 h kSM_16 rfl (by decide) (o36_550 e_47 e_48 e_51 c_52 b_145 b_146 hn_144 e_148 c_149 e_155 e_157) (o36_551 e_47 e_48 e_51 c_52 b_145 b_146 hn_144 e_148 c_149 e_155 e_157) dX12_byRights_250 (fun v_158 e_159 e_160 e_161 => ?_)
                                            replace HE : FT = g46b_X12_byRights R83 R234 (xso SM ad ws_139) v_158.toInt r_44.toInt x4_69.toInt x5_138.toInt := HE.trans (by rw [(xg1 e_159 : v_158.toInt = (xso SM ad ws_139) 1 16 v_156.toInt.toNat), e_157, e_155]; rfl)
                                            refine y_if_eq (tgt := 257) C0 dX12_byRights_251 (by decide) (fun c_162 => ?_) (fun c_162 => ?_)
                                            · -- 251
                                              replace HE : FT = g47_X12_byRights R83 R234 (xso SM ad ws_139) r_44.toInt x4_69.toInt x5_138.toInt := HE.trans (if_pos c_162)
                                              refine y_inc (kp := 0) (n := 1) (fun v_163 => [(5, .int v_163), (4, .int x4_69), (3, .int r_44), (0, .ref (ad 0)), (1, .int a1), (2, .int a2)]) C0 hl rfl (by decide) (by decide) (fun _ => rfl) (o36_552 e_47 e_48 e_51 c_52 b_145 b_146 hn_144 e_148 c_149 e_155 e_157 (le_min x5_138) (le_max x5_138) (le_min r_44) (le_max r_44) (le_min v_50) (le_max v_50) (le_min v_147) (le_max v_147) (le_min v_154) (le_max v_154) (le_min v_156) (le_max v_156)) (o36_553 e_47 e_48 e_51 c_52 b_145 b_146 hn_144 e_148 c_149 e_155 e_157 (le_min x5_138) (le_max x5_138) (le_min r_44) (le_max r_44) (le_min v_50) (le_max v_50) (le_min v_147) (le_max v_147) (le_min v_154) (le_max v_154) (le_min v_156) (le_max v_156)) dX12_byRights_257 (fun v_163 ls e_164 hl => ?_)
                                              refine lv_goto (tgt := 234) C0.1 C0.2.1 dX12_byRights_260 (by decide) ?_
                                              exact ih_142 v_163 _ _ _ _ (o36_554 e_47 e_48 e_51 c_52 b_145 b_146 hn_144 e_148 c_149 e_155 e_157 e_164) (o36_555 e_47 e_48 e_51 c_52 b_145 b_146 hn_144 e_148 c_149 e_155 e_157 e_164) (o36_556 e_47 e_48 e_51 c_52 b_145 b_146 hn_144 e_148 c_149 e_155 e_157 e_164) (((show FT = R234 (xso SM ad ws_139) r_44.toInt x4_69.toInt v_163.toInt from HE.trans (by rw [e_164]; rfl)).trans (by rw [hR234]))) h hF_140 (lv_sub hl [0, 1, 2, 3, 4, 5] rfl)
                                            · -- 251
                                              replace HE : FT = g48_X12_byRights (xso SM ad ws_139) x4_69.toInt := HE.trans (if_neg c_162)
                                              refine lv_iload C0.1 C0.2.1 dX12_byRights_254 (lv_at hl 1 rfl) ?_
                                              replace HE : FT = ((xso SM ad ws_139), x4_69.toInt) := HE.trans rfl
                                              rw [hQ]
                                              exact y_iret C0 h (Fr.tr (Fr.tr (Fr.tr (Fr.tr (Fr.tr (Fr.tr (Fr.tr (Fr.tr (Fr.tr (Fr.tr (Fr.tr (Fr.up u_4.1 kSM_0 (by decide)) (Fr.mono u_8 (by decide))) (Fr.mono u_21 (by decide))) (Fr.mono u_33 (by decide))) (Fr.mono u_42 (by decide))) (Fr.mono hF_57 (by decide))) (Fr.mono hF_71 (by decide))) (Fr.mono hF_87 (by decide))) (Fr.mono hF_101 (by decide))) (Fr.mono u_111 (by decide))) (Fr.mono hF_126 (by decide))) (Fr.mono hF_140 (by decide))) ⟨(congrArg Prod.fst (HE.symm.trans hFT)), (congrArg Prod.snd (HE.symm.trans hFT)), (o36_557 b_76 b_77 hn_75 e_79 c_80), (o36_558 b_76 b_77 hn_75 e_79 c_80)⟩ dX12_byRights_256
                                      exact lp_141 ((4 - v_136.toInt + 1).toNat) v_136 _ _ _ _ (o36_62 e_137) (o36_63 e_137) (o36_64 e_137) ((show FT = L41_X12_byRights R83 (Int.toNat (4 - v_136.toInt + 1)) (xso SM ad ws_125) r_44.toInt x4_69.toInt v_136.toInt from HE.trans (by rw [e_137]; rfl))) h Fr.rf (lv_sub hl [0, 1, 2, 3, 4, 5] rfl)
                                    · -- 208
                                      replace HE : FT = g40_X12_byRights R83 R204 (xso SM ad ws_125) r_44.toInt x4_69.toInt x5_124.toInt := HE.trans (if_pos (o36_536 b_131 b_132 hn_130 e_134 c_135))
                                      refine lv_aload_n C0.1 C0.2.1 dX12_byRights_211 rfl (lv_at hl 3 rfl) ?_
                                      refine ng_X12_met C0 h kSM_0 q_1469 dX12_byRights_212 ?_
                                      refine lv_iload C0.1 C0.2.1 dX12_byRights_215 (lv_at hl 0 rfl) ?_
                                      refine lv_aload_n C0.1 C0.2.1 dX12_byRights_217 rfl (lv_at hl 3 rfl) ?_
                                      refine ng_X12_metThen C0 h kSM_0 q_1470 dX12_byRights_218 ?_
                                      refine lv_iload C0.1 C0.2.1 dX12_byRights_221 (lv_at hl 0 rfl) ?_
                                      refine y_zald C0 h kSM_17 rfl (by decide) (o36_559 b_131 b_132 hn_130 e_134 c_135) (o36_560 b_131 b_132 hn_130 e_134 c_135) dX12_byRights_223 (fun v_165 e_166 e_167 e_168 => ?_)
                                      have hO_171 := h.2
                                      refine y_zast C0 h kSM_16 rfl (by decide) (o36_559 b_131 b_132 hn_130 e_134 c_135) (o36_560 b_131 b_132 hn_130 e_134 c_135) (o36_17 e_167 e_168) (o36_18 e_167 e_168) (o36_17 e_167 e_168) (o36_18 e_167 e_168) dX12_byRights_224 (fun H locs ws_169 h u_170 => ?_)
                                      replace HE : FT = g49w_X12_byRights R83 R204 (xso SM ad ws_169) r_44.toInt x4_69.toInt x5_124.toInt := HE.trans (by rw [(xso_A (i := 16) hO_171 h.2 kSM_16 rfl u_170), (xg1 e_166 : v_165.toInt = (xso SM ad ws_125) 1 17 x5_124.toInt.toNat)]; rfl)
                                      refine y_inc (kp := 0) (n := 1) (fun v_172 => [(5, .int v_172), (4, .int x4_69), (3, .int r_44), (0, .ref (ad 0)), (1, .int a1), (2, .int a2)]) C0 hl rfl (by decide) (by decide) (fun _ => rfl) (o36_561 b_131 b_132 hn_130 e_134 c_135 (le_min x5_124) (le_max x5_124) (le_min v_133) (le_max v_133)) (o36_562 b_131 b_132 hn_130 e_134 c_135 (le_min x5_124) (le_max x5_124) (le_min v_133) (le_max v_133)) dX12_byRights_225 (fun v_172 ls e_173 hl => ?_)
                                      refine lv_goto (tgt := 204) C0.1 C0.2.1 dX12_byRights_228 (by decide) ?_
                                      exact ih_128 v_172 _ _ _ _ (o36_563 b_131 b_132 hn_130 e_134 c_135 e_173) (o36_564 b_131 b_132 hn_130 e_134 c_135 e_173) (o36_565 b_131 b_132 hn_130 e_134 c_135 e_173) (((show FT = R204 (xso SM ad ws_169) r_44.toInt x4_69.toInt v_172.toInt from HE.trans (by rw [e_173]; rfl)).trans (by rw [hR204]))) h (Fr.tr hF_126 (Fr.up u_170.1 kSM_16 (by decide))) (lv_sub hl [0, 1, 2, 3, 4, 5] rfl)
                                exact lp_127 ((100 - v_122.toInt + 1).toNat) v_122 _ _ _ _ (o36_200 e_123) (o36_63 e_123) (o36_201 e_123) ((show FT = L36_X12_byRights R83 (Int.toNat (100 - v_122.toInt + 1)) (xso SM ad ws_110) r_44.toInt x4_69.toInt v_122.toInt from HE.trans (by rw [e_123]; rfl))) h Fr.rf (lv_sub hl [0, 1, 2, 3, 4, 5] rfl)
                              · -- 125
                                replace HE : FT = g35_X12_byRights R83 R117 (xso SM ad ws_110) r_44.toInt x4_69.toInt x5_99.toInt := HE.trans (if_pos c_121)
                                refine y_c1 (n := 0) C0 (by decide) dX12_byRights_128 (fun v_174 e_175 => ?_)
                                refine lv_istore (lv' := [(6, .int v_174), (5, .int x5_99), (4, .int x4_69), (3, .int r_44), (0, .ref (ad 0)), (1, .int a1), (2, .int a2)]) C0.1 C0.2.1 dX12_byRights_129 hl (by decide) rfl (fun ls hl => ?_)
                                have lp_179 : ∀ (n_181 : Nat) (x6_176 : Int32) (H : Heap) (locs : List Loc) (ls : Array Slot) (ws_177 : va_W), 2 - x6_176.toInt < (n_181 : Int) → 0 ≤ x6_176.toInt → x6_176.toInt ≤ 2 → (FT = L50_X12_byRights R83 R117 n_181 (xso SM ad ws_177) r_44.toInt x4_69.toInt x5_99.toInt x6_176.toInt) → Wt G SM ad A s H locs ws_177 → Fr SM [17] ws_110 ws_177 → lv_has ls 9 [(6, .int x6_176), (5, .int x5_99), (4, .int x4_69), (3, .int r_44), (0, .ref (ad 0)), (1, .int a1), (2, .int a2)] → W p l e (rmd 4 0 0) s m args below meth c H locs 0 0 Q (F0 m 131 ls []) := by
                                  intro n_181
                                  induction n_181 with
                                  | zero => intro x6_176 H locs ls ws_177 hn_182 b_183 b_184 HE h hF_178 hl; exact ((o36_566 b_183 b_184 hn_182)).elim
                                  | succ n_181 ih_180 =>
                                    intro x6_176 H locs ls ws_177 hn_182 b_183 b_184 HE h hF_178 hl
                                    obtain ⟨R131, hR131⟩ : ∃ z, z = L50_X12_byRights R83 R117 n_181 := ⟨_, rfl⟩
                                    replace HE : FT = g51l_X12_byRights R83 R117 R131 (xso SM ad ws_177) r_44.toInt x4_69.toInt x5_99.toInt x6_176.toInt := HE.trans (by rw [hR131]; rfl)
                                    refine lv_iload C0.1 C0.2.1 dX12_byRights_131 (lv_at hl 0 rfl) ?_
                                    refine y_c1 (n := 2) C0 (by decide) dX12_byRights_133 (fun v_185 e_186 => ?_)
                                    replace HE : FT = g52b_X12_byRights R83 R117 R131 (xso SM ad ws_177) x6_176.toInt r_44.toInt x4_69.toInt x5_99.toInt := HE.trans rfl
                                    refine y_icmp_ge (tgt := 195) C0 dX12_byRights_134 (by decide) (fun c_187 => ?_) (fun c_187 => ?_)
                                    · -- 134
                                      replace HE : FT = g53_X12_byRights R83 R117 (xso SM ad ws_177) r_44.toInt x4_69.toInt x5_99.toInt := HE.trans (if_neg (o36_568 b_183 b_184 hn_182 e_186 c_187))
                                      refine y_inc (kp := 1) (n := 1) (fun v_188 => [(5, .int v_188), (6, .int x6_176), (4, .int x4_69), (3, .int r_44), (0, .ref (ad 0)), (1, .int a1), (2, .int a2)]) C0 hl rfl (by decide) (by decide) (fun _ => rfl) (o36_506 b_106 b_107 hn_105 e_116 e_117 e_120 c_121 (le_min x5_99) (le_max x5_99) (le_min r_113) (le_max r_113) (le_min v_119) (le_max v_119)) (o36_507 b_106 b_107 hn_105 e_116 e_117 e_120 c_121 (le_min x5_99) (le_max x5_99) (le_min r_113) (le_max r_113) (le_min v_119) (le_max v_119)) dX12_byRights_195 (fun v_188 ls e_189 hl => ?_)
                                      refine lv_goto (tgt := 117) C0.1 C0.2.1 dX12_byRights_198 (by decide) ?_
                                      exact ih_103 v_188 _ _ _ _ (o36_508 b_106 b_107 hn_105 e_116 e_117 e_120 c_121 e_189) (o36_509 b_106 b_107 hn_105 e_116 e_117 e_120 c_121 e_189) (o36_510 b_106 b_107 hn_105 e_116 e_117 e_120 c_121 e_189) (((show FT = R117 (xso SM ad ws_177) r_44.toInt x4_69.toInt v_188.toInt from HE.trans (by rw [e_189]; rfl)).trans (by rw [hR117]))) h (Fr.tr (Fr.tr hF_101 (Fr.mono u_111 (by decide))) hF_178) (lv_sub hl [0, 2, 3, 4, 5, 6] rfl)
                                    · -- 134
                                      replace HE : FT = g54_X12_byRights R83 R117 R131 (xso SM ad ws_177) r_44.toInt x4_69.toInt x5_99.toInt x6_176.toInt := HE.trans (if_pos (o36_569 b_183 b_184 hn_182 e_186 c_187))
                                      refine lv_aload_n C0.1 C0.2.1 dX12_byRights_137 rfl (lv_at hl 4 rfl) ?_
                                      refine ng_X12_met C0 h kSM_0 q_1469 dX12_byRights_138 ?_
                                      refine lv_iload C0.1 C0.2.1 dX12_byRights_141 (lv_at hl 1 rfl) ?_
                                      refine y_zald C0 h kSM_16 rfl (by decide) (o36_501 b_106 b_107 hn_105 e_116 e_117 e_120 c_121) (o36_570 b_106 b_107 hn_105 e_116 e_117 e_120 c_121) dX12_byRights_143 (fun v_190 e_191 e_192 e_193 => ?_)
                                      replace HE : FT = g55b_X12_byRights R83 R117 R131 (xso SM ad ws_177) v_190.toInt r_44.toInt x4_69.toInt x5_99.toInt x6_176.toInt := HE.trans (by rw [(xg1 e_191 : v_190.toInt = (xso SM ad ws_177) 1 16 x5_99.toInt.toNat)]; rfl)
                                      refine y_if_eq (tgt := 195) C0 dX12_byRights_144 (by decide) (fun c_194 => ?_) (fun c_194 => ?_)
                                      · -- 144
                                        replace HE : FT = g56_X12_byRights R83 R117 (xso SM ad ws_177) r_44.toInt x4_69.toInt x5_99.toInt := HE.trans (if_pos c_194)
                                        refine y_inc (kp := 1) (n := 1) (fun v_195 => [(5, .int v_195), (6, .int x6_176), (4, .int x4_69), (3, .int r_44), (0, .ref (ad 0)), (1, .int a1), (2, .int a2)]) C0 hl rfl (by decide) (by decide) (fun _ => rfl) (o36_506 b_106 b_107 hn_105 e_116 e_117 e_120 c_121 (le_min x5_99) (le_max x5_99) (le_min r_113) (le_max r_113) (le_min v_119) (le_max v_119)) (o36_507 b_106 b_107 hn_105 e_116 e_117 e_120 c_121 (le_min x5_99) (le_max x5_99) (le_min r_113) (le_max r_113) (le_min v_119) (le_max v_119)) dX12_byRights_195 (fun v_195 ls e_196 hl => ?_)
                                        refine lv_goto (tgt := 117) C0.1 C0.2.1 dX12_byRights_198 (by decide) ?_
                                        exact ih_103 v_195 _ _ _ _ (o36_508 b_106 b_107 hn_105 e_116 e_117 e_120 c_121 e_196) (o36_509 b_106 b_107 hn_105 e_116 e_117 e_120 c_121 e_196) (o36_510 b_106 b_107 hn_105 e_116 e_117 e_120 c_121 e_196) (((show FT = R117 (xso SM ad ws_177) r_44.toInt x4_69.toInt v_195.toInt from HE.trans (by rw [e_196]; rfl)).trans (by rw [hR117]))) h (Fr.tr (Fr.tr hF_101 (Fr.mono u_111 (by decide))) hF_178) (lv_sub hl [0, 2, 3, 4, 5, 6] rfl)
                                      · -- 144
                                        replace HE : FT = g57_X12_byRights R83 R117 R131 (xso SM ad ws_177) r_44.toInt x4_69.toInt x5_99.toInt x6_176.toInt := HE.trans (if_neg c_194)
                                        refine lv_iload C0.1 C0.2.1 dX12_byRights_147 (lv_at hl 1 rfl) ?_
                                        refine y_c1 (n := 4) C0 (by decide) dX12_byRights_149 (fun v_197 e_198 => ?_)
                                        refine y_remc (n := 4) C0 (o36_20 e_198) (by decide) (o36_501 b_106 b_107 hn_105 e_116 e_117 e_120 c_121) dX12_byRights_150 (fun v_199 e_200 => ?_)
                                        refine lv_iload C0.1 C0.2.1 dX12_byRights_151 (lv_at hl 0 rfl) ?_
                                        refine y_ci h (y_rS (As := [.int v_199, .int x6_176]) (rest := []) C0 hZ h (c_X12_directionBy l G Z ad _ h.2 v_199 x6_176 (o36_571 b_106 b_107 hn_105 e_116 e_117 e_120 c_121 e_200) (o36_572 b_106 b_107 hn_105 e_116 e_117 e_120 c_121 e_200) (o36_573 b_183 b_184 hn_182 e_186 c_187) (o36_574 b_183 b_184 hn_182 e_186 c_187)) k_X12_directionBy q_1761 q_1760 hl.1 rfl rfl (Nat.le_of_ble_eq_true rfl) dX12_byRights_153 ⟨Nat.le_of_ble_eq_true rfl, Nat.le_of_ble_eq_true rfl⟩ ⟨Nat.le_of_ble_eq_true rfl, Nat.le_of_ble_eq_true rfl⟩) (fun r_204 H locs ws_201 h u_202 p_203 => ?_)
                                        obtain ⟨e_205, e_206, e_207, e_208, e_209⟩ := p_203
                                        replace HE : FT = g58c_X12_byRights R83 R117 R131 (xso SM ad ws_201) r_204.toInt r_44.toInt x4_69.toInt x5_99.toInt x6_176.toInt := HE.trans (by rw [e_205, e_206, e_200]; rfl)
                                        refine lv_istore (lv' := [(7, .int r_204), (6, .int x6_176), (5, .int x5_99), (4, .int x4_69), (3, .int r_44), (0, .ref (ad 0)), (1, .int a1), (2, .int a2)]) C0.1 C0.2.1 dX12_byRights_156 hl (by decide) rfl (fun ls hl => ?_)
                                        refine lv_aload_n C0.1 C0.2.1 dX12_byRights_158 rfl (lv_at hl 5 rfl) ?_
                                        refine lv_iload C0.1 C0.2.1 dX12_byRights_159 (lv_at hl 2 rfl) ?_
                                        refine y_c1 (n := 4) C0 (by decide) dX12_byRights_161 (fun v_210 e_211 => ?_)
                                        refine y_divc (n := 4) C0 (o36_20 e_211) (by decide) (o36_575 b_106 b_107 hn_105 e_116 e_117 e_120 c_121 e_200) dX12_byRights_162 (fun v_212 e_213 => ?_)
                                        refine lv_iload C0.1 C0.2.1 dX12_byRights_163 (lv_at hl 0 rfl) ?_
                                        refine y_ci h (y_rV (As := [.int v_212, .int r_204]) (rest := []) C0 hZ h (c_X12_streetFrom l G Z ad _ h.2 v_212 r_204 (o36_576 b_106 b_107 hn_105 e_116 e_117 e_120 c_121 e_200 e_213) (o36_577 b_106 b_107 hn_105 e_116 e_117 e_120 c_121 e_200 e_213) (o36_69 e_207 e_208) (o36_70 e_207 e_208) (Laid.pa (Or.resolve_left e_16 (o36_534 e_6 e_13 e_14 e_15 c_17)) (Pa.tr (Pa.tr (Pa.tr (Pa.tr (Pa.tr (Pa.tr (Pa.tr (Pa.tr (Pa.tr (Pa.tr (Pa.fr u_8 (by decide)) (Pa.fr u_21 (by decide))) (Pa.fr u_33 (by decide))) (Pa.fr u_42 (by decide))) (Pa.fr hF_57 (by decide))) (Pa.fr hF_71 (by decide))) (Pa.fr hF_87 (by decide))) (Pa.fr hF_101 (by decide))) (Pa.fr u_111 (by decide))) (Pa.fr hF_178 (by decide))) (Pa.fr u_202 (by decide))))) k_X12_streetFrom q_1713 q_80 q_1711 kSM_0 rfl rfl rfl hl.1 rfl rfl (Nat.le_of_ble_eq_true rfl) dX12_byRights_165 ⟨Nat.le_of_ble_eq_true rfl, Nat.le_of_ble_eq_true rfl⟩ ⟨Nat.le_of_ble_eq_true rfl, Nat.le_of_ble_eq_true rfl⟩) (fun r_217 H locs ws_214 h u_215 p_216 => ?_)
                                        obtain ⟨e_218, e_219, e_220, e_221, e_222⟩ := p_216
                                        replace HE : FT = g59c_X12_byRights R83 R117 R131 (xso SM ad ws_214) r_217.toInt r_44.toInt x4_69.toInt x5_99.toInt x6_176.toInt r_204.toInt := HE.trans (by rw [e_218, e_219, e_213]; rfl)
                                        refine lv_istore (lv' := [(8, .int r_217), (7, .int r_204), (6, .int x6_176), (5, .int x5_99), (4, .int x4_69), (3, .int r_44), (0, .ref (ad 0)), (1, .int a1), (2, .int a2)]) C0.1 C0.2.1 dX12_byRights_168 hl (by decide) rfl (fun ls hl => ?_)
                                        refine lv_iload C0.1 C0.2.1 dX12_byRights_170 (lv_at hl 0 rfl) ?_
                                        refine y_c1 (n := (-1)) C0 (by decide) dX12_byRights_172 (fun v_223 e_224 => ?_)
                                        replace HE : FT = g60b_X12_byRights R83 R117 R131 (xso SM ad ws_214) r_217.toInt r_44.toInt x4_69.toInt x5_99.toInt x6_176.toInt r_204.toInt := HE.trans rfl
                                        refine y_icmp_eq (tgt := 189) C0 dX12_byRights_173 (by decide) (fun c_225 => ?_) (fun c_225 => ?_)
                                        · -- 173
                                          replace HE : FT = g61_X12_byRights R83 R117 R131 (xso SM ad ws_214) r_44.toInt x4_69.toInt x5_99.toInt x6_176.toInt := HE.trans (if_pos (o36_74 e_220 e_221 e_224 c_225))
                                          refine y_inc (kp := 2) (n := 1) (fun v_226 => [(6, .int v_226), (8, .int r_217), (7, .int r_204), (5, .int x5_99), (4, .int x4_69), (3, .int r_44), (0, .ref (ad 0)), (1, .int a1), (2, .int a2)]) C0 hl rfl (by decide) (by decide) (fun _ => rfl) (o36_578 b_183 b_184 hn_182 e_186 c_187 (le_min x6_176) (le_max x6_176) (le_min v_185) (le_max v_185)) (o36_579 b_183 b_184 hn_182 e_186 c_187 (le_min x6_176) (le_max x6_176) (le_min v_185) (le_max v_185)) dX12_byRights_189 (fun v_226 ls e_227 hl => ?_)
                                          refine lv_goto (tgt := 131) C0.1 C0.2.1 dX12_byRights_192 (by decide) ?_
                                          exact ih_180 v_226 _ _ _ _ (o36_580 b_183 b_184 hn_182 e_186 c_187 e_227) (o36_581 b_183 b_184 hn_182 e_186 c_187 e_227) (o36_582 b_183 b_184 hn_182 e_186 c_187 e_227) (((show FT = R131 (xso SM ad ws_214) r_44.toInt x4_69.toInt x5_99.toInt v_226.toInt from HE.trans (by rw [e_227]; rfl)).trans (by rw [hR131]))) h (Fr.tr (Fr.tr hF_178 (Fr.mono u_202 (by decide))) (Fr.mono u_215 (by decide))) (lv_sub hl [0, 3, 4, 5, 6, 7, 8] rfl)
                                        · -- 173
                                          replace HE : FT = g62_X12_byRights R83 R117 R131 (xso SM ad ws_214) r_44.toInt x4_69.toInt x5_99.toInt x6_176.toInt r_204.toInt r_217.toInt := HE.trans (if_neg (o36_75 e_220 e_221 e_224 c_225))
                                          refine lv_aload_n C0.1 C0.2.1 dX12_byRights_176 rfl (lv_at hl 6 rfl) ?_
                                          refine ng_X12_metThen C0 h kSM_0 q_1470 dX12_byRights_177 ?_
                                          refine y_c1 (n := 4) C0 (by decide) dX12_byRights_180 (fun v_228 e_229 => ?_)
                                          refine lv_iload C0.1 C0.2.1 dX12_byRights_181 (lv_at hl 0 rfl) ?_
                                          refine y_cmul (n := 4) C0 (o36_20 e_229) (o36_546 e_220 e_221 e_224 c_225 (le_min r_217) (le_max r_217) (le_min v_223) (le_max v_223)) (o36_547 e_220 e_221 e_224 c_225 (le_min r_217) (le_max r_217) (le_min v_223) (le_max v_223)) dX12_byRights_183 (fun v_230 e_231 => ?_)
                                          refine lv_iload C0.1 C0.2.1 dX12_byRights_184 (lv_at hl 1 rfl) ?_
                                          refine y_add C0 (o36_583 e_207 e_208 e_220 e_221 e_224 c_225 e_231 (le_min v_230) (le_max v_230) (le_min r_204) (le_max r_204) (le_min r_217) (le_max r_217) (le_min v_223) (le_max v_223)) (o36_584 e_207 e_208 e_220 e_221 e_224 c_225 e_231 (le_min v_230) (le_max v_230) (le_min r_204) (le_max r_204) (le_min r_217) (le_max r_217) (le_min v_223) (le_max v_223)) dX12_byRights_186 (fun v_232 e_233 => ?_)
                                          refine y_c1 (n := 1) C0 (by decide) dX12_byRights_187 (fun v_234 e_235 => ?_)
                                          have hO_238 := h.2
                                          refine y_zast C0 h kSM_17 rfl (by decide) (o36_585 e_207 e_208 e_220 e_221 e_224 c_225 e_231 e_233) (o36_586 e_207 e_208 e_220 e_221 e_224 c_225 e_231 e_233) (o36_414 e_235) (o36_415 e_235) (o36_414 e_235) (o36_415 e_235) dX12_byRights_188 (fun H locs ws_236 h u_237 => ?_)
                                          replace HE : FT = g63w_X12_byRights R83 R117 R131 (xso SM ad ws_236) r_44.toInt x4_69.toInt x5_99.toInt x6_176.toInt := HE.trans (by rw [(xso_A (i := 17) hO_238 h.2 kSM_17 rfl u_237), e_235, e_233, e_231]; rfl)
                                          refine y_inc (kp := 2) (n := 1) (fun v_239 => [(6, .int v_239), (8, .int r_217), (7, .int r_204), (5, .int x5_99), (4, .int x4_69), (3, .int r_44), (0, .ref (ad 0)), (1, .int a1), (2, .int a2)]) C0 hl rfl (by decide) (by decide) (fun _ => rfl) (o36_578 b_183 b_184 hn_182 e_186 c_187 (le_min x6_176) (le_max x6_176) (le_min v_185) (le_max v_185)) (o36_579 b_183 b_184 hn_182 e_186 c_187 (le_min x6_176) (le_max x6_176) (le_min v_185) (le_max v_185)) dX12_byRights_189 (fun v_239 ls e_240 hl => ?_)
                                          refine lv_goto (tgt := 131) C0.1 C0.2.1 dX12_byRights_192 (by decide) ?_
                                          exact ih_180 v_239 _ _ _ _ (o36_580 b_183 b_184 hn_182 e_186 c_187 e_240) (o36_581 b_183 b_184 hn_182 e_186 c_187 e_240) (o36_582 b_183 b_184 hn_182 e_186 c_187 e_240) (((show FT = R131 (xso SM ad ws_236) r_44.toInt x4_69.toInt x5_99.toInt v_239.toInt from HE.trans (by rw [e_240]; rfl)).trans (by rw [hR131]))) h (Fr.tr (Fr.tr (Fr.tr hF_178 (Fr.mono u_202 (by decide))) (Fr.mono u_215 (by decide))) (Fr.up u_237.1 kSM_17 (by decide))) (lv_sub hl [0, 3, 4, 5, 6, 7, 8] rfl)
                                exact lp_179 ((2 - v_174.toInt + 1).toNat) v_174 _ _ _ _ (o36_587 e_175) (o36_63 e_175) (o36_588 e_175) ((show FT = L50_X12_byRights R83 R117 (Int.toNat (2 - v_174.toInt + 1)) (xso SM ad ws_110) r_44.toInt x4_69.toInt x5_99.toInt v_174.toInt from HE.trans (by rw [e_175]; rfl))) h Fr.rf (lv_sub hl [0, 1, 2, 3, 4, 5, 6] rfl)
                          exact lp_102 ((100 - v_97.toInt + 1).toNat) v_97 _ _ _ _ (o36_200 e_98) (o36_63 e_98) (o36_201 e_98) ((show FT = L30_X12_byRights R83 (Int.toNat (100 - v_97.toInt + 1)) (xso SM ad ws_86) r_44.toInt x4_69.toInt v_97.toInt from HE.trans (by rw [e_98]; rfl))) h Fr.rf (lv_sub hl [0, 1, 2, 3, 4, 5] rfl)
                        · -- 97
                          replace HE : FT = g29_X12_byRights R83 R93 (xso SM ad ws_86) r_44.toInt x4_69.toInt x5_85.toInt := HE.trans (if_pos (o36_536 b_92 b_93 hn_91 e_95 c_96))
                          refine lv_aload_n C0.1 C0.2.1 dX12_byRights_100 rfl (lv_at hl 3 rfl) ?_
                          refine ng_X12_metThen C0 h kSM_0 q_1470 dX12_byRights_101 ?_
                          refine lv_iload C0.1 C0.2.1 dX12_byRights_104 (lv_at hl 0 rfl) ?_
                          refine y_c1 (n := 0) C0 (by decide) dX12_byRights_106 (fun v_241 e_242 => ?_)
                          have hO_245 := h.2
                          refine y_zast C0 h kSM_17 rfl (by decide) (o36_559 b_92 b_93 hn_91 e_95 c_96) (o36_560 b_92 b_93 hn_91 e_95 c_96) (o36_63 e_242) (o36_349 e_242) (o36_63 e_242) (o36_349 e_242) dX12_byRights_107 (fun H locs ws_243 h u_244 => ?_)
                          replace HE : FT = g64w_X12_byRights R83 R93 (xso SM ad ws_243) r_44.toInt x4_69.toInt x5_85.toInt := HE.trans (by rw [(xso_A (i := 17) hO_245 h.2 kSM_17 rfl u_244), e_242]; rfl)
                          refine y_inc (kp := 0) (n := 1) (fun v_246 => [(5, .int v_246), (4, .int x4_69), (3, .int r_44), (0, .ref (ad 0)), (1, .int a1), (2, .int a2)]) C0 hl rfl (by decide) (by decide) (fun _ => rfl) (o36_561 b_92 b_93 hn_91 e_95 c_96 (le_min x5_85) (le_max x5_85) (le_min v_94) (le_max v_94)) (o36_562 b_92 b_93 hn_91 e_95 c_96 (le_min x5_85) (le_max x5_85) (le_min v_94) (le_max v_94)) dX12_byRights_108 (fun v_246 ls e_247 hl => ?_)
                          refine lv_goto (tgt := 93) C0.1 C0.2.1 dX12_byRights_111 (by decide) ?_
                          exact ih_89 v_246 _ _ _ _ (o36_563 b_92 b_93 hn_91 e_95 c_96 e_247) (o36_564 b_92 b_93 hn_91 e_95 c_96 e_247) (o36_565 b_92 b_93 hn_91 e_95 c_96 e_247) (((show FT = R93 (xso SM ad ws_243) r_44.toInt x4_69.toInt v_246.toInt from HE.trans (by rw [e_247]; rfl)).trans (by rw [hR93]))) h (Fr.tr hF_87 (Fr.up u_244.1 kSM_17 (by decide))) (lv_sub hl [0, 1, 2, 3, 4, 5] rfl)
                    exact lp_88 ((100 - v_83.toInt + 1).toNat) v_83 _ _ _ _ (o36_200 e_84) (o36_63 e_84) (o36_201 e_84) ((show FT = L25_X12_byRights R83 (Int.toNat (100 - v_83.toInt + 1)) (xso SM ad ws_70) r_44.toInt x4_69.toInt v_83.toInt from HE.trans (by rw [e_84]; rfl))) h Fr.rf (lv_sub hl [0, 1, 2, 3, 4, 5] rfl)
              exact lp_72 ((61 - v_67.toInt + 1).toNat) v_67 _ _ _ _ (o36_589 e_68) (o36_590 e_68) (o36_591 e_68) ((show FT = L20_X12_byRights (Int.toNat (61 - v_67.toInt + 1)) (xso SM ad ws_56) r_44.toInt v_67.toInt from HE.trans (by rw [e_68]; rfl))) h Fr.rf (lv_sub hl [0, 1, 2, 3, 4] rfl)
            · -- 49
              replace HE : FT = g19_X12_byRights R45 (xso SM ad ws_56) a1.toInt a2.toInt r_44.toInt x4_55.toInt := HE.trans (if_pos (o36_536 b_62 b_63 hn_61 e_65 c_66))
              refine lv_aload_n C0.1 C0.2.1 dX12_byRights_52 rfl (lv_at hl 2 rfl) ?_
              refine ng_X12_met C0 h kSM_0 q_1469 dX12_byRights_53 ?_
              refine lv_iload C0.1 C0.2.1 dX12_byRights_56 (lv_at hl 0 rfl) ?_
              refine lv_iload C0.1 C0.2.1 dX12_byRights_58 (lv_at hl 0 rfl) ?_
              refine y_c1 (n := 4) C0 (by decide) dX12_byRights_60 (fun v_248 e_249 => ?_)
              refine lv_iload_n C0.1 C0.2.1 dX12_byRights_61 rfl (lv_at hl 3 rfl) ?_
              refine y_cmul (n := 4) C0 (o36_20 e_249) (o36_592 e_6 e_13 e_14 e_15 c_17 (le_min a1) (le_max a1) (le_min r_10) (le_max r_10)) (o36_593 e_6 e_13 e_14 e_15 c_17 (le_min a1) (le_max a1) (le_min r_10) (le_max r_10)) dX12_byRights_62 (fun v_250 e_251 => ?_)
              refine lv_iload_n C0.1 C0.2.1 dX12_byRights_63 rfl (lv_at hl 4 rfl) ?_
              refine y_add C0 (o36_594 e_6 e_13 e_14 e_15 c_17 e_26 e_27 e_28 c_29 e_251 (le_min v_250) (le_max v_250) (le_min a2) (le_max a2) (le_min a1) (le_max a1) (le_min r_10) (le_max r_10) (le_min r_23) (le_max r_23)) (o36_595 e_6 e_13 e_14 e_15 c_17 e_26 e_27 e_28 c_29 e_251 (le_min v_250) (le_max v_250) (le_min a2) (le_max a2) (le_min a1) (le_max a1) (le_min r_10) (le_max r_10) (le_min r_23) (le_max r_23)) dX12_byRights_64 (fun v_252 e_253 => ?_)
              replace HE : FT = g65b_X12_byRights R45 (xso SM ad ws_56) v_252.toInt x4_55.toInt a1.toInt a2.toInt r_44.toInt := HE.trans (by rw [e_253, e_251]; rfl)
              refine y_icmp_ne (tgt := 72) C0 dX12_byRights_65 (by decide) (fun c_254 => ?_) (fun c_254 => ?_)
              · -- 65
                replace HE : FT = g66_X12_byRights R45 (xso SM ad ws_56) x4_55.toInt a1.toInt a2.toInt r_44.toInt := HE.trans (if_neg c_254)
                refine y_c1 (n := 0) C0 (by decide) dX12_byRights_72 (fun v_255 e_256 => ?_)
                have hO_259 := h.2
                refine y_zast C0 h kSM_16 rfl (by decide) (o36_596 e_6 e_13 e_14 e_15 c_17 e_26 e_27 e_28 c_29 b_62 b_63 hn_61 e_65 c_66 e_251 e_253 c_254) (o36_597 e_6 e_13 e_14 e_15 c_17 e_26 e_27 e_28 c_29 b_62 b_63 hn_61 e_65 c_66 e_251 e_253 c_254) (o36_63 e_256) (o36_349 e_256) (o36_63 e_256) (o36_349 e_256) dX12_byRights_73 (fun H locs ws_257 h u_258 => ?_)
                replace HE : FT = g68w_X12_byRights R45 (xso SM ad ws_257) a1.toInt a2.toInt r_44.toInt x4_55.toInt := HE.trans (by rw [(xso_A (i := 16) hO_259 h.2 kSM_16 rfl u_258), e_256]; rfl)
                refine y_inc (kp := 0) (n := 1) (fun v_260 => [(4, .int v_260), (3, .int r_44), (0, .ref (ad 0)), (1, .int a1), (2, .int a2)]) C0 hl rfl (by decide) (by decide) (fun _ => rfl) (o36_598 e_6 e_13 e_14 e_15 c_17 e_26 e_27 e_28 c_29 b_62 b_63 hn_61 e_65 c_66 e_251 e_253 c_254 (le_min x4_55) (le_max x4_55) (le_min a1) (le_max a1) (le_min r_10) (le_max r_10) (le_min r_23) (le_max r_23) (le_min a2) (le_max a2) (le_min v_64) (le_max v_64) (le_min v_250) (le_max v_250) (le_min v_252) (le_max v_252)) (o36_599 e_6 e_13 e_14 e_15 c_17 e_26 e_27 e_28 c_29 b_62 b_63 hn_61 e_65 c_66 e_251 e_253 c_254 (le_min x4_55) (le_max x4_55) (le_min a1) (le_max a1) (le_min r_10) (le_max r_10) (le_min r_23) (le_max r_23) (le_min a2) (le_max a2) (le_min v_64) (le_max v_64) (le_min v_250) (le_max v_250) (le_min v_252) (le_max v_252)) dX12_byRights_74 (fun v_260 ls e_261 hl => ?_)
                refine lv_goto (tgt := 45) C0.1 C0.2.1 dX12_byRights_77 (by decide) ?_
                exact ih_59 v_260 _ _ _ _ (o36_600 e_6 e_13 e_14 e_15 c_17 e_26 e_27 e_28 c_29 b_62 b_63 hn_61 e_65 c_66 e_251 e_253 c_254 e_261) (o36_601 e_6 e_13 e_14 e_15 c_17 e_26 e_27 e_28 c_29 b_62 b_63 hn_61 e_65 c_66 e_251 e_253 c_254 e_261) (o36_602 e_6 e_13 e_14 e_15 c_17 e_26 e_27 e_28 c_29 b_62 b_63 hn_61 e_65 c_66 e_251 e_253 c_254 e_261) (((show FT = R45 (xso SM ad ws_257) a1.toInt a2.toInt r_44.toInt v_260.toInt from HE.trans (by rw [e_261]; rfl)).trans (by rw [hR45]))) h (Fr.tr hF_57 (Fr.up u_258.1 kSM_16 (by decide))) (lv_sub hl [0, 1, 2, 3, 4] rfl)
              · -- 65
                replace HE : FT = g67_X12_byRights R45 (xso SM ad ws_56) x4_55.toInt a1.toInt a2.toInt r_44.toInt := HE.trans (if_pos c_254)
                refine y_c1 (n := 1) C0 (by decide) dX12_byRights_68 (fun v_262 e_263 => ?_)
                refine lv_goto (tgt := 73) C0.1 C0.2.1 dX12_byRights_69 (by decide) ?_
                have hO_266 := h.2
                refine y_zast C0 h kSM_16 rfl (by decide) (o36_603 e_6 e_13 e_14 e_15 c_17 e_26 e_27 e_28 c_29 b_62 b_63 hn_61 e_65 c_66 e_251 e_253 c_254) (o36_604 e_6 e_13 e_14 e_15 c_17 e_26 e_27 e_28 c_29 b_62 b_63 hn_61 e_65 c_66 e_251 e_253 c_254) (o36_414 e_263) (o36_415 e_263) (o36_414 e_263) (o36_415 e_263) dX12_byRights_73 (fun H locs ws_264 h u_265 => ?_)
                replace HE : FT = g69w_X12_byRights R45 (xso SM ad ws_264) a1.toInt a2.toInt r_44.toInt x4_55.toInt := HE.trans (by rw [(xso_A (i := 16) hO_266 h.2 kSM_16 rfl u_265), e_263]; rfl)
                refine y_inc (kp := 0) (n := 1) (fun v_267 => [(4, .int v_267), (3, .int r_44), (0, .ref (ad 0)), (1, .int a1), (2, .int a2)]) C0 hl rfl (by decide) (by decide) (fun _ => rfl) (o36_605 e_6 e_13 e_14 e_15 c_17 e_26 e_27 e_28 c_29 b_62 b_63 hn_61 e_65 c_66 e_251 e_253 c_254 (le_min x4_55) (le_max x4_55) (le_min a1) (le_max a1) (le_min r_10) (le_max r_10) (le_min r_23) (le_max r_23) (le_min a2) (le_max a2) (le_min v_64) (le_max v_64) (le_min v_250) (le_max v_250) (le_min v_252) (le_max v_252)) (o36_606 e_6 e_13 e_14 e_15 c_17 e_26 e_27 e_28 c_29 b_62 b_63 hn_61 e_65 c_66 e_251 e_253 c_254 (le_min x4_55) (le_max x4_55) (le_min a1) (le_max a1) (le_min r_10) (le_max r_10) (le_min r_23) (le_max r_23) (le_min a2) (le_max a2) (le_min v_64) (le_max v_64) (le_min v_250) (le_max v_250) (le_min v_252) (le_max v_252)) dX12_byRights_74 (fun v_267 ls e_268 hl => ?_)
                refine lv_goto (tgt := 45) C0.1 C0.2.1 dX12_byRights_77 (by decide) ?_
                exact ih_59 v_267 _ _ _ _ (o36_607 e_6 e_13 e_14 e_15 c_17 e_26 e_27 e_28 c_29 b_62 b_63 hn_61 e_65 c_66 e_251 e_253 c_254 e_268) (o36_608 e_6 e_13 e_14 e_15 c_17 e_26 e_27 e_28 c_29 b_62 b_63 hn_61 e_65 c_66 e_251 e_253 c_254 e_268) (o36_609 e_6 e_13 e_14 e_15 c_17 e_26 e_27 e_28 c_29 b_62 b_63 hn_61 e_65 c_66 e_251 e_253 c_254 e_268) (((show FT = R45 (xso SM ad ws_264) a1.toInt a2.toInt r_44.toInt v_267.toInt from HE.trans (by rw [e_268]; rfl)).trans (by rw [hR45]))) h (Fr.tr hF_57 (Fr.up u_265.1 kSM_16 (by decide))) (lv_sub hl [0, 1, 2, 3, 4] rfl)
        exact lp_58 ((100 - v_53.toInt + 1).toNat) v_53 _ _ _ _ (o36_200 e_54) (o36_63 e_54) (o36_201 e_54) ((show FT = L15_X12_byRights (Int.toNat (100 - v_53.toInt + 1)) (xso SM ad ws_41) a1.toInt a2.toInt r_44.toInt v_53.toInt from HE.trans (by rw [e_54]; rfl))) h Fr.rf (lv_sub hl [0, 1, 2, 3, 4] rfl)
      · -- 37
        replace HE : FT = g14_X12_byRights (xso SM ad ws_41) := HE.trans (if_pos (o36_74 e_47 e_48 e_51 c_52))
        refine y_c1 (n := (-1)) C0 (by decide) dX12_byRights_40 (fun v_269 e_270 => ?_)
        replace HE : FT = ((xso SM ad ws_41), v_269.toInt) := HE.trans (by rw [e_270]; rfl)
        rw [hQ]
        exact y_iret C0 h (Fr.tr (Fr.tr (Fr.tr (Fr.tr (Fr.up u_4.1 kSM_0 (by decide)) (Fr.mono u_8 (by decide))) (Fr.mono u_21 (by decide))) (Fr.mono u_33 (by decide))) (Fr.mono u_42 (by decide))) ⟨(congrArg Prod.fst (HE.symm.trans hFT)), (congrArg Prod.snd (HE.symm.trans hFT)), (o36_540 e_270), (o36_335 e_270)⟩ dX12_byRights_41
    · -- 18
      replace HE : FT = g9_X12_byRights (xso SM ad ws_20) := HE.trans (if_pos c_29)
      refine y_c2 (n := (-2)) C0 (by decide) dX12_byRights_21 (fun v_271 e_272 => ?_)
      replace HE : FT = ((xso SM ad ws_20), v_271.toInt) := HE.trans (by rw [e_272]; rfl)
      rw [hQ]
      exact y_iret C0 h (Fr.tr (Fr.tr (Fr.up u_4.1 kSM_0 (by decide)) (Fr.mono u_8 (by decide))) (Fr.mono u_21 (by decide))) ⟨(congrArg Prod.fst (HE.symm.trans hFT)), (congrArg Prod.snd (HE.symm.trans hFT)), (o36_527 e_272), (o36_361 e_272)⟩ dX12_byRights_23
