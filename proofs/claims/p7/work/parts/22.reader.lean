theorem dX5_advance_0 : decode cX5_advance 0 = .ok (.aload_n 0, 1) := by decide +kernel
theorem dX5_advance_1 : decode cX5_advance 1 = .ok (.getfield 35, 3) := by decide +kernel
theorem dX5_advance_4 : decode cX5_advance 4 = .ok (.ifCond .eq 4, 3) := by decide +kernel
theorem dX5_advance_7 : decode cX5_advance 7 = .ok (.return_, 1) := by decide +kernel
theorem dX5_advance_8 : decode cX5_advance 8 = .ok (.aload_n 0, 1) := by decide +kernel
theorem dX5_advance_9 : decode cX5_advance 9 = .ok (.aload_n 0, 1) := by decide +kernel
theorem dX5_advance_10 : decode cX5_advance 10 = .ok (.getfield 44, 3) := by decide +kernel
theorem dX5_advance_13 : decode cX5_advance 13 = .ok (.putfield 63, 3) := by decide +kernel
theorem dX5_advance_16 : decode cX5_advance 16 = .ok (.aload_n 0, 1) := by decide +kernel
theorem dX5_advance_17 : decode cX5_advance 17 = .ok (.getfield 63, 3) := by decide +kernel
theorem dX5_advance_20 : decode cX5_advance 20 = .ok (.aload_n 0, 1) := by decide +kernel
theorem dX5_advance_21 : decode cX5_advance 21 = .ok (.getfield 41, 3) := by decide +kernel
theorem dX5_advance_24 : decode cX5_advance 24 = .ok (.if_icmp .ge 44, 3) := by decide +kernel
theorem dX5_advance_27 : decode cX5_advance 27 = .ok (.aload_n 0, 1) := by decide +kernel
theorem dX5_advance_28 : decode cX5_advance 28 = .ok (.getfield 9, 3) := by decide +kernel
theorem dX5_advance_31 : decode cX5_advance 31 = .ok (.aload_n 0, 1) := by decide +kernel
theorem dX5_advance_32 : decode cX5_advance 32 = .ok (.getfield 63, 3) := by decide +kernel
theorem dX5_advance_35 : decode cX5_advance 35 = .ok (.baload, 1) := by decide +kernel
theorem dX5_advance_36 : decode cX5_advance 36 = .ok (.bipush 32, 2) := by decide +kernel
theorem dX5_advance_38 : decode cX5_advance 38 = .ok (.if_icmp .eq 17, 3) := by decide +kernel
theorem dX5_advance_41 : decode cX5_advance 41 = .ok (.aload_n 0, 1) := by decide +kernel
theorem dX5_advance_42 : decode cX5_advance 42 = .ok (.getfield 9, 3) := by decide +kernel
theorem dX5_advance_45 : decode cX5_advance 45 = .ok (.aload_n 0, 1) := by decide +kernel
theorem dX5_advance_46 : decode cX5_advance 46 = .ok (.getfield 63, 3) := by decide +kernel
theorem dX5_advance_49 : decode cX5_advance 49 = .ok (.baload, 1) := by decide +kernel
theorem dX5_advance_50 : decode cX5_advance 50 = .ok (.bipush 10, 2) := by decide +kernel
theorem dX5_advance_52 : decode cX5_advance 52 = .ok (.if_icmp .ne 16, 3) := by decide +kernel
theorem dX5_advance_55 : decode cX5_advance 55 = .ok (.aload_n 0, 1) := by decide +kernel
theorem dX5_advance_56 : decode cX5_advance 56 = .ok (.dup, 1) := by decide +kernel
theorem dX5_advance_57 : decode cX5_advance 57 = .ok (.getfield 63, 3) := by decide +kernel
theorem dX5_advance_60 : decode cX5_advance 60 = .ok (.iconst 1, 1) := by decide +kernel
theorem dX5_advance_61 : decode cX5_advance 61 = .ok (.iadd, 1) := by decide +kernel
theorem dX5_advance_62 : decode cX5_advance 62 = .ok (.putfield 63, 3) := by decide +kernel
theorem dX5_advance_65 : decode cX5_advance 65 = .ok (.goto (-49), 3) := by decide +kernel
theorem dX5_advance_68 : decode cX5_advance 68 = .ok (.aload_n 0, 1) := by decide +kernel
theorem dX5_advance_69 : decode cX5_advance 69 = .ok (.aload_n 0, 1) := by decide +kernel
theorem dX5_advance_70 : decode cX5_advance 70 = .ok (.getfield 63, 3) := by decide +kernel
theorem dX5_advance_73 : decode cX5_advance 73 = .ok (.putfield 44, 3) := by decide +kernel
theorem dX5_advance_76 : decode cX5_advance 76 = .ok (.aload_n 0, 1) := by decide +kernel
theorem dX5_advance_77 : decode cX5_advance 77 = .ok (.getfield 63, 3) := by decide +kernel
theorem dX5_advance_80 : decode cX5_advance 80 = .ok (.aload_n 0, 1) := by decide +kernel
theorem dX5_advance_81 : decode cX5_advance 81 = .ok (.getfield 41, 3) := by decide +kernel
theorem dX5_advance_84 : decode cX5_advance 84 = .ok (.if_icmp .lt 11, 3) := by decide +kernel
theorem dX5_advance_87 : decode cX5_advance 87 = .ok (.aload_n 0, 1) := by decide +kernel
theorem dX5_advance_88 : decode cX5_advance 88 = .ok (.iconst 0, 1) := by decide +kernel
theorem dX5_advance_89 : decode cX5_advance 89 = .ok (.putfield 50, 3) := by decide +kernel
theorem dX5_advance_92 : decode cX5_advance 92 = .ok (.goto 216, 3) := by decide +kernel
theorem dX5_advance_95 : decode cX5_advance 95 = .ok (.aload_n 0, 1) := by decide +kernel
theorem dX5_advance_96 : decode cX5_advance 96 = .ok (.aload_n 0, 1) := by decide +kernel
theorem dX5_advance_97 : decode cX5_advance 97 = .ok (.getfield 63, 3) := by decide +kernel
theorem dX5_advance_100 : decode cX5_advance 100 = .ok (.invokevirtual 66, 3) := by decide +kernel
theorem dX5_advance_103 : decode cX5_advance 103 = .ok (.ifCond .eq 43, 3) := by decide +kernel
theorem dX5_advance_106 : decode cX5_advance 106 = .ok (.aload_n 0, 1) := by decide +kernel
theorem dX5_advance_107 : decode cX5_advance 107 = .ok (.iconst 1, 1) := by decide +kernel
theorem dX5_advance_108 : decode cX5_advance 108 = .ok (.putfield 50, 3) := by decide +kernel
theorem dX5_advance_111 : decode cX5_advance 111 = .ok (.aload_n 0, 1) := by decide +kernel
theorem dX5_advance_112 : decode cX5_advance 112 = .ok (.getfield 44, 3) := by decide +kernel
theorem dX5_advance_115 : decode cX5_advance 115 = .ok (.aload_n 0, 1) := by decide +kernel
theorem dX5_advance_116 : decode cX5_advance 116 = .ok (.getfield 41, 3) := by decide +kernel
theorem dX5_advance_119 : decode cX5_advance 119 = .ok (.if_icmp .ge 189, 3) := by decide +kernel
theorem dX5_advance_122 : decode cX5_advance 122 = .ok (.aload_n 0, 1) := by decide +kernel
theorem dX5_advance_123 : decode cX5_advance 123 = .ok (.aload_n 0, 1) := by decide +kernel
theorem dX5_advance_124 : decode cX5_advance 124 = .ok (.getfield 44, 3) := by decide +kernel
theorem dX5_advance_127 : decode cX5_advance 127 = .ok (.invokevirtual 66, 3) := by decide +kernel
theorem dX5_advance_130 : decode cX5_advance 130 = .ok (.ifCond .eq 178, 3) := by decide +kernel
theorem dX5_advance_133 : decode cX5_advance 133 = .ok (.aload_n 0, 1) := by decide +kernel
theorem dX5_advance_134 : decode cX5_advance 134 = .ok (.dup, 1) := by decide +kernel
theorem dX5_advance_135 : decode cX5_advance 135 = .ok (.getfield 44, 3) := by decide +kernel
theorem dX5_advance_138 : decode cX5_advance 138 = .ok (.iconst 1, 1) := by decide +kernel
theorem dX5_advance_139 : decode cX5_advance 139 = .ok (.iadd, 1) := by decide +kernel
theorem dX5_advance_140 : decode cX5_advance 140 = .ok (.putfield 44, 3) := by decide +kernel
theorem dX5_advance_143 : decode cX5_advance 143 = .ok (.goto (-32), 3) := by decide +kernel
theorem dX5_advance_146 : decode cX5_advance 146 = .ok (.aload_n 0, 1) := by decide +kernel
theorem dX5_advance_147 : decode cX5_advance 147 = .ok (.aload_n 0, 1) := by decide +kernel
theorem dX5_advance_148 : decode cX5_advance 148 = .ok (.getfield 63, 3) := by decide +kernel
theorem dX5_advance_151 : decode cX5_advance 151 = .ok (.invokevirtual 70, 3) := by decide +kernel
theorem dX5_advance_154 : decode cX5_advance 154 = .ok (.ifCond .eq 93, 3) := by decide +kernel
theorem dX5_advance_157 : decode cX5_advance 157 = .ok (.aload_n 0, 1) := by decide +kernel
theorem dX5_advance_158 : decode cX5_advance 158 = .ok (.iconst 2, 1) := by decide +kernel
theorem dX5_advance_159 : decode cX5_advance 159 = .ok (.putfield 50, 3) := by decide +kernel
theorem dX5_advance_162 : decode cX5_advance 162 = .ok (.aload_n 0, 1) := by decide +kernel
theorem dX5_advance_163 : decode cX5_advance 163 = .ok (.iconst 0, 1) := by decide +kernel
theorem dX5_advance_164 : decode cX5_advance 164 = .ok (.putfield 73, 3) := by decide +kernel
theorem dX5_advance_167 : decode cX5_advance 167 = .ok (.aload_n 0, 1) := by decide +kernel
theorem dX5_advance_168 : decode cX5_advance 168 = .ok (.getfield 44, 3) := by decide +kernel
theorem dX5_advance_171 : decode cX5_advance 171 = .ok (.aload_n 0, 1) := by decide +kernel
theorem dX5_advance_172 : decode cX5_advance 172 = .ok (.getfield 41, 3) := by decide +kernel
theorem dX5_advance_175 : decode cX5_advance 175 = .ok (.if_icmp .ge 51, 3) := by decide +kernel
theorem dX5_advance_178 : decode cX5_advance 178 = .ok (.aload_n 0, 1) := by decide +kernel
theorem dX5_advance_179 : decode cX5_advance 179 = .ok (.aload_n 0, 1) := by decide +kernel
theorem dX5_advance_180 : decode cX5_advance 180 = .ok (.getfield 44, 3) := by decide +kernel
theorem dX5_advance_183 : decode cX5_advance 183 = .ok (.invokevirtual 70, 3) := by decide +kernel
theorem dX5_advance_186 : decode cX5_advance 186 = .ok (.ifCond .eq 40, 3) := by decide +kernel
theorem dX5_advance_189 : decode cX5_advance 189 = .ok (.aload_n 0, 1) := by decide +kernel
theorem dX5_advance_190 : decode cX5_advance 190 = .ok (.aload_n 0, 1) := by decide +kernel
theorem dX5_advance_191 : decode cX5_advance 191 = .ok (.getfield 73, 3) := by decide +kernel
theorem dX5_advance_194 : decode cX5_advance 194 = .ok (.bipush 10, 2) := by decide +kernel
theorem dX5_advance_196 : decode cX5_advance 196 = .ok (.imul, 1) := by decide +kernel
theorem dX5_advance_197 : decode cX5_advance 197 = .ok (.aload_n 0, 1) := by decide +kernel
theorem dX5_advance_198 : decode cX5_advance 198 = .ok (.getfield 9, 3) := by decide +kernel
theorem dX5_advance_201 : decode cX5_advance 201 = .ok (.aload_n 0, 1) := by decide +kernel
theorem dX5_advance_202 : decode cX5_advance 202 = .ok (.getfield 44, 3) := by decide +kernel
theorem dX5_advance_205 : decode cX5_advance 205 = .ok (.baload, 1) := by decide +kernel
theorem dX5_advance_206 : decode cX5_advance 206 = .ok (.iadd, 1) := by decide +kernel
theorem dX5_advance_207 : decode cX5_advance 207 = .ok (.bipush 48, 2) := by decide +kernel
theorem dX5_advance_209 : decode cX5_advance 209 = .ok (.isub, 1) := by decide +kernel
theorem dX5_advance_210 : decode cX5_advance 210 = .ok (.putfield 73, 3) := by decide +kernel
theorem dX5_advance_213 : decode cX5_advance 213 = .ok (.aload_n 0, 1) := by decide +kernel
theorem dX5_advance_214 : decode cX5_advance 214 = .ok (.dup, 1) := by decide +kernel
theorem dX5_advance_215 : decode cX5_advance 215 = .ok (.getfield 44, 3) := by decide +kernel
theorem dX5_advance_218 : decode cX5_advance 218 = .ok (.iconst 1, 1) := by decide +kernel
theorem dX5_advance_219 : decode cX5_advance 219 = .ok (.iadd, 1) := by decide +kernel
theorem dX5_advance_220 : decode cX5_advance 220 = .ok (.putfield 44, 3) := by decide +kernel
theorem dX5_advance_223 : decode cX5_advance 223 = .ok (.goto (-56), 3) := by decide +kernel
theorem dX5_advance_226 : decode cX5_advance 226 = .ok (.aload_n 0, 1) := by decide +kernel
theorem dX5_advance_227 : decode cX5_advance 227 = .ok (.getfield 44, 3) := by decide +kernel
theorem dX5_advance_230 : decode cX5_advance 230 = .ok (.aload_n 0, 1) := by decide +kernel
theorem dX5_advance_231 : decode cX5_advance 231 = .ok (.getfield 63, 3) := by decide +kernel
theorem dX5_advance_234 : decode cX5_advance 234 = .ok (.isub, 1) := by decide +kernel
theorem dX5_advance_235 : decode cX5_advance 235 = .ok (.iconst 3, 1) := by decide +kernel
theorem dX5_advance_236 : decode cX5_advance 236 = .ok (.if_icmp .le 72, 3) := by decide +kernel
theorem dX5_advance_239 : decode cX5_advance 239 = .ok (.aload_n 0, 1) := by decide +kernel
theorem dX5_advance_240 : decode cX5_advance 240 = .ok (.iconst 1, 1) := by decide +kernel
theorem dX5_advance_241 : decode cX5_advance 241 = .ok (.invokevirtual 76, 3) := by decide +kernel
theorem dX5_advance_244 : decode cX5_advance 244 = .ok (.goto 64, 3) := by decide +kernel
theorem dX5_advance_247 : decode cX5_advance 247 = .ok (.aload_n 0, 1) := by decide +kernel
theorem dX5_advance_248 : decode cX5_advance 248 = .ok (.getfield 9, 3) := by decide +kernel
theorem dX5_advance_251 : decode cX5_advance 251 = .ok (.aload_n 0, 1) := by decide +kernel
theorem dX5_advance_252 : decode cX5_advance 252 = .ok (.getfield 63, 3) := by decide +kernel
theorem dX5_advance_255 : decode cX5_advance 255 = .ok (.baload, 1) := by decide +kernel
theorem dX5_advance_256 : decode cX5_advance 256 = .ok (.ifCond .le 47, 3) := by decide +kernel
theorem dX5_advance_259 : decode cX5_advance 259 = .ok (.ldc 80, 2) := by decide +kernel
theorem dX5_advance_261 : decode cX5_advance 261 = .ok (.aload_n 0, 1) := by decide +kernel
theorem dX5_advance_262 : decode cX5_advance 262 = .ok (.getfield 9, 3) := by decide +kernel
theorem dX5_advance_265 : decode cX5_advance 265 = .ok (.aload_n 0, 1) := by decide +kernel
theorem dX5_advance_266 : decode cX5_advance 266 = .ok (.getfield 63, 3) := by decide +kernel
theorem dX5_advance_269 : decode cX5_advance 269 = .ok (.baload, 1) := by decide +kernel
theorem dX5_advance_270 : decode cX5_advance 270 = .ok (.i2c, 1) := by decide +kernel
theorem dX5_advance_271 : decode cX5_advance 271 = .ok (.invokevirtual 82, 3) := by decide +kernel
theorem dX5_advance_274 : decode cX5_advance 274 = .ok (.ifCond .lt 29, 3) := by decide +kernel
theorem dX5_advance_277 : decode cX5_advance 277 = .ok (.aload_n 0, 1) := by decide +kernel
theorem dX5_advance_278 : decode cX5_advance 278 = .ok (.aload_n 0, 1) := by decide +kernel
theorem dX5_advance_279 : decode cX5_advance 279 = .ok (.getfield 9, 3) := by decide +kernel
theorem dX5_advance_282 : decode cX5_advance 282 = .ok (.aload_n 0, 1) := by decide +kernel
theorem dX5_advance_283 : decode cX5_advance 283 = .ok (.getfield 63, 3) := by decide +kernel
theorem dX5_advance_286 : decode cX5_advance 286 = .ok (.baload, 1) := by decide +kernel
theorem dX5_advance_287 : decode cX5_advance 287 = .ok (.putfield 50, 3) := by decide +kernel
theorem dX5_advance_290 : decode cX5_advance 290 = .ok (.aload_n 0, 1) := by decide +kernel
theorem dX5_advance_291 : decode cX5_advance 291 = .ok (.dup, 1) := by decide +kernel
theorem dX5_advance_292 : decode cX5_advance 292 = .ok (.getfield 44, 3) := by decide +kernel
theorem dX5_advance_295 : decode cX5_advance 295 = .ok (.iconst 1, 1) := by decide +kernel
theorem dX5_advance_296 : decode cX5_advance 296 = .ok (.iadd, 1) := by decide +kernel
theorem dX5_advance_297 : decode cX5_advance 297 = .ok (.putfield 44, 3) := by decide +kernel
theorem dX5_advance_300 : decode cX5_advance 300 = .ok (.goto 8, 3) := by decide +kernel
theorem dX5_advance_303 : decode cX5_advance 303 = .ok (.aload_n 0, 1) := by decide +kernel
theorem dX5_advance_304 : decode cX5_advance 304 = .ok (.iconst 1, 1) := by decide +kernel
theorem dX5_advance_305 : decode cX5_advance 305 = .ok (.invokevirtual 76, 3) := by decide +kernel
theorem dX5_advance_308 : decode cX5_advance 308 = .ok (.return_, 1) := by decide +kernel
theorem dX5_bounded_0 : decode cX5_bounded 0 = .ok (.aload_n 0, 1) := by decide +kernel
theorem dX5_bounded_1 : decode cX5_bounded 1 = .ok (.getfield 50, 3) := by decide +kernel
theorem dX5_bounded_4 : decode cX5_bounded 4 = .ok (.iconst 2, 1) := by decide +kernel
theorem dX5_bounded_5 : decode cX5_bounded 5 = .ok (.if_icmp .eq 10, 3) := by decide +kernel
theorem dX5_bounded_8 : decode cX5_bounded 8 = .ok (.aload_n 0, 1) := by decide +kernel
theorem dX5_bounded_9 : decode cX5_bounded 9 = .ok (.iconst 2, 1) := by decide +kernel
theorem dX5_bounded_10 : decode cX5_bounded 10 = .ok (.invokevirtual 76, 3) := by decide +kernel
theorem dX5_bounded_13 : decode cX5_bounded 13 = .ok (.iload_n 1, 1) := by decide +kernel
theorem dX5_bounded_14 : decode cX5_bounded 14 = .ok (.ireturn, 1) := by decide +kernel
theorem dX5_bounded_15 : decode cX5_bounded 15 = .ok (.aload_n 0, 1) := by decide +kernel
theorem dX5_bounded_16 : decode cX5_bounded 16 = .ok (.getfield 73, 3) := by decide +kernel
theorem dX5_bounded_19 : decode cX5_bounded 19 = .ok (.iload_n 1, 1) := by decide +kernel
theorem dX5_bounded_20 : decode cX5_bounded 20 = .ok (.if_icmp .lt 11, 3) := by decide +kernel
theorem dX5_bounded_23 : decode cX5_bounded 23 = .ok (.aload_n 0, 1) := by decide +kernel
theorem dX5_bounded_24 : decode cX5_bounded 24 = .ok (.getfield 73, 3) := by decide +kernel
theorem dX5_bounded_27 : decode cX5_bounded 27 = .ok (.iload_n 2, 1) := by decide +kernel
theorem dX5_bounded_28 : decode cX5_bounded 28 = .ok (.if_icmp .le 10, 3) := by decide +kernel
theorem dX5_bounded_31 : decode cX5_bounded 31 = .ok (.aload_n 0, 1) := by decide +kernel
theorem dX5_bounded_32 : decode cX5_bounded 32 = .ok (.iconst 3, 1) := by decide +kernel
theorem dX5_bounded_33 : decode cX5_bounded 33 = .ok (.invokevirtual 76, 3) := by decide +kernel
theorem dX5_bounded_36 : decode cX5_bounded 36 = .ok (.iload_n 1, 1) := by decide +kernel
theorem dX5_bounded_37 : decode cX5_bounded 37 = .ok (.ireturn, 1) := by decide +kernel
theorem dX5_bounded_38 : decode cX5_bounded 38 = .ok (.aload_n 0, 1) := by decide +kernel
theorem dX5_bounded_39 : decode cX5_bounded 39 = .ok (.getfield 73, 3) := by decide +kernel
theorem dX5_bounded_42 : decode cX5_bounded 42 = .ok (.istore_n 3, 1) := by decide +kernel
theorem dX5_bounded_43 : decode cX5_bounded 43 = .ok (.aload_n 0, 1) := by decide +kernel
theorem dX5_bounded_44 : decode cX5_bounded 44 = .ok (.invokevirtual 47, 3) := by decide +kernel
theorem dX5_bounded_47 : decode cX5_bounded 47 = .ok (.iload_n 3, 1) := by decide +kernel
theorem dX5_bounded_48 : decode cX5_bounded 48 = .ok (.ireturn, 1) := by decide +kernel
theorem dX5_fail_0 : decode cX5_fail 0 = .ok (.aload_n 0, 1) := by decide +kernel
theorem dX5_fail_1 : decode cX5_fail 1 = .ok (.getfield 35, 3) := by decide +kernel
theorem dX5_fail_4 : decode cX5_fail 4 = .ok (.ifCond .ne 16, 3) := by decide +kernel
theorem dX5_fail_7 : decode cX5_fail 7 = .ok (.aload_n 0, 1) := by decide +kernel
theorem dX5_fail_8 : decode cX5_fail 8 = .ok (.iload_n 1, 1) := by decide +kernel
theorem dX5_fail_9 : decode cX5_fail 9 = .ok (.putfield 35, 3) := by decide +kernel
theorem dX5_fail_12 : decode cX5_fail 12 = .ok (.aload_n 0, 1) := by decide +kernel
theorem dX5_fail_13 : decode cX5_fail 13 = .ok (.aload_n 0, 1) := by decide +kernel
theorem dX5_fail_14 : decode cX5_fail 14 = .ok (.getfield 63, 3) := by decide +kernel
theorem dX5_fail_17 : decode cX5_fail 17 = .ok (.putfield 15, 3) := by decide +kernel
theorem dX5_fail_20 : decode cX5_fail 20 = .ok (.aload_n 0, 1) := by decide +kernel
theorem dX5_fail_21 : decode cX5_fail 21 = .ok (.iconst 0, 1) := by decide +kernel
theorem dX5_fail_22 : decode cX5_fail 22 = .ok (.putfield 50, 3) := by decide +kernel
theorem dX5_fail_25 : decode cX5_fail 25 = .ok (.return_, 1) := by decide +kernel
theorem dX5_faultKind_0 : decode cX5_faultKind 0 = .ok (.aload_n 0, 1) := by decide +kernel
theorem dX5_faultKind_1 : decode cX5_faultKind 1 = .ok (.getfield 35, 3) := by decide +kernel
theorem dX5_faultKind_4 : decode cX5_faultKind 4 = .ok (.ireturn, 1) := by decide +kernel
theorem dX5_faultPlace_0 : decode cX5_faultPlace 0 = .ok (.aload_n 0, 1) := by decide +kernel
theorem dX5_faultPlace_1 : decode cX5_faultPlace 1 = .ok (.getfield 15, 3) := by decide +kernel
theorem dX5_faultPlace_4 : decode cX5_faultPlace 4 = .ok (.ireturn, 1) := by decide +kernel
theorem dX5_fed_0 : decode cX5_fed 0 = .ok (.aload_n 0, 1) := by decide +kernel
theorem dX5_fed_1 : decode cX5_fed 1 = .ok (.getfield 32, 3) := by decide +kernel
theorem dX5_fed_4 : decode cX5_fed 4 = .ok (.ireturn, 1) := by decide +kernel
theorem dX5_hasRoom_0 : decode cX5_hasRoom 0 = .ok (.aload_n 0, 1) := by decide +kernel
theorem dX5_hasRoom_1 : decode cX5_hasRoom 1 = .ok (.getfield 32, 3) := by decide +kernel
theorem dX5_hasRoom_4 : decode cX5_hasRoom 4 = .ok (.bipush 20, 2) := by decide +kernel
theorem dX5_hasRoom_6 : decode cX5_hasRoom 6 = .ok (.iadd, 1) := by decide +kernel
theorem dX5_hasRoom_7 : decode cX5_hasRoom 7 = .ok (.sipush 900, 3) := by decide +kernel
theorem dX5_hasRoom_10 : decode cX5_hasRoom 10 = .ok (.if_icmp .gt 7, 3) := by decide +kernel
theorem dX5_hasRoom_13 : decode cX5_hasRoom 13 = .ok (.iconst 1, 1) := by decide +kernel
theorem dX5_hasRoom_14 : decode cX5_hasRoom 14 = .ok (.goto 4, 3) := by decide +kernel
theorem dX5_hasRoom_17 : decode cX5_hasRoom 17 = .ok (.iconst 0, 1) := by decide +kernel
theorem dX5_hasRoom_18 : decode cX5_hasRoom 18 = .ok (.ireturn, 1) := by decide +kernel
theorem dX5_isDigit_0 : decode cX5_isDigit 0 = .ok (.aload_n 0, 1) := by decide +kernel
theorem dX5_isDigit_1 : decode cX5_isDigit 1 = .ok (.getfield 9, 3) := by decide +kernel
theorem dX5_isDigit_4 : decode cX5_isDigit 4 = .ok (.iload_n 1, 1) := by decide +kernel
theorem dX5_isDigit_5 : decode cX5_isDigit 5 = .ok (.baload, 1) := by decide +kernel
theorem dX5_isDigit_6 : decode cX5_isDigit 6 = .ok (.bipush 48, 2) := by decide +kernel
theorem dX5_isDigit_8 : decode cX5_isDigit 8 = .ok (.if_icmp .lt 18, 3) := by decide +kernel
theorem dX5_isDigit_11 : decode cX5_isDigit 11 = .ok (.aload_n 0, 1) := by decide +kernel
theorem dX5_isDigit_12 : decode cX5_isDigit 12 = .ok (.getfield 9, 3) := by decide +kernel
theorem dX5_isDigit_15 : decode cX5_isDigit 15 = .ok (.iload_n 1, 1) := by decide +kernel
theorem dX5_isDigit_16 : decode cX5_isDigit 16 = .ok (.baload, 1) := by decide +kernel
theorem dX5_isDigit_17 : decode cX5_isDigit 17 = .ok (.bipush 57, 2) := by decide +kernel
theorem dX5_isDigit_19 : decode cX5_isDigit 19 = .ok (.if_icmp .gt 7, 3) := by decide +kernel
theorem dX5_isDigit_22 : decode cX5_isDigit 22 = .ok (.iconst 1, 1) := by decide +kernel
theorem dX5_isDigit_23 : decode cX5_isDigit 23 = .ok (.goto 4, 3) := by decide +kernel
theorem dX5_isDigit_26 : decode cX5_isDigit 26 = .ok (.iconst 0, 1) := by decide +kernel
theorem dX5_isDigit_27 : decode cX5_isDigit 27 = .ok (.ireturn, 1) := by decide +kernel
theorem dX5_isSmall_0 : decode cX5_isSmall 0 = .ok (.aload_n 0, 1) := by decide +kernel
theorem dX5_isSmall_1 : decode cX5_isSmall 1 = .ok (.getfield 9, 3) := by decide +kernel
theorem dX5_isSmall_4 : decode cX5_isSmall 4 = .ok (.iload_n 1, 1) := by decide +kernel
theorem dX5_isSmall_5 : decode cX5_isSmall 5 = .ok (.baload, 1) := by decide +kernel
theorem dX5_isSmall_6 : decode cX5_isSmall 6 = .ok (.bipush 97, 2) := by decide +kernel
theorem dX5_isSmall_8 : decode cX5_isSmall 8 = .ok (.if_icmp .lt 18, 3) := by decide +kernel
theorem dX5_isSmall_11 : decode cX5_isSmall 11 = .ok (.aload_n 0, 1) := by decide +kernel
theorem dX5_isSmall_12 : decode cX5_isSmall 12 = .ok (.getfield 9, 3) := by decide +kernel
theorem dX5_isSmall_15 : decode cX5_isSmall 15 = .ok (.iload_n 1, 1) := by decide +kernel
theorem dX5_isSmall_16 : decode cX5_isSmall 16 = .ok (.baload, 1) := by decide +kernel
theorem dX5_isSmall_17 : decode cX5_isSmall 17 = .ok (.bipush 122, 2) := by decide +kernel
theorem dX5_isSmall_19 : decode cX5_isSmall 19 = .ok (.if_icmp .gt 7, 3) := by decide +kernel
theorem dX5_isSmall_22 : decode cX5_isSmall 22 = .ok (.iconst 1, 1) := by decide +kernel
theorem dX5_isSmall_23 : decode cX5_isSmall 23 = .ok (.goto 4, 3) := by decide +kernel
theorem dX5_isSmall_26 : decode cX5_isSmall 26 = .ok (.iconst 0, 1) := by decide +kernel
theorem dX5_isSmall_27 : decode cX5_isSmall 27 = .ok (.ireturn, 1) := by decide +kernel
theorem dX5_isWord_0 : decode cX5_isWord 0 = .ok (.aload_n 0, 1) := by decide +kernel
theorem dX5_isWord_1 : decode cX5_isWord 1 = .ok (.getfield 50, 3) := by decide +kernel
theorem dX5_isWord_4 : decode cX5_isWord 4 = .ok (.iconst 1, 1) := by decide +kernel
theorem dX5_isWord_5 : decode cX5_isWord 5 = .ok (.if_icmp .ne 19, 3) := by decide +kernel
theorem dX5_isWord_8 : decode cX5_isWord 8 = .ok (.aload_n 0, 1) := by decide +kernel
theorem dX5_isWord_9 : decode cX5_isWord 9 = .ok (.getfield 44, 3) := by decide +kernel
theorem dX5_isWord_12 : decode cX5_isWord 12 = .ok (.aload_n 0, 1) := by decide +kernel
theorem dX5_isWord_13 : decode cX5_isWord 13 = .ok (.getfield 63, 3) := by decide +kernel
theorem dX5_isWord_16 : decode cX5_isWord 16 = .ok (.isub, 1) := by decide +kernel
theorem dX5_isWord_17 : decode cX5_isWord 17 = .ok (.aload_n 1, 1) := by decide +kernel
theorem dX5_isWord_18 : decode cX5_isWord 18 = .ok (.invokevirtual 88, 3) := by decide +kernel
theorem dX5_isWord_21 : decode cX5_isWord 21 = .ok (.if_icmp .eq 5, 3) := by decide +kernel
theorem dX5_isWord_24 : decode cX5_isWord 24 = .ok (.iconst 0, 1) := by decide +kernel
theorem dX5_isWord_25 : decode cX5_isWord 25 = .ok (.ireturn, 1) := by decide +kernel
theorem dX5_isWord_26 : decode cX5_isWord 26 = .ok (.iconst 0, 1) := by decide +kernel
theorem dX5_isWord_27 : decode cX5_isWord 27 = .ok (.istore_n 2, 1) := by decide +kernel
theorem dX5_isWord_28 : decode cX5_isWord 28 = .ok (.iload_n 2, 1) := by decide +kernel
theorem dX5_isWord_29 : decode cX5_isWord 29 = .ok (.aload_n 1, 1) := by decide +kernel
theorem dX5_isWord_30 : decode cX5_isWord 30 = .ok (.invokevirtual 88, 3) := by decide +kernel
theorem dX5_isWord_33 : decode cX5_isWord 33 = .ok (.if_icmp .ge 30, 3) := by decide +kernel
theorem dX5_isWord_36 : decode cX5_isWord 36 = .ok (.aload_n 0, 1) := by decide +kernel
theorem dX5_isWord_37 : decode cX5_isWord 37 = .ok (.getfield 9, 3) := by decide +kernel
theorem dX5_isWord_40 : decode cX5_isWord 40 = .ok (.aload_n 0, 1) := by decide +kernel
theorem dX5_isWord_41 : decode cX5_isWord 41 = .ok (.getfield 63, 3) := by decide +kernel
theorem dX5_isWord_44 : decode cX5_isWord 44 = .ok (.iload_n 2, 1) := by decide +kernel
theorem dX5_isWord_45 : decode cX5_isWord 45 = .ok (.iadd, 1) := by decide +kernel
theorem dX5_isWord_46 : decode cX5_isWord 46 = .ok (.baload, 1) := by decide +kernel
theorem dX5_isWord_47 : decode cX5_isWord 47 = .ok (.aload_n 1, 1) := by decide +kernel
theorem dX5_isWord_48 : decode cX5_isWord 48 = .ok (.iload_n 2, 1) := by decide +kernel
theorem dX5_isWord_49 : decode cX5_isWord 49 = .ok (.invokevirtual 91, 3) := by decide +kernel
theorem dX5_isWord_52 : decode cX5_isWord 52 = .ok (.if_icmp .eq 5, 3) := by decide +kernel
theorem dX5_isWord_55 : decode cX5_isWord 55 = .ok (.iconst 0, 1) := by decide +kernel
theorem dX5_isWord_56 : decode cX5_isWord 56 = .ok (.ireturn, 1) := by decide +kernel
theorem dX5_isWord_57 : decode cX5_isWord 57 = .ok (.iinc 2 1, 3) := by decide +kernel
theorem dX5_isWord_60 : decode cX5_isWord 60 = .ok (.goto (-32), 3) := by decide +kernel
theorem dX5_isWord_63 : decode cX5_isWord 63 = .ok (.iconst 1, 1) := by decide +kernel
theorem dX5_isWord_64 : decode cX5_isWord 64 = .ok (.ireturn, 1) := by decide +kernel
theorem dX5_put_0 : decode cX5_put 0 = .ok (.bipush 24, 2) := by decide +kernel
theorem dX5_put_2 : decode cX5_put 2 = .ok (.istore_n 2, 1) := by decide +kernel
theorem dX5_put_3 : decode cX5_put 3 = .ok (.iload_n 2, 1) := by decide +kernel
theorem dX5_put_4 : decode cX5_put 4 = .ok (.ifCond .lt 42, 3) := by decide +kernel
theorem dX5_put_7 : decode cX5_put 7 = .ok (.aload_n 0, 1) := by decide +kernel
theorem dX5_put_8 : decode cX5_put 8 = .ok (.getfield 32, 3) := by decide +kernel
theorem dX5_put_11 : decode cX5_put 11 = .ok (.sipush 900, 3) := by decide +kernel
theorem dX5_put_14 : decode cX5_put 14 = .ok (.if_icmp .ge 32, 3) := by decide +kernel
theorem dX5_put_17 : decode cX5_put 17 = .ok (.aload_n 0, 1) := by decide +kernel
theorem dX5_put_18 : decode cX5_put 18 = .ok (.getfield 9, 3) := by decide +kernel
theorem dX5_put_21 : decode cX5_put 21 = .ok (.aload_n 0, 1) := by decide +kernel
theorem dX5_put_22 : decode cX5_put 22 = .ok (.getfield 32, 3) := by decide +kernel
theorem dX5_put_25 : decode cX5_put 25 = .ok (.iload_n 1, 1) := by decide +kernel
theorem dX5_put_26 : decode cX5_put 26 = .ok (.iload_n 2, 1) := by decide +kernel
theorem dX5_put_27 : decode cX5_put 27 = .ok (.ishr, 1) := by decide +kernel
theorem dX5_put_28 : decode cX5_put 28 = .ok (.i2b, 1) := by decide +kernel
theorem dX5_put_29 : decode cX5_put 29 = .ok (.bastore, 1) := by decide +kernel
theorem dX5_put_30 : decode cX5_put 30 = .ok (.aload_n 0, 1) := by decide +kernel
theorem dX5_put_31 : decode cX5_put 31 = .ok (.dup, 1) := by decide +kernel
theorem dX5_put_32 : decode cX5_put 32 = .ok (.getfield 32, 3) := by decide +kernel
theorem dX5_put_35 : decode cX5_put 35 = .ok (.iconst 1, 1) := by decide +kernel
theorem dX5_put_36 : decode cX5_put 36 = .ok (.iadd, 1) := by decide +kernel
theorem dX5_put_37 : decode cX5_put 37 = .ok (.putfield 32, 3) := by decide +kernel
theorem dX5_put_40 : decode cX5_put 40 = .ok (.iinc 2 (-8), 3) := by decide +kernel
theorem dX5_put_43 : decode cX5_put 43 = .ok (.goto (-40), 3) := by decide +kernel
theorem dX5_put_46 : decode cX5_put 46 = .ok (.return_, 1) := by decide +kernel
theorem dX5_sign_0 : decode cX5_sign 0 = .ok (.aload_n 0, 1) := by decide +kernel
theorem dX5_sign_1 : decode cX5_sign 1 = .ok (.getfield 50, 3) := by decide +kernel
theorem dX5_sign_4 : decode cX5_sign 4 = .ok (.iload_n 1, 1) := by decide +kernel
theorem dX5_sign_5 : decode cX5_sign 5 = .ok (.if_icmp .ne 10, 3) := by decide +kernel
theorem dX5_sign_8 : decode cX5_sign 8 = .ok (.aload_n 0, 1) := by decide +kernel
theorem dX5_sign_9 : decode cX5_sign 9 = .ok (.invokevirtual 47, 3) := by decide +kernel
theorem dX5_sign_12 : decode cX5_sign 12 = .ok (.goto 8, 3) := by decide +kernel
theorem dX5_sign_15 : decode cX5_sign 15 = .ok (.aload_n 0, 1) := by decide +kernel
theorem dX5_sign_16 : decode cX5_sign 16 = .ok (.iconst 2, 1) := by decide +kernel
theorem dX5_sign_17 : decode cX5_sign 17 = .ok (.invokevirtual 76, 3) := by decide +kernel
theorem dX5_sign_20 : decode cX5_sign 20 = .ok (.return_, 1) := by decide +kernel
theorem o22_1 {x0 x1 : Int} (h0 : 0 ≤ x0) (h1 : x0 ≤ 900) (h2 : x1 = 20) (h3 : -2147483648 ≤ x0) (h4 : x0 ≤ 2147483647) (h5 : -2147483648 ≤ x1) (h6 : x1 ≤ 2147483647) : -2147483648 ≤ x0 + x1 := by omega
theorem o22_2 {x0 x1 : Int} (h0 : 0 ≤ x0) (h1 : x0 ≤ 900) (h2 : x1 = 20) (h3 : -2147483648 ≤ x0) (h4 : x0 ≤ 2147483647) (h5 : -2147483648 ≤ x1) (h6 : x1 ≤ 2147483647) : x0 + x1 ≤ 2147483647 := by omega
theorem o22_3 {x0 : Int} (h0 : x0 = 900) : x0 = 900 := by omega
theorem o22_4 {x0 x1 x2 x3 : Int} (h0 : 0 ≤ x1) (h1 : x1 ≤ 900) (h2 : x2 = 20) (h3 : x0 = x1 + x2) (h4 : x3 = 900) (h5 : x3 < x0) : 900 < x0 := by omega
theorem o22_5 {x0 x1 x2 x3 : Int} (h0 : 0 ≤ x1) (h1 : x1 ≤ 900) (h2 : x2 = 20) (h3 : x0 = x1 + x2) (h4 : x3 = 900) (h5 : x0 ≤ x3) : ¬ 900 < x0 := by omega
theorem o22_6 {x0 : Int} (h0 : x0 = 0) : 0 ≤ x0 := by omega
theorem o22_7 {x0 : Int} (h0 : x0 = 0) : x0 ≤ 1 := by omega
theorem o22_8 {x0 : Int} (h0 : x0 = 1) : 0 ≤ x0 := by omega
theorem o22_9 {x0 : Int} (h0 : x0 = 1) : x0 ≤ 1 := by omega
theorem o22_10 {x0 : Int} (h0 : 0 ≤ x0) (h1 : x0 ≤ 900) : 0 ≤ x0 := by omega
theorem o22_11 {x0 : Int} (h0 : 0 ≤ x0) (h1 : x0 ≤ 900) : x0 ≤ 900 := by omega
theorem o22_12 {x0 : Int} (h0 : (-8) ≤ x0) (h1 : x0 ≤ 24) (h2 : x0 - (-8) < 0) : False := by omega
theorem o22_13 {x0 x1 : Int} (h0 : 0 ≤ x0) (h1 : x0 ≤ 900) (h2 : x1 = 900) (h3 : x1 ≤ x0) : ¬ x0 < 900 := by omega
theorem o22_14 {x0 x1 : Int} (h0 : 0 ≤ x0) (h1 : x0 ≤ 900) (h2 : x1 = 900) (h3 : x0 < x1) : x0 < 900 := by omega
theorem o22_15 {x0 x1 x2 : Int} (h0 : 0 ≤ x1) (h1 : x1 ≤ 900) (h2 : x2 = 900) (h3 : x1 < x2) (h4 : 0 ≤ x0) (h5 : x0 ≤ 900) (h6 : x0 = x1) : 0 ≤ x0 := by omega
theorem o22_16 {x0 x1 x2 : Int} (h0 : 0 ≤ x1) (h1 : x1 ≤ 900) (h2 : x2 = 900) (h3 : x1 < x2) (h4 : 0 ≤ x0) (h5 : x0 ≤ 900) (h6 : x0 = x1) : x0 < (900 : Nat) := by omega
theorem o22_17 {x0 x1 x2 x3 x4 : Int} (h0 : 0 ≤ x2) (h1 : x2 ≤ 900) (h2 : x3 = 900) (h3 : x2 < x3) (h4 : 0 ≤ x4) (h5 : x4 ≤ 900) (h6 : x4 = x2) (h7 : 0 ≤ x0) (h8 : x0 ≤ 900) (h9 : x0 = x2) (h10 : x1 = 1) (h11 : -2147483648 ≤ x0) (h12 : x0 ≤ 2147483647) (h13 : -2147483648 ≤ x1) (h14 : x1 ≤ 2147483647) (h15 : -2147483648 ≤ x2) (h16 : x2 ≤ 2147483647) (h17 : -2147483648 ≤ x3) (h18 : x3 ≤ 2147483647) (h19 : -2147483648 ≤ x4) (h20 : x4 ≤ 2147483647) : -2147483648 ≤ x0 + x1 := by omega
theorem o22_18 {x0 x1 x2 x3 x4 : Int} (h0 : 0 ≤ x2) (h1 : x2 ≤ 900) (h2 : x3 = 900) (h3 : x2 < x3) (h4 : 0 ≤ x4) (h5 : x4 ≤ 900) (h6 : x4 = x2) (h7 : 0 ≤ x0) (h8 : x0 ≤ 900) (h9 : x0 = x2) (h10 : x1 = 1) (h11 : -2147483648 ≤ x0) (h12 : x0 ≤ 2147483647) (h13 : -2147483648 ≤ x1) (h14 : x1 ≤ 2147483647) (h15 : -2147483648 ≤ x2) (h16 : x2 ≤ 2147483647) (h17 : -2147483648 ≤ x3) (h18 : x3 ≤ 2147483647) (h19 : -2147483648 ≤ x4) (h20 : x4 ≤ 2147483647) : x0 + x1 ≤ 2147483647 := by omega
theorem o22_19 {x0 x1 x2 x3 x4 x5 : Int} (h0 : 0 ≤ x1) (h1 : x1 ≤ 900) (h2 : x2 = 900) (h3 : x1 < x2) (h4 : 0 ≤ x3) (h5 : x3 ≤ 900) (h6 : x3 = x1) (h7 : 0 ≤ x4) (h8 : x4 ≤ 900) (h9 : x4 = x1) (h10 : x5 = 1) (h11 : x0 = x4 + x5) : 0 ≤ x0 := by omega
theorem o22_20 {x0 x1 x2 x3 x4 x5 : Int} (h0 : 0 ≤ x1) (h1 : x1 ≤ 900) (h2 : x2 = 900) (h3 : x1 < x2) (h4 : 0 ≤ x3) (h5 : x3 ≤ 900) (h6 : x3 = x1) (h7 : 0 ≤ x4) (h8 : x4 ≤ 900) (h9 : x4 = x1) (h10 : x5 = 1) (h11 : x0 = x4 + x5) : x0 ≤ 900 := by omega
theorem o22_21 {x0 : Int} {x1 : Nat} (h0 : (-8) ≤ x0) (h1 : x0 ≤ 24) (h2 : x0 - (-8) < ((x1 + 1 : Nat) : Int)) (h3 : 0 ≤ x0) (h4 : -2147483648 ≤ x0) (h5 : x0 ≤ 2147483647) : -2147483648 ≤ x0 + (-8) := by omega
theorem o22_22 {x0 : Int} {x1 : Nat} (h0 : (-8) ≤ x0) (h1 : x0 ≤ 24) (h2 : x0 - (-8) < ((x1 + 1 : Nat) : Int)) (h3 : 0 ≤ x0) (h4 : -2147483648 ≤ x0) (h5 : x0 ≤ 2147483647) : x0 + (-8) ≤ 2147483647 := by omega
theorem o22_23 {x0 x2 : Int} {x1 : Nat} (h0 : (-8) ≤ x2) (h1 : x2 ≤ 24) (h2 : x2 - (-8) < ((x1 + 1 : Nat) : Int)) (h3 : 0 ≤ x2) (h4 : x0 = x2 + (-8)) : x0 - (-8) < (x1 : Int) := by omega
theorem o22_24 {x0 x1 : Int} {x2 : Nat} (h0 : (-8) ≤ x1) (h1 : x1 ≤ 24) (h2 : x1 - (-8) < ((x2 + 1 : Nat) : Int)) (h3 : 0 ≤ x1) (h4 : x0 = x1 + (-8)) : (-8) ≤ x0 := by omega
theorem o22_25 {x0 x1 : Int} {x2 : Nat} (h0 : (-8) ≤ x1) (h1 : x1 ≤ 24) (h2 : x1 - (-8) < ((x2 + 1 : Nat) : Int)) (h3 : 0 ≤ x1) (h4 : x0 = x1 + (-8)) : x0 ≤ 24 := by omega
theorem o22_26 {x0 : Int} (h0 : x0 = 24) : x0 - (-8) < (((x0 - (-8) + 1).toNat : Nat) : Int) := by omega
theorem o22_27 {x0 : Int} (h0 : x0 = 24) : (-8) ≤ x0 := by omega
theorem o22_28 {x0 : Int} (h0 : x0 = 24) : x0 ≤ 24 := by omega
theorem o22_29 {x0 : Int} (h0 : 0 ≤ x0) (h1 : x0 ≤ 899) : 0 ≤ x0 := by omega
theorem o22_30 {x0 : Int} (h0 : 0 ≤ x0) (h1 : x0 ≤ 899) : x0 < (900 : Nat) := by omega
theorem o22_31 {x0 : Int} (h0 : x0 = 97) : x0 = 97 := by omega
theorem o22_32 {x0 x1 : Int} (h0 : (-128) ≤ x0) (h1 : x0 ≤ 127) (h2 : x1 = 97) (h3 : x0 < x1) : x0 < 97 := by omega
theorem o22_33 {x0 x1 : Int} (h0 : (-128) ≤ x0) (h1 : x0 ≤ 127) (h2 : x1 = 97) (h3 : x1 ≤ x0) : ¬ x0 < 97 := by omega
theorem o22_34 {x0 : Int} (h0 : x0 = 122) : x0 = 122 := by omega
theorem o22_35 {x0 x1 x2 x3 : Int} (h0 : (-128) ≤ x1) (h1 : x1 ≤ 127) (h2 : x2 = 97) (h3 : x2 ≤ x1) (h4 : (-128) ≤ x0) (h5 : x0 ≤ 127) (h6 : x0 = x1) (h7 : x3 = 122) (h8 : x3 < x0) : 122 < x0 := by omega
theorem o22_36 {x0 x1 x2 x3 : Int} (h0 : (-128) ≤ x1) (h1 : x1 ≤ 127) (h2 : x2 = 97) (h3 : x2 ≤ x1) (h4 : (-128) ≤ x0) (h5 : x0 ≤ 127) (h6 : x0 = x1) (h7 : x3 = 122) (h8 : x0 ≤ x3) : ¬ 122 < x0 := by omega
theorem o22_37 {x0 : Int} (h0 : x0 = 48) : x0 = 48 := by omega
theorem o22_38 {x0 x1 : Int} (h0 : (-128) ≤ x0) (h1 : x0 ≤ 127) (h2 : x1 = 48) (h3 : x0 < x1) : x0 < 48 := by omega
theorem o22_39 {x0 x1 : Int} (h0 : (-128) ≤ x0) (h1 : x0 ≤ 127) (h2 : x1 = 48) (h3 : x1 ≤ x0) : ¬ x0 < 48 := by omega
theorem o22_40 {x0 : Int} (h0 : x0 = 57) : x0 = 57 := by omega
theorem o22_41 {x0 x1 x2 x3 : Int} (h0 : (-128) ≤ x1) (h1 : x1 ≤ 127) (h2 : x2 = 48) (h3 : x2 ≤ x1) (h4 : (-128) ≤ x0) (h5 : x0 ≤ 127) (h6 : x0 = x1) (h7 : x3 = 57) (h8 : x3 < x0) : 57 < x0 := by omega
theorem o22_42 {x0 x1 x2 x3 : Int} (h0 : (-128) ≤ x1) (h1 : x1 ≤ 127) (h2 : x2 = 48) (h3 : x2 ≤ x1) (h4 : (-128) ≤ x0) (h5 : x0 ≤ 127) (h6 : x0 = x1) (h7 : x3 = 57) (h8 : x0 ≤ x3) : ¬ 57 < x0 := by omega
theorem o22_43 {x0 : Int} (h0 : 0 ≤ x0) (h1 : x0 ≤ 900) (h2 : 900 - x0 < 0) : False := by omega
theorem o22_44 {x0 x1 x3 x4 : Int} {x2 : Nat} (h0 : 0 ≤ x1) (h1 : x1 ≤ 900) (h2 : 900 - x1 < ((x2 + 1 : Nat) : Int)) (h3 : 0 ≤ x3) (h4 : x3 ≤ 900) (h5 : x3 = x1) (h6 : 0 ≤ x4) (h7 : x4 ≤ 900) (h8 : x4 ≤ x3) (h9 : 0 ≤ x0) (h10 : x0 ≤ 900) (h11 : x0 = x1) : 0 ≤ x0 := by omega
theorem o22_45 {x0 x1 x3 x4 : Int} {x2 : Nat} (h0 : 0 ≤ x1) (h1 : x1 ≤ 900) (h2 : 900 - x1 < ((x2 + 1 : Nat) : Int)) (h3 : 0 ≤ x3) (h4 : x3 ≤ 900) (h5 : x3 = x1) (h6 : 0 ≤ x4) (h7 : x4 ≤ 900) (h8 : x4 ≤ x3) (h9 : 0 ≤ x0) (h10 : x0 ≤ 900) (h11 : x0 = x1) : x0 ≤ 900 := by omega
theorem o22_46 {x0 x1 x3 x4 x5 x6 x7 : Int} {x2 : Nat} (h0 : 0 ≤ x1) (h1 : x1 ≤ 900) (h2 : 900 - x1 < ((x2 + 1 : Nat) : Int)) (h3 : 0 ≤ x3) (h4 : x3 ≤ 900) (h5 : x3 = x1) (h6 : 0 ≤ x4) (h7 : x4 ≤ 900) (h8 : x4 ≤ x3) (h9 : 0 ≤ x5) (h10 : x5 ≤ 900) (h11 : x5 = x1) (h12 : 0 ≤ x6) (h13 : x6 ≤ 900) (h14 : x6 = x1) (h15 : 0 ≤ x7) (h16 : x7 ≤ 900) (h17 : x7 = x4) (h18 : x6 < x7) (h19 : 0 ≤ x0) (h20 : x0 ≤ 900) (h21 : x0 = x1) : 0 ≤ x0 := by omega
theorem o22_47 {x0 x1 x3 x4 x5 x6 x7 : Int} {x2 : Nat} (h0 : 0 ≤ x1) (h1 : x1 ≤ 900) (h2 : 900 - x1 < ((x2 + 1 : Nat) : Int)) (h3 : 0 ≤ x3) (h4 : x3 ≤ 900) (h5 : x3 = x1) (h6 : 0 ≤ x4) (h7 : x4 ≤ 900) (h8 : x4 ≤ x3) (h9 : 0 ≤ x5) (h10 : x5 ≤ 900) (h11 : x5 = x1) (h12 : 0 ≤ x6) (h13 : x6 ≤ 900) (h14 : x6 = x1) (h15 : 0 ≤ x7) (h16 : x7 ≤ 900) (h17 : x7 = x4) (h18 : x6 < x7) (h19 : 0 ≤ x0) (h20 : x0 ≤ 900) (h21 : x0 = x1) : x0 ≤ 899 := by omega
theorem o22_48 {x0 x1 x3 x4 x5 x6 x7 x8 : Int} {x2 : Nat} (h0 : 0 ≤ x1) (h1 : x1 ≤ 900) (h2 : 900 - x1 < ((x2 + 1 : Nat) : Int)) (h3 : 0 ≤ x3) (h4 : x3 ≤ 900) (h5 : x3 = x1) (h6 : 0 ≤ x4) (h7 : x4 ≤ 900) (h8 : x4 ≤ x3) (h9 : 0 ≤ x5) (h10 : x5 ≤ 900) (h11 : x5 = x1) (h12 : 0 ≤ x6) (h13 : x6 ≤ 900) (h14 : x6 = x1) (h15 : 0 ≤ x7) (h16 : x7 ≤ 900) (h17 : x7 = x4) (h18 : x6 < x7) (h19 : 0 ≤ x8) (h20 : x8 ≤ 900) (h21 : x8 = x1) (h22 : 0 ≤ x0) (h23 : x0 ≤ 900) (h24 : x0 = x1) : 0 ≤ x0 := by omega
theorem o22_49 {x0 x1 x3 x4 x5 x6 x7 x8 : Int} {x2 : Nat} (h0 : 0 ≤ x1) (h1 : x1 ≤ 900) (h2 : 900 - x1 < ((x2 + 1 : Nat) : Int)) (h3 : 0 ≤ x3) (h4 : x3 ≤ 900) (h5 : x3 = x1) (h6 : 0 ≤ x4) (h7 : x4 ≤ 900) (h8 : x4 ≤ x3) (h9 : 0 ≤ x5) (h10 : x5 ≤ 900) (h11 : x5 = x1) (h12 : 0 ≤ x6) (h13 : x6 ≤ 900) (h14 : x6 = x1) (h15 : 0 ≤ x7) (h16 : x7 ≤ 900) (h17 : x7 = x4) (h18 : x6 < x7) (h19 : 0 ≤ x8) (h20 : x8 ≤ 900) (h21 : x8 = x1) (h22 : 0 ≤ x0) (h23 : x0 ≤ 900) (h24 : x0 = x1) : x0 ≤ 899 := by omega
theorem o22_50 {x0 x1 x3 x4 x5 x6 x7 x8 x9 : Int} {x2 : Nat} (h0 : 0 ≤ x1) (h1 : x1 ≤ 900) (h2 : 900 - x1 < ((x2 + 1 : Nat) : Int)) (h3 : 0 ≤ x3) (h4 : x3 ≤ 900) (h5 : x3 = x1) (h6 : 0 ≤ x4) (h7 : x4 ≤ 900) (h8 : x4 ≤ x3) (h9 : 0 ≤ x5) (h10 : x5 ≤ 900) (h11 : x5 = x1) (h12 : 0 ≤ x6) (h13 : x6 ≤ 900) (h14 : x6 = x1) (h15 : 0 ≤ x7) (h16 : x7 ≤ 900) (h17 : x7 = x4) (h18 : x6 < x7) (h19 : 0 ≤ x8) (h20 : x8 ≤ 900) (h21 : x8 = x1) (h22 : 0 ≤ x9) (h23 : x9 ≤ 900) (h24 : x9 = x1) (h25 : 0 ≤ x0) (h26 : x0 ≤ 900) (h27 : x0 = x1) : 0 ≤ x0 := by omega
theorem o22_51 {x0 x1 x3 x4 x5 x6 x7 x8 x9 : Int} {x2 : Nat} (h0 : 0 ≤ x1) (h1 : x1 ≤ 900) (h2 : 900 - x1 < ((x2 + 1 : Nat) : Int)) (h3 : 0 ≤ x3) (h4 : x3 ≤ 900) (h5 : x3 = x1) (h6 : 0 ≤ x4) (h7 : x4 ≤ 900) (h8 : x4 ≤ x3) (h9 : 0 ≤ x5) (h10 : x5 ≤ 900) (h11 : x5 = x1) (h12 : 0 ≤ x6) (h13 : x6 ≤ 900) (h14 : x6 = x1) (h15 : 0 ≤ x7) (h16 : x7 ≤ 900) (h17 : x7 = x4) (h18 : x6 < x7) (h19 : 0 ≤ x8) (h20 : x8 ≤ 900) (h21 : x8 = x1) (h22 : 0 ≤ x9) (h23 : x9 ≤ 900) (h24 : x9 = x1) (h25 : 0 ≤ x0) (h26 : x0 ≤ 900) (h27 : x0 = x1) : x0 < (900 : Nat) := by omega
theorem o22_52 {x0 x1 x3 x4 x5 x6 x7 x8 x9 x10 : Int} {x2 : Nat} (h0 : 0 ≤ x1) (h1 : x1 ≤ 900) (h2 : 900 - x1 < ((x2 + 1 : Nat) : Int)) (h3 : 0 ≤ x3) (h4 : x3 ≤ 900) (h5 : x3 = x1) (h6 : 0 ≤ x4) (h7 : x4 ≤ 900) (h8 : x4 ≤ x3) (h9 : 0 ≤ x5) (h10 : x5 ≤ 900) (h11 : x5 = x1) (h12 : 0 ≤ x6) (h13 : x6 ≤ 900) (h14 : x6 = x1) (h15 : 0 ≤ x7) (h16 : x7 ≤ 900) (h17 : x7 = x4) (h18 : x6 < x7) (h19 : 0 ≤ x8) (h20 : x8 ≤ 900) (h21 : x8 = x1) (h22 : 0 ≤ x9) (h23 : x9 ≤ 900) (h24 : x9 = x1) (h25 : 0 ≤ x10) (h26 : x10 ≤ 900) (h27 : x10 = x1) (h28 : 0 ≤ x0) (h29 : x0 ≤ 900) (h30 : x0 = x1) : 0 ≤ x0 := by omega
theorem o22_53 {x0 x1 x3 x4 x5 x6 x7 x8 x9 x10 : Int} {x2 : Nat} (h0 : 0 ≤ x1) (h1 : x1 ≤ 900) (h2 : 900 - x1 < ((x2 + 1 : Nat) : Int)) (h3 : 0 ≤ x3) (h4 : x3 ≤ 900) (h5 : x3 = x1) (h6 : 0 ≤ x4) (h7 : x4 ≤ 900) (h8 : x4 ≤ x3) (h9 : 0 ≤ x5) (h10 : x5 ≤ 900) (h11 : x5 = x1) (h12 : 0 ≤ x6) (h13 : x6 ≤ 900) (h14 : x6 = x1) (h15 : 0 ≤ x7) (h16 : x7 ≤ 900) (h17 : x7 = x4) (h18 : x6 < x7) (h19 : 0 ≤ x8) (h20 : x8 ≤ 900) (h21 : x8 = x1) (h22 : 0 ≤ x9) (h23 : x9 ≤ 900) (h24 : x9 = x1) (h25 : 0 ≤ x10) (h26 : x10 ≤ 900) (h27 : x10 = x1) (h28 : 0 ≤ x0) (h29 : x0 ≤ 900) (h30 : x0 = x1) : x0 < (900 : Nat) := by omega
theorem o22_54 {x0 x1 x3 x4 x5 x6 x7 x8 x9 x10 x11 : Int} {x2 : Nat} (h0 : 0 ≤ x1) (h1 : x1 ≤ 900) (h2 : 900 - x1 < ((x2 + 1 : Nat) : Int)) (h3 : 0 ≤ x3) (h4 : x3 ≤ 900) (h5 : x3 = x1) (h6 : 0 ≤ x4) (h7 : x4 ≤ 900) (h8 : x4 ≤ x3) (h9 : 0 ≤ x5) (h10 : x5 ≤ 900) (h11 : x5 = x1) (h12 : 0 ≤ x6) (h13 : x6 ≤ 900) (h14 : x6 = x1) (h15 : 0 ≤ x7) (h16 : x7 ≤ 900) (h17 : x7 = x4) (h18 : x6 < x7) (h19 : 0 ≤ x8) (h20 : x8 ≤ 900) (h21 : x8 = x1) (h22 : 0 ≤ x9) (h23 : x9 ≤ 900) (h24 : x9 = x1) (h25 : 0 ≤ x10) (h26 : x10 ≤ 900) (h27 : x10 = x1) (h28 : 0 ≤ x11) (h29 : x11 ≤ 900) (h30 : x11 = x1) (h31 : 0 ≤ x0) (h32 : x0 ≤ 900) (h33 : x0 = x1) : 0 ≤ x0 := by omega
theorem o22_55 {x0 x1 x3 x4 x5 x6 x7 x8 x9 x10 x11 : Int} {x2 : Nat} (h0 : 0 ≤ x1) (h1 : x1 ≤ 900) (h2 : 900 - x1 < ((x2 + 1 : Nat) : Int)) (h3 : 0 ≤ x3) (h4 : x3 ≤ 900) (h5 : x3 = x1) (h6 : 0 ≤ x4) (h7 : x4 ≤ 900) (h8 : x4 ≤ x3) (h9 : 0 ≤ x5) (h10 : x5 ≤ 900) (h11 : x5 = x1) (h12 : 0 ≤ x6) (h13 : x6 ≤ 900) (h14 : x6 = x1) (h15 : 0 ≤ x7) (h16 : x7 ≤ 900) (h17 : x7 = x4) (h18 : x6 < x7) (h19 : 0 ≤ x8) (h20 : x8 ≤ 900) (h21 : x8 = x1) (h22 : 0 ≤ x9) (h23 : x9 ≤ 900) (h24 : x9 = x1) (h25 : 0 ≤ x10) (h26 : x10 ≤ 900) (h27 : x10 = x1) (h28 : 0 ≤ x11) (h29 : x11 ≤ 900) (h30 : x11 = x1) (h31 : 0 ≤ x0) (h32 : x0 ≤ 900) (h33 : x0 = x1) : x0 < (900 : Nat) := by omega
theorem o22_56 {x0 x1 x2 x4 x5 x6 x7 x8 x9 x10 x11 x12 x13 : Int} {x3 : Nat} (h0 : 0 ≤ x2) (h1 : x2 ≤ 900) (h2 : 900 - x2 < ((x3 + 1 : Nat) : Int)) (h3 : 0 ≤ x4) (h4 : x4 ≤ 900) (h5 : x4 = x2) (h6 : 0 ≤ x5) (h7 : x5 ≤ 900) (h8 : x5 ≤ x4) (h9 : 0 ≤ x6) (h10 : x6 ≤ 900) (h11 : x6 = x2) (h12 : 0 ≤ x7) (h13 : x7 ≤ 900) (h14 : x7 = x2) (h15 : 0 ≤ x8) (h16 : x8 ≤ 900) (h17 : x8 = x5) (h18 : x7 < x8) (h19 : 0 ≤ x9) (h20 : x9 ≤ 900) (h21 : x9 = x2) (h22 : 0 ≤ x10) (h23 : x10 ≤ 900) (h24 : x10 = x2) (h25 : 0 ≤ x11) (h26 : x11 ≤ 900) (h27 : x11 = x2) (h28 : 0 ≤ x12) (h29 : x12 ≤ 900) (h30 : x12 = x2) (h31 : 0 ≤ x13) (h32 : x13 ≤ 900) (h33 : x13 = x2) (h34 : 0 ≤ x0) (h35 : x0 ≤ 900) (h36 : x0 = x6) (h37 : x1 = 1) (h38 : -2147483648 ≤ x0) (h39 : x0 ≤ 2147483647) (h40 : -2147483648 ≤ x1) (h41 : x1 ≤ 2147483647) (h42 : -2147483648 ≤ x2) (h43 : x2 ≤ 2147483647) (h44 : -2147483648 ≤ x4) (h45 : x4 ≤ 2147483647) (h46 : -2147483648 ≤ x5) (h47 : x5 ≤ 2147483647) (h48 : -2147483648 ≤ x6) (h49 : x6 ≤ 2147483647) (h50 : -2147483648 ≤ x7) (h51 : x7 ≤ 2147483647) (h52 : -2147483648 ≤ x8) (h53 : x8 ≤ 2147483647) (h54 : -2147483648 ≤ x9) (h55 : x9 ≤ 2147483647) (h56 : -2147483648 ≤ x10) (h57 : x10 ≤ 2147483647) (h58 : -2147483648 ≤ x11) (h59 : x11 ≤ 2147483647) (h60 : -2147483648 ≤ x12) (h61 : x12 ≤ 2147483647) (h62 : -2147483648 ≤ x13) (h63 : x13 ≤ 2147483647) : -2147483648 ≤ x0 + x1 := by omega
theorem o22_57 {x0 x1 x2 x4 x5 x6 x7 x8 x9 x10 x11 x12 x13 : Int} {x3 : Nat} (h0 : 0 ≤ x2) (h1 : x2 ≤ 900) (h2 : 900 - x2 < ((x3 + 1 : Nat) : Int)) (h3 : 0 ≤ x4) (h4 : x4 ≤ 900) (h5 : x4 = x2) (h6 : 0 ≤ x5) (h7 : x5 ≤ 900) (h8 : x5 ≤ x4) (h9 : 0 ≤ x6) (h10 : x6 ≤ 900) (h11 : x6 = x2) (h12 : 0 ≤ x7) (h13 : x7 ≤ 900) (h14 : x7 = x2) (h15 : 0 ≤ x8) (h16 : x8 ≤ 900) (h17 : x8 = x5) (h18 : x7 < x8) (h19 : 0 ≤ x9) (h20 : x9 ≤ 900) (h21 : x9 = x2) (h22 : 0 ≤ x10) (h23 : x10 ≤ 900) (h24 : x10 = x2) (h25 : 0 ≤ x11) (h26 : x11 ≤ 900) (h27 : x11 = x2) (h28 : 0 ≤ x12) (h29 : x12 ≤ 900) (h30 : x12 = x2) (h31 : 0 ≤ x13) (h32 : x13 ≤ 900) (h33 : x13 = x2) (h34 : 0 ≤ x0) (h35 : x0 ≤ 900) (h36 : x0 = x6) (h37 : x1 = 1) (h38 : -2147483648 ≤ x0) (h39 : x0 ≤ 2147483647) (h40 : -2147483648 ≤ x1) (h41 : x1 ≤ 2147483647) (h42 : -2147483648 ≤ x2) (h43 : x2 ≤ 2147483647) (h44 : -2147483648 ≤ x4) (h45 : x4 ≤ 2147483647) (h46 : -2147483648 ≤ x5) (h47 : x5 ≤ 2147483647) (h48 : -2147483648 ≤ x6) (h49 : x6 ≤ 2147483647) (h50 : -2147483648 ≤ x7) (h51 : x7 ≤ 2147483647) (h52 : -2147483648 ≤ x8) (h53 : x8 ≤ 2147483647) (h54 : -2147483648 ≤ x9) (h55 : x9 ≤ 2147483647) (h56 : -2147483648 ≤ x10) (h57 : x10 ≤ 2147483647) (h58 : -2147483648 ≤ x11) (h59 : x11 ≤ 2147483647) (h60 : -2147483648 ≤ x12) (h61 : x12 ≤ 2147483647) (h62 : -2147483648 ≤ x13) (h63 : x13 ≤ 2147483647) : x0 + x1 ≤ 2147483647 := by omega
theorem o22_58 {x0 x1 x3 x4 x5 x6 x7 x8 x9 x10 x11 x12 x13 x14 : Int} {x2 : Nat} (h0 : 0 ≤ x1) (h1 : x1 ≤ 900) (h2 : 900 - x1 < ((x2 + 1 : Nat) : Int)) (h3 : 0 ≤ x3) (h4 : x3 ≤ 900) (h5 : x3 = x1) (h6 : 0 ≤ x4) (h7 : x4 ≤ 900) (h8 : x4 ≤ x3) (h9 : 0 ≤ x5) (h10 : x5 ≤ 900) (h11 : x5 = x1) (h12 : 0 ≤ x6) (h13 : x6 ≤ 900) (h14 : x6 = x1) (h15 : 0 ≤ x7) (h16 : x7 ≤ 900) (h17 : x7 = x4) (h18 : x6 < x7) (h19 : 0 ≤ x8) (h20 : x8 ≤ 900) (h21 : x8 = x1) (h22 : 0 ≤ x9) (h23 : x9 ≤ 900) (h24 : x9 = x1) (h25 : 0 ≤ x10) (h26 : x10 ≤ 900) (h27 : x10 = x1) (h28 : 0 ≤ x11) (h29 : x11 ≤ 900) (h30 : x11 = x1) (h31 : 0 ≤ x12) (h32 : x12 ≤ 900) (h33 : x12 = x1) (h34 : 0 ≤ x13) (h35 : x13 ≤ 900) (h36 : x13 = x5) (h37 : x14 = 1) (h38 : x0 = x13 + x14) : 0 ≤ x0 := by omega
theorem o22_59 {x0 x1 x3 x4 x5 x6 x7 x8 x9 x10 x11 x12 x13 x14 : Int} {x2 : Nat} (h0 : 0 ≤ x1) (h1 : x1 ≤ 900) (h2 : 900 - x1 < ((x2 + 1 : Nat) : Int)) (h3 : 0 ≤ x3) (h4 : x3 ≤ 900) (h5 : x3 = x1) (h6 : 0 ≤ x4) (h7 : x4 ≤ 900) (h8 : x4 ≤ x3) (h9 : 0 ≤ x5) (h10 : x5 ≤ 900) (h11 : x5 = x1) (h12 : 0 ≤ x6) (h13 : x6 ≤ 900) (h14 : x6 = x1) (h15 : 0 ≤ x7) (h16 : x7 ≤ 900) (h17 : x7 = x4) (h18 : x6 < x7) (h19 : 0 ≤ x8) (h20 : x8 ≤ 900) (h21 : x8 = x1) (h22 : 0 ≤ x9) (h23 : x9 ≤ 900) (h24 : x9 = x1) (h25 : 0 ≤ x10) (h26 : x10 ≤ 900) (h27 : x10 = x1) (h28 : 0 ≤ x11) (h29 : x11 ≤ 900) (h30 : x11 = x1) (h31 : 0 ≤ x12) (h32 : x12 ≤ 900) (h33 : x12 = x1) (h34 : 0 ≤ x13) (h35 : x13 ≤ 900) (h36 : x13 = x5) (h37 : x14 = 1) (h38 : x0 = x13 + x14) : x0 ≤ 900 := by omega
theorem o22_60 {x0 x1 x2 x4 x5 : Int} {x3 : Nat} (h0 : 0 ≤ x2) (h1 : x2 ≤ 900) (h2 : 900 - x2 < ((x3 + 1 : Nat) : Int)) (h3 : 0 ≤ x4) (h4 : x4 ≤ 900) (h5 : x4 = x2) (h6 : 0 ≤ x5) (h7 : x5 ≤ 900) (h8 : x5 ≤ x4) (h9 : 0 ≤ x0) (h10 : x0 ≤ 900) (h11 : x0 = x2) (h12 : 0 ≤ x1) (h13 : x1 ≤ 900) (h14 : -2147483648 ≤ x0) (h15 : x0 ≤ 2147483647) (h16 : -2147483648 ≤ x1) (h17 : x1 ≤ 2147483647) (h18 : -2147483648 ≤ x2) (h19 : x2 ≤ 2147483647) (h20 : -2147483648 ≤ x4) (h21 : x4 ≤ 2147483647) (h22 : -2147483648 ≤ x5) (h23 : x5 ≤ 2147483647) : -2147483648 ≤ x0 - x1 := by omega
theorem o22_61 {x0 x1 x2 x4 x5 : Int} {x3 : Nat} (h0 : 0 ≤ x2) (h1 : x2 ≤ 900) (h2 : 900 - x2 < ((x3 + 1 : Nat) : Int)) (h3 : 0 ≤ x4) (h4 : x4 ≤ 900) (h5 : x4 = x2) (h6 : 0 ≤ x5) (h7 : x5 ≤ 900) (h8 : x5 ≤ x4) (h9 : 0 ≤ x0) (h10 : x0 ≤ 900) (h11 : x0 = x2) (h12 : 0 ≤ x1) (h13 : x1 ≤ 900) (h14 : -2147483648 ≤ x0) (h15 : x0 ≤ 2147483647) (h16 : -2147483648 ≤ x1) (h17 : x1 ≤ 2147483647) (h18 : -2147483648 ≤ x2) (h19 : x2 ≤ 2147483647) (h20 : -2147483648 ≤ x4) (h21 : x4 ≤ 2147483647) (h22 : -2147483648 ≤ x5) (h23 : x5 ≤ 2147483647) : x0 - x1 ≤ 2147483647 := by omega
theorem o22_62 {x0 : Int} (h0 : x0 = 3) : x0 = 3 := by omega
theorem o22_63 {x0 x1 x3 x4 x5 x6 x7 : Int} {x2 : Nat} (h0 : 0 ≤ x1) (h1 : x1 ≤ 900) (h2 : 900 - x1 < ((x2 + 1 : Nat) : Int)) (h3 : 0 ≤ x3) (h4 : x3 ≤ 900) (h5 : x3 = x1) (h6 : 0 ≤ x4) (h7 : x4 ≤ 900) (h8 : x4 ≤ x3) (h9 : 0 ≤ x5) (h10 : x5 ≤ 900) (h11 : x5 = x1) (h12 : 0 ≤ x6) (h13 : x6 ≤ 900) (h14 : x0 = x5 - x6) (h15 : x7 = 3) (h16 : x0 ≤ x7) : ¬ 3 < x0 := by omega
theorem o22_64 {x0 x1 x3 x4 x5 x6 x7 : Int} {x2 : Nat} (h0 : 0 ≤ x1) (h1 : x1 ≤ 900) (h2 : 900 - x1 < ((x2 + 1 : Nat) : Int)) (h3 : 0 ≤ x3) (h4 : x3 ≤ 900) (h5 : x3 = x1) (h6 : 0 ≤ x4) (h7 : x4 ≤ 900) (h8 : x4 ≤ x3) (h9 : 0 ≤ x5) (h10 : x5 ≤ 900) (h11 : x5 = x1) (h12 : 0 ≤ x6) (h13 : x6 ≤ 900) (h14 : x0 = x5 - x6) (h15 : x7 = 3) (h16 : x7 < x0) : 3 < x0 := by omega
theorem o22_65 {x0 x1 x3 x4 : Int} {x2 : Nat} (h0 : 0 ≤ x1) (h1 : x1 ≤ 900) (h2 : 900 - x1 < ((x2 + 1 : Nat) : Int)) (h3 : 0 ≤ x3) (h4 : x3 ≤ 900) (h5 : x3 = x1) (h6 : 0 ≤ x4) (h7 : x4 ≤ 900) (h8 : x3 < x4) (h9 : 0 ≤ x0) (h10 : x0 ≤ 900) (h11 : x0 = x1) : 0 ≤ x0 := by omega
theorem o22_66 {x0 x1 x3 x4 : Int} {x2 : Nat} (h0 : 0 ≤ x1) (h1 : x1 ≤ 900) (h2 : 900 - x1 < ((x2 + 1 : Nat) : Int)) (h3 : 0 ≤ x3) (h4 : x3 ≤ 900) (h5 : x3 = x1) (h6 : 0 ≤ x4) (h7 : x4 ≤ 900) (h8 : x3 < x4) (h9 : 0 ≤ x0) (h10 : x0 ≤ 900) (h11 : x0 = x1) : x0 ≤ 899 := by omega
theorem o22_67 {x0 x1 x2 x4 x5 x6 : Int} {x3 : Nat} (h0 : 0 ≤ x2) (h1 : x2 ≤ 900) (h2 : 900 - x2 < ((x3 + 1 : Nat) : Int)) (h3 : 0 ≤ x4) (h4 : x4 ≤ 900) (h5 : x4 = x2) (h6 : 0 ≤ x5) (h7 : x5 ≤ 900) (h8 : x4 < x5) (h9 : 0 ≤ x6) (h10 : x6 ≤ 900) (h11 : x6 = x2) (h12 : 0 ≤ x0) (h13 : x0 ≤ 900) (h14 : x0 = x2) (h15 : 0 ≤ x1) (h16 : x1 ≤ 900) (h17 : -2147483648 ≤ x0) (h18 : x0 ≤ 2147483647) (h19 : -2147483648 ≤ x1) (h20 : x1 ≤ 2147483647) (h21 : -2147483648 ≤ x2) (h22 : x2 ≤ 2147483647) (h23 : -2147483648 ≤ x4) (h24 : x4 ≤ 2147483647) (h25 : -2147483648 ≤ x5) (h26 : x5 ≤ 2147483647) (h27 : -2147483648 ≤ x6) (h28 : x6 ≤ 2147483647) : -2147483648 ≤ x0 - x1 := by omega
theorem o22_68 {x0 x1 x2 x4 x5 x6 : Int} {x3 : Nat} (h0 : 0 ≤ x2) (h1 : x2 ≤ 900) (h2 : 900 - x2 < ((x3 + 1 : Nat) : Int)) (h3 : 0 ≤ x4) (h4 : x4 ≤ 900) (h5 : x4 = x2) (h6 : 0 ≤ x5) (h7 : x5 ≤ 900) (h8 : x4 < x5) (h9 : 0 ≤ x6) (h10 : x6 ≤ 900) (h11 : x6 = x2) (h12 : 0 ≤ x0) (h13 : x0 ≤ 900) (h14 : x0 = x2) (h15 : 0 ≤ x1) (h16 : x1 ≤ 900) (h17 : -2147483648 ≤ x0) (h18 : x0 ≤ 2147483647) (h19 : -2147483648 ≤ x1) (h20 : x1 ≤ 2147483647) (h21 : -2147483648 ≤ x2) (h22 : x2 ≤ 2147483647) (h23 : -2147483648 ≤ x4) (h24 : x4 ≤ 2147483647) (h25 : -2147483648 ≤ x5) (h26 : x5 ≤ 2147483647) (h27 : -2147483648 ≤ x6) (h28 : x6 ≤ 2147483647) : x0 - x1 ≤ 2147483647 := by omega
theorem o22_69 {x0 x1 x3 x4 x5 x6 x7 x8 : Int} {x2 : Nat} (h0 : 0 ≤ x1) (h1 : x1 ≤ 900) (h2 : 900 - x1 < ((x2 + 1 : Nat) : Int)) (h3 : 0 ≤ x3) (h4 : x3 ≤ 900) (h5 : x3 = x1) (h6 : 0 ≤ x4) (h7 : x4 ≤ 900) (h8 : x3 < x4) (h9 : 0 ≤ x5) (h10 : x5 ≤ 900) (h11 : x5 = x1) (h12 : 0 ≤ x6) (h13 : x6 ≤ 900) (h14 : x6 = x1) (h15 : 0 ≤ x7) (h16 : x7 ≤ 900) (h17 : x0 = x6 - x7) (h18 : x8 = 3) (h19 : x0 ≤ x8) : ¬ 3 < x0 := by omega
theorem o22_70 {x0 x1 x3 x4 x5 x6 x7 x8 : Int} {x2 : Nat} (h0 : 0 ≤ x1) (h1 : x1 ≤ 900) (h2 : 900 - x1 < ((x2 + 1 : Nat) : Int)) (h3 : 0 ≤ x3) (h4 : x3 ≤ 900) (h5 : x3 = x1) (h6 : 0 ≤ x4) (h7 : x4 ≤ 900) (h8 : x3 < x4) (h9 : 0 ≤ x5) (h10 : x5 ≤ 900) (h11 : x5 = x1) (h12 : 0 ≤ x6) (h13 : x6 ≤ 900) (h14 : x6 = x1) (h15 : 0 ≤ x7) (h16 : x7 ≤ 900) (h17 : x0 = x6 - x7) (h18 : x8 = 3) (h19 : x8 < x0) : 3 < x0 := by omega
theorem o22_71 {x0 x1 x3 x4 x5 : Int} {x2 : Nat} (h0 : 0 ≤ x1) (h1 : x1 ≤ 900) (h2 : 900 - x1 < ((x2 + 1 : Nat) : Int)) (h3 : 0 ≤ x3) (h4 : x3 ≤ 900) (h5 : x3 = x1) (h6 : 0 ≤ x4) (h7 : x4 ≤ 900) (h8 : x3 < x4) (h9 : 0 ≤ x5) (h10 : x5 ≤ 900) (h11 : x5 = x1) (h12 : 0 ≤ x0) (h13 : x0 ≤ 900) (h14 : x0 = x1) : 0 ≤ x0 := by omega
theorem o22_72 {x0 x1 x3 x4 x5 : Int} {x2 : Nat} (h0 : 0 ≤ x1) (h1 : x1 ≤ 900) (h2 : 900 - x1 < ((x2 + 1 : Nat) : Int)) (h3 : 0 ≤ x3) (h4 : x3 ≤ 900) (h5 : x3 = x1) (h6 : 0 ≤ x4) (h7 : x4 ≤ 900) (h8 : x3 < x4) (h9 : 0 ≤ x5) (h10 : x5 ≤ 900) (h11 : x5 = x1) (h12 : 0 ≤ x0) (h13 : x0 ≤ 900) (h14 : x0 = x1) : x0 < (900 : Nat) := by omega
theorem o22_73 {x0 x1 x2 x4 x5 x6 x7 : Int} {x3 : Nat} (h0 : 0 ≤ x2) (h1 : x2 ≤ 900) (h2 : 900 - x2 < ((x3 + 1 : Nat) : Int)) (h3 : 0 ≤ x4) (h4 : x4 ≤ 900) (h5 : x4 = x2) (h6 : 0 ≤ x5) (h7 : x5 ≤ 900) (h8 : x4 < x5) (h9 : 0 ≤ x6) (h10 : x6 ≤ 900) (h11 : x6 = x2) (h12 : 0 ≤ x7) (h13 : x7 ≤ 900) (h14 : x7 = x2) (h15 : 0 ≤ x0) (h16 : x0 ≤ 900) (h17 : x0 = x2) (h18 : x1 = 1) (h19 : -2147483648 ≤ x0) (h20 : x0 ≤ 2147483647) (h21 : -2147483648 ≤ x1) (h22 : x1 ≤ 2147483647) (h23 : -2147483648 ≤ x2) (h24 : x2 ≤ 2147483647) (h25 : -2147483648 ≤ x4) (h26 : x4 ≤ 2147483647) (h27 : -2147483648 ≤ x5) (h28 : x5 ≤ 2147483647) (h29 : -2147483648 ≤ x6) (h30 : x6 ≤ 2147483647) (h31 : -2147483648 ≤ x7) (h32 : x7 ≤ 2147483647) : -2147483648 ≤ x0 + x1 := by omega
theorem o22_74 {x0 x1 x2 x4 x5 x6 x7 : Int} {x3 : Nat} (h0 : 0 ≤ x2) (h1 : x2 ≤ 900) (h2 : 900 - x2 < ((x3 + 1 : Nat) : Int)) (h3 : 0 ≤ x4) (h4 : x4 ≤ 900) (h5 : x4 = x2) (h6 : 0 ≤ x5) (h7 : x5 ≤ 900) (h8 : x4 < x5) (h9 : 0 ≤ x6) (h10 : x6 ≤ 900) (h11 : x6 = x2) (h12 : 0 ≤ x7) (h13 : x7 ≤ 900) (h14 : x7 = x2) (h15 : 0 ≤ x0) (h16 : x0 ≤ 900) (h17 : x0 = x2) (h18 : x1 = 1) (h19 : -2147483648 ≤ x0) (h20 : x0 ≤ 2147483647) (h21 : -2147483648 ≤ x1) (h22 : x1 ≤ 2147483647) (h23 : -2147483648 ≤ x2) (h24 : x2 ≤ 2147483647) (h25 : -2147483648 ≤ x4) (h26 : x4 ≤ 2147483647) (h27 : -2147483648 ≤ x5) (h28 : x5 ≤ 2147483647) (h29 : -2147483648 ≤ x6) (h30 : x6 ≤ 2147483647) (h31 : -2147483648 ≤ x7) (h32 : x7 ≤ 2147483647) : x0 + x1 ≤ 2147483647 := by omega
theorem o22_75 {x0 x1 x3 x4 x5 x6 x7 x8 : Int} {x2 : Nat} (h0 : 0 ≤ x1) (h1 : x1 ≤ 900) (h2 : 900 - x1 < ((x2 + 1 : Nat) : Int)) (h3 : 0 ≤ x3) (h4 : x3 ≤ 900) (h5 : x3 = x1) (h6 : 0 ≤ x4) (h7 : x4 ≤ 900) (h8 : x3 < x4) (h9 : 0 ≤ x5) (h10 : x5 ≤ 900) (h11 : x5 = x1) (h12 : 0 ≤ x6) (h13 : x6 ≤ 900) (h14 : x6 = x1) (h15 : 0 ≤ x7) (h16 : x7 ≤ 900) (h17 : x7 = x1) (h18 : x8 = 1) (h19 : x0 = x7 + x8) : 0 ≤ x0 := by omega
theorem o22_76 {x0 x1 x3 x4 x5 x6 x7 x8 : Int} {x2 : Nat} (h0 : 0 ≤ x1) (h1 : x1 ≤ 900) (h2 : 900 - x1 < ((x2 + 1 : Nat) : Int)) (h3 : 0 ≤ x3) (h4 : x3 ≤ 900) (h5 : x3 = x1) (h6 : 0 ≤ x4) (h7 : x4 ≤ 900) (h8 : x3 < x4) (h9 : 0 ≤ x5) (h10 : x5 ≤ 900) (h11 : x5 = x1) (h12 : 0 ≤ x6) (h13 : x6 ≤ 900) (h14 : x6 = x1) (h15 : 0 ≤ x7) (h16 : x7 ≤ 900) (h17 : x7 = x1) (h18 : x8 = 1) (h19 : x0 = x7 + x8) : x0 ≤ 900 := by omega
theorem o22_77 {x0 x2 x3 x4 x5 x6 x7 x8 : Int} {x1 : Nat} (h0 : 0 ≤ x2) (h1 : x2 ≤ 900) (h2 : 900 - x2 < ((x1 + 1 : Nat) : Int)) (h3 : 0 ≤ x3) (h4 : x3 ≤ 900) (h5 : x3 = x2) (h6 : 0 ≤ x4) (h7 : x4 ≤ 900) (h8 : x3 < x4) (h9 : 0 ≤ x5) (h10 : x5 ≤ 900) (h11 : x5 = x2) (h12 : 0 ≤ x6) (h13 : x6 ≤ 900) (h14 : x6 = x2) (h15 : 0 ≤ x7) (h16 : x7 ≤ 900) (h17 : x7 = x2) (h18 : x8 = 1) (h19 : x0 = x7 + x8) : 900 - x0 < (x1 : Int) := by omega
theorem o22_78 {x0 x1 x3 x4 x5 x6 x7 x8 : Int} {x2 : Nat} (h0 : 0 ≤ x1) (h1 : x1 ≤ 900) (h2 : 900 - x1 < ((x2 + 1 : Nat) : Int)) (h3 : 0 ≤ x3) (h4 : x3 ≤ 900) (h5 : x3 = x1) (h6 : 0 ≤ x4) (h7 : x4 ≤ 900) (h8 : x4 ≤ x3) (h9 : 0 ≤ x0) (h10 : x0 ≤ 900) (h11 : x0 = x1) (h12 : 0 ≤ x5) (h13 : x5 ≤ 900) (h14 : x5 = x1) (h15 : 0 ≤ x6) (h16 : x6 ≤ 900) (h17 : x6 = x4) (h18 : x5 < x6) (h19 : 0 ≤ x7) (h20 : x7 ≤ 900) (h21 : x7 = x1) (h22 : 0 ≤ x8) (h23 : x8 ≤ 900) (h24 : x8 = x1) : 900 - x0 < (((900 - x0 + 1).toNat : Nat) : Int) := by omega
theorem o22_79 {x0 x1 x3 x4 x5 x6 x7 x8 : Int} {x2 : Nat} (h0 : 0 ≤ x1) (h1 : x1 ≤ 900) (h2 : 900 - x1 < ((x2 + 1 : Nat) : Int)) (h3 : 0 ≤ x3) (h4 : x3 ≤ 900) (h5 : x3 = x1) (h6 : 0 ≤ x4) (h7 : x4 ≤ 900) (h8 : x4 ≤ x3) (h9 : 0 ≤ x0) (h10 : x0 ≤ 900) (h11 : x0 = x1) (h12 : 0 ≤ x5) (h13 : x5 ≤ 900) (h14 : x5 = x1) (h15 : 0 ≤ x6) (h16 : x6 ≤ 900) (h17 : x6 = x4) (h18 : x5 < x6) (h19 : 0 ≤ x7) (h20 : x7 ≤ 900) (h21 : x7 = x1) (h22 : 0 ≤ x8) (h23 : x8 ≤ 900) (h24 : x8 = x1) : 0 ≤ x0 := by omega
theorem o22_80 {x0 x1 x3 x4 x5 x6 x7 x8 : Int} {x2 : Nat} (h0 : 0 ≤ x1) (h1 : x1 ≤ 900) (h2 : 900 - x1 < ((x2 + 1 : Nat) : Int)) (h3 : 0 ≤ x3) (h4 : x3 ≤ 900) (h5 : x3 = x1) (h6 : 0 ≤ x4) (h7 : x4 ≤ 900) (h8 : x4 ≤ x3) (h9 : 0 ≤ x0) (h10 : x0 ≤ 900) (h11 : x0 = x1) (h12 : 0 ≤ x5) (h13 : x5 ≤ 900) (h14 : x5 = x1) (h15 : 0 ≤ x6) (h16 : x6 ≤ 900) (h17 : x6 = x4) (h18 : x5 < x6) (h19 : 0 ≤ x7) (h20 : x7 ≤ 900) (h21 : x7 = x1) (h22 : 0 ≤ x8) (h23 : x8 ≤ 900) (h24 : x8 = x1) : x0 ≤ 900 := by omega
theorem o22_81 {x0 x1 x2 x4 x5 x6 : Int} {x3 : Nat} (h0 : 0 ≤ x2) (h1 : x2 ≤ 900) (h2 : 900 - x2 < ((x3 + 1 : Nat) : Int)) (h3 : 0 ≤ x4) (h4 : x4 ≤ 900) (h5 : x4 = x2) (h6 : 0 ≤ x5) (h7 : x5 ≤ 900) (h8 : x4 < x5) (h9 : 0 ≤ x6) (h10 : x6 ≤ 900) (h11 : x6 = x2) (h12 : 0 ≤ x0) (h13 : x0 ≤ 900) (h14 : x0 = x2) (h15 : x1 = 1) (h16 : -2147483648 ≤ x0) (h17 : x0 ≤ 2147483647) (h18 : -2147483648 ≤ x1) (h19 : x1 ≤ 2147483647) (h20 : -2147483648 ≤ x2) (h21 : x2 ≤ 2147483647) (h22 : -2147483648 ≤ x4) (h23 : x4 ≤ 2147483647) (h24 : -2147483648 ≤ x5) (h25 : x5 ≤ 2147483647) (h26 : -2147483648 ≤ x6) (h27 : x6 ≤ 2147483647) : -2147483648 ≤ x0 + x1 := by omega
theorem o22_82 {x0 x1 x2 x4 x5 x6 : Int} {x3 : Nat} (h0 : 0 ≤ x2) (h1 : x2 ≤ 900) (h2 : 900 - x2 < ((x3 + 1 : Nat) : Int)) (h3 : 0 ≤ x4) (h4 : x4 ≤ 900) (h5 : x4 = x2) (h6 : 0 ≤ x5) (h7 : x5 ≤ 900) (h8 : x4 < x5) (h9 : 0 ≤ x6) (h10 : x6 ≤ 900) (h11 : x6 = x2) (h12 : 0 ≤ x0) (h13 : x0 ≤ 900) (h14 : x0 = x2) (h15 : x1 = 1) (h16 : -2147483648 ≤ x0) (h17 : x0 ≤ 2147483647) (h18 : -2147483648 ≤ x1) (h19 : x1 ≤ 2147483647) (h20 : -2147483648 ≤ x2) (h21 : x2 ≤ 2147483647) (h22 : -2147483648 ≤ x4) (h23 : x4 ≤ 2147483647) (h24 : -2147483648 ≤ x5) (h25 : x5 ≤ 2147483647) (h26 : -2147483648 ≤ x6) (h27 : x6 ≤ 2147483647) : x0 + x1 ≤ 2147483647 := by omega
theorem o22_83 {x0 x1 x3 x4 x5 x6 x7 : Int} {x2 : Nat} (h0 : 0 ≤ x1) (h1 : x1 ≤ 900) (h2 : 900 - x1 < ((x2 + 1 : Nat) : Int)) (h3 : 0 ≤ x3) (h4 : x3 ≤ 900) (h5 : x3 = x1) (h6 : 0 ≤ x4) (h7 : x4 ≤ 900) (h8 : x3 < x4) (h9 : 0 ≤ x5) (h10 : x5 ≤ 900) (h11 : x5 = x1) (h12 : 0 ≤ x6) (h13 : x6 ≤ 900) (h14 : x6 = x1) (h15 : x7 = 1) (h16 : x0 = x6 + x7) : 0 ≤ x0 := by omega
theorem o22_84 {x0 x1 x3 x4 x5 x6 x7 : Int} {x2 : Nat} (h0 : 0 ≤ x1) (h1 : x1 ≤ 900) (h2 : 900 - x1 < ((x2 + 1 : Nat) : Int)) (h3 : 0 ≤ x3) (h4 : x3 ≤ 900) (h5 : x3 = x1) (h6 : 0 ≤ x4) (h7 : x4 ≤ 900) (h8 : x3 < x4) (h9 : 0 ≤ x5) (h10 : x5 ≤ 900) (h11 : x5 = x1) (h12 : 0 ≤ x6) (h13 : x6 ≤ 900) (h14 : x6 = x1) (h15 : x7 = 1) (h16 : x0 = x6 + x7) : x0 ≤ 900 := by omega
theorem o22_85 {x0 x2 x3 x4 x5 x6 x7 : Int} {x1 : Nat} (h0 : 0 ≤ x2) (h1 : x2 ≤ 900) (h2 : 900 - x2 < ((x1 + 1 : Nat) : Int)) (h3 : 0 ≤ x3) (h4 : x3 ≤ 900) (h5 : x3 = x2) (h6 : 0 ≤ x4) (h7 : x4 ≤ 900) (h8 : x3 < x4) (h9 : 0 ≤ x5) (h10 : x5 ≤ 900) (h11 : x5 = x2) (h12 : 0 ≤ x6) (h13 : x6 ≤ 900) (h14 : x6 = x2) (h15 : x7 = 1) (h16 : x0 = x6 + x7) : 900 - x0 < (x1 : Int) := by omega
theorem o22_86 {x0 x1 x3 x4 x5 x6 x7 : Int} {x2 : Nat} (h0 : 0 ≤ x1) (h1 : x1 ≤ 900) (h2 : 900 - x1 < ((x2 + 1 : Nat) : Int)) (h3 : 0 ≤ x3) (h4 : x3 ≤ 900) (h5 : x3 = x1) (h6 : 0 ≤ x4) (h7 : x4 ≤ 900) (h8 : x4 ≤ x3) (h9 : 0 ≤ x0) (h10 : x0 ≤ 900) (h11 : x0 = x1) (h12 : 0 ≤ x5) (h13 : x5 ≤ 900) (h14 : x5 = x1) (h15 : 0 ≤ x6) (h16 : x6 ≤ 900) (h17 : x6 = x4) (h18 : x5 < x6) (h19 : 0 ≤ x7) (h20 : x7 ≤ 900) (h21 : x7 = x1) : 900 - x0 < (((900 - x0 + 1).toNat : Nat) : Int) := by omega
theorem o22_87 {x0 x1 x3 x4 x5 x6 x7 : Int} {x2 : Nat} (h0 : 0 ≤ x1) (h1 : x1 ≤ 900) (h2 : 900 - x1 < ((x2 + 1 : Nat) : Int)) (h3 : 0 ≤ x3) (h4 : x3 ≤ 900) (h5 : x3 = x1) (h6 : 0 ≤ x4) (h7 : x4 ≤ 900) (h8 : x4 ≤ x3) (h9 : 0 ≤ x0) (h10 : x0 ≤ 900) (h11 : x0 = x1) (h12 : 0 ≤ x5) (h13 : x5 ≤ 900) (h14 : x5 = x1) (h15 : 0 ≤ x6) (h16 : x6 ≤ 900) (h17 : x6 = x4) (h18 : x5 < x6) (h19 : 0 ≤ x7) (h20 : x7 ≤ 900) (h21 : x7 = x1) : 0 ≤ x0 := by omega
theorem o22_88 {x0 x1 x3 x4 x5 x6 x7 : Int} {x2 : Nat} (h0 : 0 ≤ x1) (h1 : x1 ≤ 900) (h2 : 900 - x1 < ((x2 + 1 : Nat) : Int)) (h3 : 0 ≤ x3) (h4 : x3 ≤ 900) (h5 : x3 = x1) (h6 : 0 ≤ x4) (h7 : x4 ≤ 900) (h8 : x4 ≤ x3) (h9 : 0 ≤ x0) (h10 : x0 ≤ 900) (h11 : x0 = x1) (h12 : 0 ≤ x5) (h13 : x5 ≤ 900) (h14 : x5 = x1) (h15 : 0 ≤ x6) (h16 : x6 ≤ 900) (h17 : x6 = x4) (h18 : x5 < x6) (h19 : 0 ≤ x7) (h20 : x7 ≤ 900) (h21 : x7 = x1) : x0 ≤ 900 := by omega
theorem o22_89 {x0 x1 x3 x4 : Int} {x2 : Nat} (h0 : 0 ≤ x1) (h1 : x1 ≤ 900) (h2 : 900 - x1 < ((x2 + 1 : Nat) : Int)) (h3 : 0 ≤ x3) (h4 : x3 ≤ 900) (h5 : x3 = x1) (h6 : 0 ≤ x4) (h7 : x4 ≤ 900) (h8 : x3 < x4) (h9 : 0 ≤ x0) (h10 : x0 ≤ 900) (h11 : x0 = x1) : x0 < (900 : Nat) := by omega
theorem o22_90 {x0 : Int} (h0 : x0 = 32) : x0 = 32 := by omega
theorem o22_91 {x0 x1 : Int} (h0 : (-128) ≤ x0) (h1 : x0 ≤ 127) (h2 : x1 = 32) (h3 : x0 = x1) : x0 = 32 := by omega
theorem o22_92 {x0 x1 : Int} (h0 : (-128) ≤ x0) (h1 : x0 ≤ 127) (h2 : x1 = 32) (h3 : ¬ x0 = x1) : ¬ x0 = 32 := by omega
theorem o22_93 {x0 : Int} (h0 : x0 = 10) : x0 = 10 := by omega
theorem o22_94 {x0 x1 : Int} (h0 : (-128) ≤ x0) (h1 : x0 ≤ 127) (h2 : x1 = 10) (h3 : ¬ x0 = x1) : ¬ x0 = 10 := by omega
theorem o22_95 {x0 x1 : Int} (h0 : (-128) ≤ x0) (h1 : x0 ≤ 127) (h2 : x1 = 10) (h3 : x0 = x1) : x0 = 10 := by omega
theorem o22_96 {x0 x1 x3 x4 x5 x6 : Int} {x2 : Nat} (h0 : 0 ≤ x1) (h1 : x1 ≤ 900) (h2 : 900 - x1 < ((x2 + 1 : Nat) : Int)) (h3 : 0 ≤ x3) (h4 : x3 ≤ 900) (h5 : x3 = x1) (h6 : 0 ≤ x4) (h7 : x4 ≤ 900) (h8 : x3 < x4) (h9 : 0 ≤ x5) (h10 : x5 ≤ 900) (h11 : x5 = x1) (h12 : 0 ≤ x6) (h13 : x6 ≤ 900) (h14 : x6 = x1) (h15 : 0 ≤ x0) (h16 : x0 ≤ 900) (h17 : x0 = x1) : 0 ≤ x0 := by omega
theorem o22_97 {x0 x1 x3 x4 x5 x6 : Int} {x2 : Nat} (h0 : 0 ≤ x1) (h1 : x1 ≤ 900) (h2 : 900 - x1 < ((x2 + 1 : Nat) : Int)) (h3 : 0 ≤ x3) (h4 : x3 ≤ 900) (h5 : x3 = x1) (h6 : 0 ≤ x4) (h7 : x4 ≤ 900) (h8 : x3 < x4) (h9 : 0 ≤ x5) (h10 : x5 ≤ 900) (h11 : x5 = x1) (h12 : 0 ≤ x6) (h13 : x6 ≤ 900) (h14 : x6 = x1) (h15 : 0 ≤ x0) (h16 : x0 ≤ 900) (h17 : x0 = x1) : x0 ≤ 900 := by omega
theorem o22_98 {x0 x1 x3 x4 x5 x6 x7 x8 x9 : Int} {x2 : Nat} (h0 : 0 ≤ x1) (h1 : x1 ≤ 900) (h2 : 900 - x1 < ((x2 + 1 : Nat) : Int)) (h3 : 0 ≤ x3) (h4 : x3 ≤ 900) (h5 : x3 = x1) (h6 : 0 ≤ x4) (h7 : x4 ≤ 900) (h8 : x3 < x4) (h9 : 0 ≤ x5) (h10 : x5 ≤ 900) (h11 : x5 = x1) (h12 : 0 ≤ x6) (h13 : x6 ≤ 900) (h14 : x6 = x1) (h15 : 0 ≤ x7) (h16 : x7 ≤ 900) (h17 : x7 = x1) (h18 : 0 ≤ x8) (h19 : x8 ≤ 900) (h20 : x8 = x1) (h21 : 0 ≤ x9) (h22 : x9 ≤ 900) (h23 : x9 = x4) (h24 : x8 < x9) (h25 : 0 ≤ x0) (h26 : x0 ≤ 900) (h27 : x0 = x1) : 0 ≤ x0 := by omega
theorem o22_99 {x0 x1 x3 x4 x5 x6 x7 x8 x9 : Int} {x2 : Nat} (h0 : 0 ≤ x1) (h1 : x1 ≤ 900) (h2 : 900 - x1 < ((x2 + 1 : Nat) : Int)) (h3 : 0 ≤ x3) (h4 : x3 ≤ 900) (h5 : x3 = x1) (h6 : 0 ≤ x4) (h7 : x4 ≤ 900) (h8 : x3 < x4) (h9 : 0 ≤ x5) (h10 : x5 ≤ 900) (h11 : x5 = x1) (h12 : 0 ≤ x6) (h13 : x6 ≤ 900) (h14 : x6 = x1) (h15 : 0 ≤ x7) (h16 : x7 ≤ 900) (h17 : x7 = x1) (h18 : 0 ≤ x8) (h19 : x8 ≤ 900) (h20 : x8 = x1) (h21 : 0 ≤ x9) (h22 : x9 ≤ 900) (h23 : x9 = x4) (h24 : x8 < x9) (h25 : 0 ≤ x0) (h26 : x0 ≤ 900) (h27 : x0 = x1) : x0 ≤ 899 := by omega
theorem o22_100 {x0 x1 x3 x4 x5 x6 x7 x8 x9 x10 : Int} {x2 : Nat} (h0 : 0 ≤ x1) (h1 : x1 ≤ 900) (h2 : 900 - x1 < ((x2 + 1 : Nat) : Int)) (h3 : 0 ≤ x3) (h4 : x3 ≤ 900) (h5 : x3 = x1) (h6 : 0 ≤ x4) (h7 : x4 ≤ 900) (h8 : x3 < x4) (h9 : 0 ≤ x5) (h10 : x5 ≤ 900) (h11 : x5 = x1) (h12 : 0 ≤ x6) (h13 : x6 ≤ 900) (h14 : x6 = x1) (h15 : 0 ≤ x7) (h16 : x7 ≤ 900) (h17 : x7 = x1) (h18 : 0 ≤ x8) (h19 : x8 ≤ 900) (h20 : x8 = x1) (h21 : 0 ≤ x9) (h22 : x9 ≤ 900) (h23 : x9 = x4) (h24 : x8 < x9) (h25 : 0 ≤ x10) (h26 : x10 ≤ 900) (h27 : x10 = x1) (h28 : 0 ≤ x0) (h29 : x0 ≤ 900) (h30 : x0 = x1) : 0 ≤ x0 := by omega
theorem o22_101 {x0 x1 x3 x4 x5 x6 x7 x8 x9 x10 : Int} {x2 : Nat} (h0 : 0 ≤ x1) (h1 : x1 ≤ 900) (h2 : 900 - x1 < ((x2 + 1 : Nat) : Int)) (h3 : 0 ≤ x3) (h4 : x3 ≤ 900) (h5 : x3 = x1) (h6 : 0 ≤ x4) (h7 : x4 ≤ 900) (h8 : x3 < x4) (h9 : 0 ≤ x5) (h10 : x5 ≤ 900) (h11 : x5 = x1) (h12 : 0 ≤ x6) (h13 : x6 ≤ 900) (h14 : x6 = x1) (h15 : 0 ≤ x7) (h16 : x7 ≤ 900) (h17 : x7 = x1) (h18 : 0 ≤ x8) (h19 : x8 ≤ 900) (h20 : x8 = x1) (h21 : 0 ≤ x9) (h22 : x9 ≤ 900) (h23 : x9 = x4) (h24 : x8 < x9) (h25 : 0 ≤ x10) (h26 : x10 ≤ 900) (h27 : x10 = x1) (h28 : 0 ≤ x0) (h29 : x0 ≤ 900) (h30 : x0 = x1) : x0 ≤ 899 := by omega
theorem o22_102 {x0 x1 x3 x4 x5 x6 x7 x8 x9 x10 x11 : Int} {x2 : Nat} (h0 : 0 ≤ x1) (h1 : x1 ≤ 900) (h2 : 900 - x1 < ((x2 + 1 : Nat) : Int)) (h3 : 0 ≤ x3) (h4 : x3 ≤ 900) (h5 : x3 = x1) (h6 : 0 ≤ x4) (h7 : x4 ≤ 900) (h8 : x3 < x4) (h9 : 0 ≤ x5) (h10 : x5 ≤ 900) (h11 : x5 = x1) (h12 : 0 ≤ x6) (h13 : x6 ≤ 900) (h14 : x6 = x1) (h15 : 0 ≤ x7) (h16 : x7 ≤ 900) (h17 : x7 = x1) (h18 : 0 ≤ x8) (h19 : x8 ≤ 900) (h20 : x8 = x1) (h21 : 0 ≤ x9) (h22 : x9 ≤ 900) (h23 : x9 = x4) (h24 : x8 < x9) (h25 : 0 ≤ x10) (h26 : x10 ≤ 900) (h27 : x10 = x1) (h28 : 0 ≤ x11) (h29 : x11 ≤ 900) (h30 : x11 = x1) (h31 : 0 ≤ x0) (h32 : x0 ≤ 900) (h33 : x0 = x1) : 0 ≤ x0 := by omega
theorem o22_103 {x0 x1 x3 x4 x5 x6 x7 x8 x9 x10 x11 : Int} {x2 : Nat} (h0 : 0 ≤ x1) (h1 : x1 ≤ 900) (h2 : 900 - x1 < ((x2 + 1 : Nat) : Int)) (h3 : 0 ≤ x3) (h4 : x3 ≤ 900) (h5 : x3 = x1) (h6 : 0 ≤ x4) (h7 : x4 ≤ 900) (h8 : x3 < x4) (h9 : 0 ≤ x5) (h10 : x5 ≤ 900) (h11 : x5 = x1) (h12 : 0 ≤ x6) (h13 : x6 ≤ 900) (h14 : x6 = x1) (h15 : 0 ≤ x7) (h16 : x7 ≤ 900) (h17 : x7 = x1) (h18 : 0 ≤ x8) (h19 : x8 ≤ 900) (h20 : x8 = x1) (h21 : 0 ≤ x9) (h22 : x9 ≤ 900) (h23 : x9 = x4) (h24 : x8 < x9) (h25 : 0 ≤ x10) (h26 : x10 ≤ 900) (h27 : x10 = x1) (h28 : 0 ≤ x11) (h29 : x11 ≤ 900) (h30 : x11 = x1) (h31 : 0 ≤ x0) (h32 : x0 ≤ 900) (h33 : x0 = x1) : x0 < (900 : Nat) := by omega
theorem o22_104 {x0 x1 x3 x4 x5 x6 x7 x8 x9 x10 x11 x12 : Int} {x2 : Nat} (h0 : 0 ≤ x1) (h1 : x1 ≤ 900) (h2 : 900 - x1 < ((x2 + 1 : Nat) : Int)) (h3 : 0 ≤ x3) (h4 : x3 ≤ 900) (h5 : x3 = x1) (h6 : 0 ≤ x4) (h7 : x4 ≤ 900) (h8 : x3 < x4) (h9 : 0 ≤ x5) (h10 : x5 ≤ 900) (h11 : x5 = x1) (h12 : 0 ≤ x6) (h13 : x6 ≤ 900) (h14 : x6 = x1) (h15 : 0 ≤ x7) (h16 : x7 ≤ 900) (h17 : x7 = x1) (h18 : 0 ≤ x8) (h19 : x8 ≤ 900) (h20 : x8 = x1) (h21 : 0 ≤ x9) (h22 : x9 ≤ 900) (h23 : x9 = x4) (h24 : x8 < x9) (h25 : 0 ≤ x10) (h26 : x10 ≤ 900) (h27 : x10 = x1) (h28 : 0 ≤ x11) (h29 : x11 ≤ 900) (h30 : x11 = x1) (h31 : 0 ≤ x12) (h32 : x12 ≤ 900) (h33 : x12 = x1) (h34 : 0 ≤ x0) (h35 : x0 ≤ 900) (h36 : x0 = x1) : 0 ≤ x0 := by omega
theorem o22_105 {x0 x1 x3 x4 x5 x6 x7 x8 x9 x10 x11 x12 : Int} {x2 : Nat} (h0 : 0 ≤ x1) (h1 : x1 ≤ 900) (h2 : 900 - x1 < ((x2 + 1 : Nat) : Int)) (h3 : 0 ≤ x3) (h4 : x3 ≤ 900) (h5 : x3 = x1) (h6 : 0 ≤ x4) (h7 : x4 ≤ 900) (h8 : x3 < x4) (h9 : 0 ≤ x5) (h10 : x5 ≤ 900) (h11 : x5 = x1) (h12 : 0 ≤ x6) (h13 : x6 ≤ 900) (h14 : x6 = x1) (h15 : 0 ≤ x7) (h16 : x7 ≤ 900) (h17 : x7 = x1) (h18 : 0 ≤ x8) (h19 : x8 ≤ 900) (h20 : x8 = x1) (h21 : 0 ≤ x9) (h22 : x9 ≤ 900) (h23 : x9 = x4) (h24 : x8 < x9) (h25 : 0 ≤ x10) (h26 : x10 ≤ 900) (h27 : x10 = x1) (h28 : 0 ≤ x11) (h29 : x11 ≤ 900) (h30 : x11 = x1) (h31 : 0 ≤ x12) (h32 : x12 ≤ 900) (h33 : x12 = x1) (h34 : 0 ≤ x0) (h35 : x0 ≤ 900) (h36 : x0 = x1) : x0 < (900 : Nat) := by omega
theorem o22_106 {x0 x1 x3 x4 x5 x6 x7 x8 x9 x10 x11 x12 x13 : Int} {x2 : Nat} (h0 : 0 ≤ x1) (h1 : x1 ≤ 900) (h2 : 900 - x1 < ((x2 + 1 : Nat) : Int)) (h3 : 0 ≤ x3) (h4 : x3 ≤ 900) (h5 : x3 = x1) (h6 : 0 ≤ x4) (h7 : x4 ≤ 900) (h8 : x3 < x4) (h9 : 0 ≤ x5) (h10 : x5 ≤ 900) (h11 : x5 = x1) (h12 : 0 ≤ x6) (h13 : x6 ≤ 900) (h14 : x6 = x1) (h15 : 0 ≤ x7) (h16 : x7 ≤ 900) (h17 : x7 = x1) (h18 : 0 ≤ x8) (h19 : x8 ≤ 900) (h20 : x8 = x1) (h21 : 0 ≤ x9) (h22 : x9 ≤ 900) (h23 : x9 = x4) (h24 : x8 < x9) (h25 : 0 ≤ x10) (h26 : x10 ≤ 900) (h27 : x10 = x1) (h28 : 0 ≤ x11) (h29 : x11 ≤ 900) (h30 : x11 = x1) (h31 : 0 ≤ x12) (h32 : x12 ≤ 900) (h33 : x12 = x1) (h34 : 0 ≤ x13) (h35 : x13 ≤ 900) (h36 : x13 = x1) (h37 : 0 ≤ x0) (h38 : x0 ≤ 900) (h39 : x0 = x1) : 0 ≤ x0 := by omega
theorem o22_107 {x0 x1 x3 x4 x5 x6 x7 x8 x9 x10 x11 x12 x13 : Int} {x2 : Nat} (h0 : 0 ≤ x1) (h1 : x1 ≤ 900) (h2 : 900 - x1 < ((x2 + 1 : Nat) : Int)) (h3 : 0 ≤ x3) (h4 : x3 ≤ 900) (h5 : x3 = x1) (h6 : 0 ≤ x4) (h7 : x4 ≤ 900) (h8 : x3 < x4) (h9 : 0 ≤ x5) (h10 : x5 ≤ 900) (h11 : x5 = x1) (h12 : 0 ≤ x6) (h13 : x6 ≤ 900) (h14 : x6 = x1) (h15 : 0 ≤ x7) (h16 : x7 ≤ 900) (h17 : x7 = x1) (h18 : 0 ≤ x8) (h19 : x8 ≤ 900) (h20 : x8 = x1) (h21 : 0 ≤ x9) (h22 : x9 ≤ 900) (h23 : x9 = x4) (h24 : x8 < x9) (h25 : 0 ≤ x10) (h26 : x10 ≤ 900) (h27 : x10 = x1) (h28 : 0 ≤ x11) (h29 : x11 ≤ 900) (h30 : x11 = x1) (h31 : 0 ≤ x12) (h32 : x12 ≤ 900) (h33 : x12 = x1) (h34 : 0 ≤ x13) (h35 : x13 ≤ 900) (h36 : x13 = x1) (h37 : 0 ≤ x0) (h38 : x0 ≤ 900) (h39 : x0 = x1) : x0 < (900 : Nat) := by omega
theorem o22_108 {x0 x1 x2 x4 x5 x6 x7 x8 x9 x10 x11 x12 x13 x14 x15 : Int} {x3 : Nat} (h0 : 0 ≤ x2) (h1 : x2 ≤ 900) (h2 : 900 - x2 < ((x3 + 1 : Nat) : Int)) (h3 : 0 ≤ x4) (h4 : x4 ≤ 900) (h5 : x4 = x2) (h6 : 0 ≤ x5) (h7 : x5 ≤ 900) (h8 : x4 < x5) (h9 : 0 ≤ x6) (h10 : x6 ≤ 900) (h11 : x6 = x2) (h12 : 0 ≤ x7) (h13 : x7 ≤ 900) (h14 : x7 = x2) (h15 : 0 ≤ x8) (h16 : x8 ≤ 900) (h17 : x8 = x2) (h18 : 0 ≤ x9) (h19 : x9 ≤ 900) (h20 : x9 = x2) (h21 : 0 ≤ x10) (h22 : x10 ≤ 900) (h23 : x10 = x5) (h24 : x9 < x10) (h25 : 0 ≤ x11) (h26 : x11 ≤ 900) (h27 : x11 = x2) (h28 : 0 ≤ x12) (h29 : x12 ≤ 900) (h30 : x12 = x2) (h31 : 0 ≤ x13) (h32 : x13 ≤ 900) (h33 : x13 = x2) (h34 : 0 ≤ x14) (h35 : x14 ≤ 900) (h36 : x14 = x2) (h37 : 0 ≤ x15) (h38 : x15 ≤ 900) (h39 : x15 = x2) (h40 : 0 ≤ x0) (h41 : x0 ≤ 900) (h42 : x0 = x8) (h43 : x1 = 1) (h44 : -2147483648 ≤ x0) (h45 : x0 ≤ 2147483647) (h46 : -2147483648 ≤ x1) (h47 : x1 ≤ 2147483647) (h48 : -2147483648 ≤ x2) (h49 : x2 ≤ 2147483647) (h50 : -2147483648 ≤ x4) (h51 : x4 ≤ 2147483647) (h52 : -2147483648 ≤ x5) (h53 : x5 ≤ 2147483647) (h54 : -2147483648 ≤ x6) (h55 : x6 ≤ 2147483647) (h56 : -2147483648 ≤ x7) (h57 : x7 ≤ 2147483647) (h58 : -2147483648 ≤ x8) (h59 : x8 ≤ 2147483647) (h60 : -2147483648 ≤ x9) (h61 : x9 ≤ 2147483647) (h62 : -2147483648 ≤ x10) (h63 : x10 ≤ 2147483647) (h64 : -2147483648 ≤ x11) (h65 : x11 ≤ 2147483647) (h66 : -2147483648 ≤ x12) (h67 : x12 ≤ 2147483647) (h68 : -2147483648 ≤ x13) (h69 : x13 ≤ 2147483647) (h70 : -2147483648 ≤ x14) (h71 : x14 ≤ 2147483647) (h72 : -2147483648 ≤ x15) (h73 : x15 ≤ 2147483647) : -2147483648 ≤ x0 + x1 := by omega
theorem o22_109 {x0 x1 x2 x4 x5 x6 x7 x8 x9 x10 x11 x12 x13 x14 x15 : Int} {x3 : Nat} (h0 : 0 ≤ x2) (h1 : x2 ≤ 900) (h2 : 900 - x2 < ((x3 + 1 : Nat) : Int)) (h3 : 0 ≤ x4) (h4 : x4 ≤ 900) (h5 : x4 = x2) (h6 : 0 ≤ x5) (h7 : x5 ≤ 900) (h8 : x4 < x5) (h9 : 0 ≤ x6) (h10 : x6 ≤ 900) (h11 : x6 = x2) (h12 : 0 ≤ x7) (h13 : x7 ≤ 900) (h14 : x7 = x2) (h15 : 0 ≤ x8) (h16 : x8 ≤ 900) (h17 : x8 = x2) (h18 : 0 ≤ x9) (h19 : x9 ≤ 900) (h20 : x9 = x2) (h21 : 0 ≤ x10) (h22 : x10 ≤ 900) (h23 : x10 = x5) (h24 : x9 < x10) (h25 : 0 ≤ x11) (h26 : x11 ≤ 900) (h27 : x11 = x2) (h28 : 0 ≤ x12) (h29 : x12 ≤ 900) (h30 : x12 = x2) (h31 : 0 ≤ x13) (h32 : x13 ≤ 900) (h33 : x13 = x2) (h34 : 0 ≤ x14) (h35 : x14 ≤ 900) (h36 : x14 = x2) (h37 : 0 ≤ x15) (h38 : x15 ≤ 900) (h39 : x15 = x2) (h40 : 0 ≤ x0) (h41 : x0 ≤ 900) (h42 : x0 = x8) (h43 : x1 = 1) (h44 : -2147483648 ≤ x0) (h45 : x0 ≤ 2147483647) (h46 : -2147483648 ≤ x1) (h47 : x1 ≤ 2147483647) (h48 : -2147483648 ≤ x2) (h49 : x2 ≤ 2147483647) (h50 : -2147483648 ≤ x4) (h51 : x4 ≤ 2147483647) (h52 : -2147483648 ≤ x5) (h53 : x5 ≤ 2147483647) (h54 : -2147483648 ≤ x6) (h55 : x6 ≤ 2147483647) (h56 : -2147483648 ≤ x7) (h57 : x7 ≤ 2147483647) (h58 : -2147483648 ≤ x8) (h59 : x8 ≤ 2147483647) (h60 : -2147483648 ≤ x9) (h61 : x9 ≤ 2147483647) (h62 : -2147483648 ≤ x10) (h63 : x10 ≤ 2147483647) (h64 : -2147483648 ≤ x11) (h65 : x11 ≤ 2147483647) (h66 : -2147483648 ≤ x12) (h67 : x12 ≤ 2147483647) (h68 : -2147483648 ≤ x13) (h69 : x13 ≤ 2147483647) (h70 : -2147483648 ≤ x14) (h71 : x14 ≤ 2147483647) (h72 : -2147483648 ≤ x15) (h73 : x15 ≤ 2147483647) : x0 + x1 ≤ 2147483647 := by omega
theorem o22_110 {x0 x1 x3 x4 x5 x6 x7 x8 x9 x10 x11 x12 x13 x14 x15 x16 : Int} {x2 : Nat} (h0 : 0 ≤ x1) (h1 : x1 ≤ 900) (h2 : 900 - x1 < ((x2 + 1 : Nat) : Int)) (h3 : 0 ≤ x3) (h4 : x3 ≤ 900) (h5 : x3 = x1) (h6 : 0 ≤ x4) (h7 : x4 ≤ 900) (h8 : x3 < x4) (h9 : 0 ≤ x5) (h10 : x5 ≤ 900) (h11 : x5 = x1) (h12 : 0 ≤ x6) (h13 : x6 ≤ 900) (h14 : x6 = x1) (h15 : 0 ≤ x7) (h16 : x7 ≤ 900) (h17 : x7 = x1) (h18 : 0 ≤ x8) (h19 : x8 ≤ 900) (h20 : x8 = x1) (h21 : 0 ≤ x9) (h22 : x9 ≤ 900) (h23 : x9 = x4) (h24 : x8 < x9) (h25 : 0 ≤ x10) (h26 : x10 ≤ 900) (h27 : x10 = x1) (h28 : 0 ≤ x11) (h29 : x11 ≤ 900) (h30 : x11 = x1) (h31 : 0 ≤ x12) (h32 : x12 ≤ 900) (h33 : x12 = x1) (h34 : 0 ≤ x13) (h35 : x13 ≤ 900) (h36 : x13 = x1) (h37 : 0 ≤ x14) (h38 : x14 ≤ 900) (h39 : x14 = x1) (h40 : 0 ≤ x15) (h41 : x15 ≤ 900) (h42 : x15 = x7) (h43 : x16 = 1) (h44 : x0 = x15 + x16) : 0 ≤ x0 := by omega
theorem o22_111 {x0 x1 x3 x4 x5 x6 x7 x8 x9 x10 x11 x12 x13 x14 x15 x16 : Int} {x2 : Nat} (h0 : 0 ≤ x1) (h1 : x1 ≤ 900) (h2 : 900 - x1 < ((x2 + 1 : Nat) : Int)) (h3 : 0 ≤ x3) (h4 : x3 ≤ 900) (h5 : x3 = x1) (h6 : 0 ≤ x4) (h7 : x4 ≤ 900) (h8 : x3 < x4) (h9 : 0 ≤ x5) (h10 : x5 ≤ 900) (h11 : x5 = x1) (h12 : 0 ≤ x6) (h13 : x6 ≤ 900) (h14 : x6 = x1) (h15 : 0 ≤ x7) (h16 : x7 ≤ 900) (h17 : x7 = x1) (h18 : 0 ≤ x8) (h19 : x8 ≤ 900) (h20 : x8 = x1) (h21 : 0 ≤ x9) (h22 : x9 ≤ 900) (h23 : x9 = x4) (h24 : x8 < x9) (h25 : 0 ≤ x10) (h26 : x10 ≤ 900) (h27 : x10 = x1) (h28 : 0 ≤ x11) (h29 : x11 ≤ 900) (h30 : x11 = x1) (h31 : 0 ≤ x12) (h32 : x12 ≤ 900) (h33 : x12 = x1) (h34 : 0 ≤ x13) (h35 : x13 ≤ 900) (h36 : x13 = x1) (h37 : 0 ≤ x14) (h38 : x14 ≤ 900) (h39 : x14 = x1) (h40 : 0 ≤ x15) (h41 : x15 ≤ 900) (h42 : x15 = x7) (h43 : x16 = 1) (h44 : x0 = x15 + x16) : x0 ≤ 900 := by omega
theorem o22_112 {x0 x1 x3 x4 x5 x6 x7 x8 x9 x10 : Int} {x2 : Nat} (h0 : 0 ≤ x1) (h1 : x1 ≤ 900) (h2 : 900 - x1 < ((x2 + 1 : Nat) : Int)) (h3 : 0 ≤ x3) (h4 : x3 ≤ 900) (h5 : x3 = x1) (h6 : 0 ≤ x4) (h7 : x4 ≤ 900) (h8 : x3 < x4) (h9 : 0 ≤ x5) (h10 : x5 ≤ 900) (h11 : x5 = x1) (h12 : 0 ≤ x6) (h13 : x6 ≤ 900) (h14 : x6 = x1) (h15 : 0 ≤ x0) (h16 : x0 ≤ 900) (h17 : x0 = x1) (h18 : 0 ≤ x7) (h19 : x7 ≤ 900) (h20 : x7 = x1) (h21 : 0 ≤ x8) (h22 : x8 ≤ 900) (h23 : x8 = x4) (h24 : x7 < x8) (h25 : 0 ≤ x9) (h26 : x9 ≤ 900) (h27 : x9 = x1) (h28 : 0 ≤ x10) (h29 : x10 ≤ 900) (h30 : x10 = x1) : 900 - x0 < (((900 - x0 + 1).toNat : Nat) : Int) := by omega
theorem o22_113 {x0 x1 x3 x4 x5 x6 x7 x8 x9 x10 : Int} {x2 : Nat} (h0 : 0 ≤ x1) (h1 : x1 ≤ 900) (h2 : 900 - x1 < ((x2 + 1 : Nat) : Int)) (h3 : 0 ≤ x3) (h4 : x3 ≤ 900) (h5 : x3 = x1) (h6 : 0 ≤ x4) (h7 : x4 ≤ 900) (h8 : x3 < x4) (h9 : 0 ≤ x5) (h10 : x5 ≤ 900) (h11 : x5 = x1) (h12 : 0 ≤ x6) (h13 : x6 ≤ 900) (h14 : x6 = x1) (h15 : 0 ≤ x0) (h16 : x0 ≤ 900) (h17 : x0 = x1) (h18 : 0 ≤ x7) (h19 : x7 ≤ 900) (h20 : x7 = x1) (h21 : 0 ≤ x8) (h22 : x8 ≤ 900) (h23 : x8 = x4) (h24 : x7 < x8) (h25 : 0 ≤ x9) (h26 : x9 ≤ 900) (h27 : x9 = x1) (h28 : 0 ≤ x10) (h29 : x10 ≤ 900) (h30 : x10 = x1) : 0 ≤ x0 := by omega
theorem o22_114 {x0 x1 x3 x4 x5 x6 x7 x8 x9 x10 : Int} {x2 : Nat} (h0 : 0 ≤ x1) (h1 : x1 ≤ 900) (h2 : 900 - x1 < ((x2 + 1 : Nat) : Int)) (h3 : 0 ≤ x3) (h4 : x3 ≤ 900) (h5 : x3 = x1) (h6 : 0 ≤ x4) (h7 : x4 ≤ 900) (h8 : x3 < x4) (h9 : 0 ≤ x5) (h10 : x5 ≤ 900) (h11 : x5 = x1) (h12 : 0 ≤ x6) (h13 : x6 ≤ 900) (h14 : x6 = x1) (h15 : 0 ≤ x0) (h16 : x0 ≤ 900) (h17 : x0 = x1) (h18 : 0 ≤ x7) (h19 : x7 ≤ 900) (h20 : x7 = x1) (h21 : 0 ≤ x8) (h22 : x8 ≤ 900) (h23 : x8 = x4) (h24 : x7 < x8) (h25 : 0 ≤ x9) (h26 : x9 ≤ 900) (h27 : x9 = x1) (h28 : 0 ≤ x10) (h29 : x10 ≤ 900) (h30 : x10 = x1) : x0 ≤ 900 := by omega
theorem o22_115 {x0 x1 x3 x4 x5 x6 x7 x8 x9 : Int} {x2 : Nat} (h0 : 0 ≤ x1) (h1 : x1 ≤ 900) (h2 : 900 - x1 < ((x2 + 1 : Nat) : Int)) (h3 : 0 ≤ x3) (h4 : x3 ≤ 900) (h5 : x3 = x1) (h6 : 0 ≤ x4) (h7 : x4 ≤ 900) (h8 : x3 < x4) (h9 : 0 ≤ x5) (h10 : x5 ≤ 900) (h11 : x5 = x1) (h12 : 0 ≤ x6) (h13 : x6 ≤ 900) (h14 : x6 = x1) (h15 : 0 ≤ x0) (h16 : x0 ≤ 900) (h17 : x0 = x1) (h18 : 0 ≤ x7) (h19 : x7 ≤ 900) (h20 : x7 = x1) (h21 : 0 ≤ x8) (h22 : x8 ≤ 900) (h23 : x8 = x4) (h24 : x7 < x8) (h25 : 0 ≤ x9) (h26 : x9 ≤ 900) (h27 : x9 = x1) : 900 - x0 < (((900 - x0 + 1).toNat : Nat) : Int) := by omega
theorem o22_116 {x0 x1 x3 x4 x5 x6 x7 x8 x9 : Int} {x2 : Nat} (h0 : 0 ≤ x1) (h1 : x1 ≤ 900) (h2 : 900 - x1 < ((x2 + 1 : Nat) : Int)) (h3 : 0 ≤ x3) (h4 : x3 ≤ 900) (h5 : x3 = x1) (h6 : 0 ≤ x4) (h7 : x4 ≤ 900) (h8 : x3 < x4) (h9 : 0 ≤ x5) (h10 : x5 ≤ 900) (h11 : x5 = x1) (h12 : 0 ≤ x6) (h13 : x6 ≤ 900) (h14 : x6 = x1) (h15 : 0 ≤ x0) (h16 : x0 ≤ 900) (h17 : x0 = x1) (h18 : 0 ≤ x7) (h19 : x7 ≤ 900) (h20 : x7 = x1) (h21 : 0 ≤ x8) (h22 : x8 ≤ 900) (h23 : x8 = x4) (h24 : x7 < x8) (h25 : 0 ≤ x9) (h26 : x9 ≤ 900) (h27 : x9 = x1) : 0 ≤ x0 := by omega
theorem o22_117 {x0 x1 x3 x4 x5 x6 x7 x8 x9 : Int} {x2 : Nat} (h0 : 0 ≤ x1) (h1 : x1 ≤ 900) (h2 : 900 - x1 < ((x2 + 1 : Nat) : Int)) (h3 : 0 ≤ x3) (h4 : x3 ≤ 900) (h5 : x3 = x1) (h6 : 0 ≤ x4) (h7 : x4 ≤ 900) (h8 : x3 < x4) (h9 : 0 ≤ x5) (h10 : x5 ≤ 900) (h11 : x5 = x1) (h12 : 0 ≤ x6) (h13 : x6 ≤ 900) (h14 : x6 = x1) (h15 : 0 ≤ x0) (h16 : x0 ≤ 900) (h17 : x0 = x1) (h18 : 0 ≤ x7) (h19 : x7 ≤ 900) (h20 : x7 = x1) (h21 : 0 ≤ x8) (h22 : x8 ≤ 900) (h23 : x8 = x4) (h24 : x7 < x8) (h25 : 0 ≤ x9) (h26 : x9 ≤ 900) (h27 : x9 = x1) : x0 ≤ 900 := by omega
theorem o22_118 {x0 : Int} (h0 : 0 ≤ x0) (h1 : x0 ≤ 900) : 900 - x0 < (((900 - x0 + 1).toNat : Nat) : Int) := by omega
theorem o22_119 {x0 : Int} (h0 : x0 = 1) : x0 = 1 := by omega
theorem o22_120 {x0 x1 : Int} (h0 : x1 = 1) (h1 : ¬ x0 = x1) : ¬ x0 = 1 := by omega
theorem o22_121 {x0 x1 : Int} (h0 : x1 = 1) (h1 : x0 = x1) : x0 = 1 := by omega
theorem o22_122 {x0 x1 : Int} (h0 : 0 ≤ x0) (h1 : x0 ≤ 900) (h2 : 0 ≤ x1) (h3 : x1 ≤ 900) (h4 : -2147483648 ≤ x0) (h5 : x0 ≤ 2147483647) (h6 : -2147483648 ≤ x1) (h7 : x1 ≤ 2147483647) : -2147483648 ≤ x0 - x1 := by omega
theorem o22_123 {x0 x1 : Int} (h0 : 0 ≤ x0) (h1 : x0 ≤ 900) (h2 : 0 ≤ x1) (h3 : x1 ≤ 900) (h4 : -2147483648 ≤ x0) (h5 : x0 ≤ 2147483647) (h6 : -2147483648 ≤ x1) (h7 : x1 ≤ 2147483647) : x0 - x1 ≤ 2147483647 := by omega
theorem o22_124 {x0 : Int} (h0 : 0 ≤ x0) (h1 : x0 ≤ 102) (h2 : 102 - x0 < 0) : False := by omega
theorem o22_125 {x0 x1 x3 x4 x5 x6 x8 : Int} {x2 x7 : Nat} (h0 : strLen.getD x2 0 ≤ 102) (h1 : 0 ≤ x3) (h2 : x3 ≤ 900) (h3 : 0 ≤ x4) (h4 : x4 ≤ 900) (h5 : x5 = x3 - x4) (h6 : 0 ≤ x6) (h7 : x6 ≤ 102) (h8 : x6 = ((strLen.getD x2 0 : Nat) : Int)) (h9 : x5 = x6) (h10 : 0 ≤ x1) (h11 : x1 ≤ 102) (h12 : 102 - x1 < ((x7 + 1 : Nat) : Int)) (h13 : 0 ≤ x8) (h14 : x8 ≤ 102) (h15 : x8 = ((strLen.getD x2 0 : Nat) : Int)) (h16 : x1 < x8) (h17 : 0 ≤ x0) (h18 : x0 ≤ 900) (h19 : x0 = x4) (h20 : -2147483648 ≤ x0) (h21 : x0 ≤ 2147483647) (h22 : -2147483648 ≤ x1) (h23 : x1 ≤ 2147483647) (h24 : -2147483648 ≤ x3) (h25 : x3 ≤ 2147483647) (h26 : -2147483648 ≤ x4) (h27 : x4 ≤ 2147483647) (h28 : -2147483648 ≤ x5) (h29 : x5 ≤ 2147483647) (h30 : -2147483648 ≤ x6) (h31 : x6 ≤ 2147483647) (h32 : -2147483648 ≤ x8) (h33 : x8 ≤ 2147483647) : -2147483648 ≤ x0 + x1 := by omega
theorem o22_126 {x0 x1 x3 x4 x5 x6 x8 : Int} {x2 x7 : Nat} (h0 : strLen.getD x2 0 ≤ 102) (h1 : 0 ≤ x3) (h2 : x3 ≤ 900) (h3 : 0 ≤ x4) (h4 : x4 ≤ 900) (h5 : x5 = x3 - x4) (h6 : 0 ≤ x6) (h7 : x6 ≤ 102) (h8 : x6 = ((strLen.getD x2 0 : Nat) : Int)) (h9 : x5 = x6) (h10 : 0 ≤ x1) (h11 : x1 ≤ 102) (h12 : 102 - x1 < ((x7 + 1 : Nat) : Int)) (h13 : 0 ≤ x8) (h14 : x8 ≤ 102) (h15 : x8 = ((strLen.getD x2 0 : Nat) : Int)) (h16 : x1 < x8) (h17 : 0 ≤ x0) (h18 : x0 ≤ 900) (h19 : x0 = x4) (h20 : -2147483648 ≤ x0) (h21 : x0 ≤ 2147483647) (h22 : -2147483648 ≤ x1) (h23 : x1 ≤ 2147483647) (h24 : -2147483648 ≤ x3) (h25 : x3 ≤ 2147483647) (h26 : -2147483648 ≤ x4) (h27 : x4 ≤ 2147483647) (h28 : -2147483648 ≤ x5) (h29 : x5 ≤ 2147483647) (h30 : -2147483648 ≤ x6) (h31 : x6 ≤ 2147483647) (h32 : -2147483648 ≤ x8) (h33 : x8 ≤ 2147483647) : x0 + x1 ≤ 2147483647 := by omega
theorem o22_127 {x0 x2 x3 x4 x5 x6 x8 x9 : Int} {x1 x7 : Nat} (h0 : strLen.getD x1 0 ≤ 102) (h1 : 0 ≤ x2) (h2 : x2 ≤ 900) (h3 : 0 ≤ x3) (h4 : x3 ≤ 900) (h5 : x4 = x2 - x3) (h6 : 0 ≤ x5) (h7 : x5 ≤ 102) (h8 : x5 = ((strLen.getD x1 0 : Nat) : Int)) (h9 : x4 = x5) (h10 : 0 ≤ x6) (h11 : x6 ≤ 102) (h12 : 102 - x6 < ((x7 + 1 : Nat) : Int)) (h13 : 0 ≤ x8) (h14 : x8 ≤ 102) (h15 : x8 = ((strLen.getD x1 0 : Nat) : Int)) (h16 : x6 < x8) (h17 : 0 ≤ x9) (h18 : x9 ≤ 900) (h19 : x9 = x3) (h20 : x0 = x9 + x6) : 0 ≤ x0 := by omega
theorem o22_128 {x0 x2 x3 x4 x5 x6 x8 x9 : Int} {x1 x7 : Nat} (h0 : strLen.getD x1 0 ≤ 102) (h1 : 0 ≤ x2) (h2 : x2 ≤ 900) (h3 : 0 ≤ x3) (h4 : x3 ≤ 900) (h5 : x4 = x2 - x3) (h6 : 0 ≤ x5) (h7 : x5 ≤ 102) (h8 : x5 = ((strLen.getD x1 0 : Nat) : Int)) (h9 : x4 = x5) (h10 : 0 ≤ x6) (h11 : x6 ≤ 102) (h12 : 102 - x6 < ((x7 + 1 : Nat) : Int)) (h13 : 0 ≤ x8) (h14 : x8 ≤ 102) (h15 : x8 = ((strLen.getD x1 0 : Nat) : Int)) (h16 : x6 < x8) (h17 : 0 ≤ x9) (h18 : x9 ≤ 900) (h19 : x9 = x3) (h20 : x0 = x9 + x6) : x0 < (900 : Nat) := by omega
theorem o22_129 {x0 x2 x3 x4 x5 x7 x8 x9 : Int} {x1 x6 : Nat} (h0 : strLen.getD x1 0 ≤ 102) (h1 : 0 ≤ x2) (h2 : x2 ≤ 900) (h3 : 0 ≤ x3) (h4 : x3 ≤ 900) (h5 : x4 = x2 - x3) (h6 : 0 ≤ x5) (h7 : x5 ≤ 102) (h8 : x5 = ((strLen.getD x1 0 : Nat) : Int)) (h9 : x4 = x5) (h10 : 0 ≤ x0) (h11 : x0 ≤ 102) (h12 : 102 - x0 < ((x6 + 1 : Nat) : Int)) (h13 : 0 ≤ x7) (h14 : x7 ≤ 102) (h15 : x7 = ((strLen.getD x1 0 : Nat) : Int)) (h16 : x0 < x7) (h17 : 0 ≤ x8) (h18 : x8 ≤ 900) (h19 : x8 = x3) (h20 : x9 = x8 + x0) : 0 ≤ x0 := by omega
theorem o22_130 {x0 x2 x3 x4 x5 x7 x8 x9 : Int} {x1 x6 : Nat} (h0 : strLen.getD x1 0 ≤ 102) (h1 : 0 ≤ x2) (h2 : x2 ≤ 900) (h3 : 0 ≤ x3) (h4 : x3 ≤ 900) (h5 : x4 = x2 - x3) (h6 : 0 ≤ x5) (h7 : x5 ≤ 102) (h8 : x5 = ((strLen.getD x1 0 : Nat) : Int)) (h9 : x4 = x5) (h10 : 0 ≤ x0) (h11 : x0 ≤ 102) (h12 : 102 - x0 < ((x6 + 1 : Nat) : Int)) (h13 : 0 ≤ x7) (h14 : x7 ≤ 102) (h15 : x7 = ((strLen.getD x1 0 : Nat) : Int)) (h16 : x0 < x7) (h17 : 0 ≤ x8) (h18 : x8 ≤ 900) (h19 : x8 = x3) (h20 : x9 = x8 + x0) : x0 < ((strLen.getD x1 0 : Nat) : Int) := by omega
theorem o22_131 {x0 x2 x3 x4 x5 x7 x8 x9 : Int} {x1 x6 : Nat} (h0 : strLen.getD x1 0 ≤ 102) (h1 : 0 ≤ x2) (h2 : x2 ≤ 900) (h3 : 0 ≤ x3) (h4 : x3 ≤ 900) (h5 : x4 = x2 - x3) (h6 : 0 ≤ x5) (h7 : x5 ≤ 102) (h8 : x5 = ((strLen.getD x1 0 : Nat) : Int)) (h9 : x4 = x5) (h10 : 0 ≤ x0) (h11 : x0 ≤ 102) (h12 : 102 - x0 < ((x6 + 1 : Nat) : Int)) (h13 : 0 ≤ x7) (h14 : x7 ≤ 102) (h15 : x7 = ((strLen.getD x1 0 : Nat) : Int)) (h16 : x0 < x7) (h17 : 0 ≤ x8) (h18 : x8 ≤ 900) (h19 : x8 = x3) (h20 : x9 = x8 + x0) (h21 : -2147483648 ≤ x0) (h22 : x0 ≤ 2147483647) (h23 : -2147483648 ≤ x2) (h24 : x2 ≤ 2147483647) (h25 : -2147483648 ≤ x3) (h26 : x3 ≤ 2147483647) (h27 : -2147483648 ≤ x4) (h28 : x4 ≤ 2147483647) (h29 : -2147483648 ≤ x5) (h30 : x5 ≤ 2147483647) (h31 : -2147483648 ≤ x7) (h32 : x7 ≤ 2147483647) (h33 : -2147483648 ≤ x8) (h34 : x8 ≤ 2147483647) (h35 : -2147483648 ≤ x9) (h36 : x9 ≤ 2147483647) : -2147483648 ≤ x0 + 1 := by omega
theorem o22_132 {x0 x2 x3 x4 x5 x7 x8 x9 : Int} {x1 x6 : Nat} (h0 : strLen.getD x1 0 ≤ 102) (h1 : 0 ≤ x2) (h2 : x2 ≤ 900) (h3 : 0 ≤ x3) (h4 : x3 ≤ 900) (h5 : x4 = x2 - x3) (h6 : 0 ≤ x5) (h7 : x5 ≤ 102) (h8 : x5 = ((strLen.getD x1 0 : Nat) : Int)) (h9 : x4 = x5) (h10 : 0 ≤ x0) (h11 : x0 ≤ 102) (h12 : 102 - x0 < ((x6 + 1 : Nat) : Int)) (h13 : 0 ≤ x7) (h14 : x7 ≤ 102) (h15 : x7 = ((strLen.getD x1 0 : Nat) : Int)) (h16 : x0 < x7) (h17 : 0 ≤ x8) (h18 : x8 ≤ 900) (h19 : x8 = x3) (h20 : x9 = x8 + x0) (h21 : -2147483648 ≤ x0) (h22 : x0 ≤ 2147483647) (h23 : -2147483648 ≤ x2) (h24 : x2 ≤ 2147483647) (h25 : -2147483648 ≤ x3) (h26 : x3 ≤ 2147483647) (h27 : -2147483648 ≤ x4) (h28 : x4 ≤ 2147483647) (h29 : -2147483648 ≤ x5) (h30 : x5 ≤ 2147483647) (h31 : -2147483648 ≤ x7) (h32 : x7 ≤ 2147483647) (h33 : -2147483648 ≤ x8) (h34 : x8 ≤ 2147483647) (h35 : -2147483648 ≤ x9) (h36 : x9 ≤ 2147483647) : x0 + 1 ≤ 2147483647 := by omega
theorem o22_133 {x0 x3 x4 x5 x6 x7 x8 x9 x10 : Int} {x1 x2 : Nat} (h0 : strLen.getD x2 0 ≤ 102) (h1 : 0 ≤ x3) (h2 : x3 ≤ 900) (h3 : 0 ≤ x4) (h4 : x4 ≤ 900) (h5 : x5 = x3 - x4) (h6 : 0 ≤ x6) (h7 : x6 ≤ 102) (h8 : x6 = ((strLen.getD x2 0 : Nat) : Int)) (h9 : x5 = x6) (h10 : 0 ≤ x7) (h11 : x7 ≤ 102) (h12 : 102 - x7 < ((x1 + 1 : Nat) : Int)) (h13 : 0 ≤ x8) (h14 : x8 ≤ 102) (h15 : x8 = ((strLen.getD x2 0 : Nat) : Int)) (h16 : x7 < x8) (h17 : 0 ≤ x9) (h18 : x9 ≤ 900) (h19 : x9 = x4) (h20 : x10 = x9 + x7) (h21 : x0 = x7 + 1) : 102 - x0 < (x1 : Int) := by omega
theorem o22_134 {x0 x2 x3 x4 x5 x6 x8 x9 x10 : Int} {x1 x7 : Nat} (h0 : strLen.getD x1 0 ≤ 102) (h1 : 0 ≤ x2) (h2 : x2 ≤ 900) (h3 : 0 ≤ x3) (h4 : x3 ≤ 900) (h5 : x4 = x2 - x3) (h6 : 0 ≤ x5) (h7 : x5 ≤ 102) (h8 : x5 = ((strLen.getD x1 0 : Nat) : Int)) (h9 : x4 = x5) (h10 : 0 ≤ x6) (h11 : x6 ≤ 102) (h12 : 102 - x6 < ((x7 + 1 : Nat) : Int)) (h13 : 0 ≤ x8) (h14 : x8 ≤ 102) (h15 : x8 = ((strLen.getD x1 0 : Nat) : Int)) (h16 : x6 < x8) (h17 : 0 ≤ x9) (h18 : x9 ≤ 900) (h19 : x9 = x3) (h20 : x10 = x9 + x6) (h21 : x0 = x6 + 1) : 0 ≤ x0 := by omega
theorem o22_135 {x0 x2 x3 x4 x5 x6 x8 x9 x10 : Int} {x1 x7 : Nat} (h0 : strLen.getD x1 0 ≤ 102) (h1 : 0 ≤ x2) (h2 : x2 ≤ 900) (h3 : 0 ≤ x3) (h4 : x3 ≤ 900) (h5 : x4 = x2 - x3) (h6 : 0 ≤ x5) (h7 : x5 ≤ 102) (h8 : x5 = ((strLen.getD x1 0 : Nat) : Int)) (h9 : x4 = x5) (h10 : 0 ≤ x6) (h11 : x6 ≤ 102) (h12 : 102 - x6 < ((x7 + 1 : Nat) : Int)) (h13 : 0 ≤ x8) (h14 : x8 ≤ 102) (h15 : x8 = ((strLen.getD x1 0 : Nat) : Int)) (h16 : x6 < x8) (h17 : 0 ≤ x9) (h18 : x9 ≤ 900) (h19 : x9 = x3) (h20 : x10 = x9 + x6) (h21 : x0 = x6 + 1) : x0 ≤ 102 := by omega
theorem o22_136 {x0 : Int} (h0 : x0 = 0) : 102 - x0 < (((102 - x0 + 1).toNat : Nat) : Int) := by omega
theorem o22_137 {x0 : Int} (h0 : x0 = 0) : x0 ≤ 102 := by omega
theorem o22_138 {x0 : Int} (h0 : x0 = 2) : x0 = 2 := by omega
theorem o22_139 {x0 x1 : Int} (h0 : x1 = 2) (h1 : x0 = x1) : x0 = 2 := by omega
theorem o22_140 {x0 x1 : Int} (h0 : x1 = 2) (h1 : ¬ x0 = x1) : ¬ x0 = 2 := by omega
theorem o22_141 {x0 : Int} (h0 : 2 ≤ x0) (h1 : x0 ≤ 2) : x0 = 2 := by omega
theorem o22_142 {x0 x1 : Int} (h0 : 2 ≤ x1) (h1 : x1 ≤ 2) (h2 : x0 < x1) : x0 < 2 := by omega
theorem o22_143 {x0 x1 : Int} (h0 : 2 ≤ x1) (h1 : x1 ≤ 2) (h2 : x1 ≤ x0) : ¬ x0 < 2 := by omega
theorem o22_144 {x0 x1 : Int} (h0 : 2 ≤ x0) (h1 : x0 ≤ 2) (h2 : x1 < x0) : x0 = 2 := by omega
theorem o22_145 {x0 x1 : Int} (h0 : 2 ≤ x0) (h1 : x0 ≤ 2) (h2 : x1 < x0) : 2 ≤ x0 := by omega
theorem o22_146 {x0 x1 : Int} (h0 : 2 ≤ x0) (h1 : x0 ≤ 2) (h2 : x1 < x0) : x0 ≤ 5 := by omega
theorem o22_147 {x0 : Int} (h0 : 5 ≤ x0) (h1 : x0 ≤ 5) : x0 = 5 := by omega
theorem o22_148 {x0 x1 x2 x3 : Int} (h0 : 2 ≤ x1) (h1 : x1 ≤ 2) (h2 : 5 ≤ x2) (h3 : x2 ≤ 5) (h4 : x1 ≤ x3) (h5 : x0 = x3) (h6 : x0 ≤ x2) : ¬ 5 < x0 := by omega
theorem o22_149 {x0 x1 x2 x3 : Int} (h0 : 2 ≤ x1) (h1 : x1 ≤ 2) (h2 : 5 ≤ x2) (h3 : x2 ≤ 5) (h4 : x1 ≤ x3) (h5 : x0 = x3) (h6 : x2 < x0) : 5 < x0 := by omega
theorem o22_150 {x0 x1 x2 x3 x4 : Int} (h0 : 2 ≤ x1) (h1 : x1 ≤ 2) (h2 : 5 ≤ x2) (h3 : x2 ≤ 5) (h4 : x1 ≤ x3) (h5 : x4 = x3) (h6 : x4 ≤ x2) (h7 : x0 = x3) : 2 ≤ x0 := by omega
theorem o22_151 {x0 x1 x2 x3 x4 : Int} (h0 : 2 ≤ x1) (h1 : x1 ≤ 2) (h2 : 5 ≤ x2) (h3 : x2 ≤ 5) (h4 : x1 ≤ x3) (h5 : x4 = x3) (h6 : x4 ≤ x2) (h7 : x0 = x3) : x0 ≤ 5 := by omega
theorem o22_152 {x0 x1 x2 x3 : Int} (h0 : 2 ≤ x0) (h1 : x0 ≤ 2) (h2 : 5 ≤ x1) (h3 : x1 ≤ 5) (h4 : x0 ≤ x2) (h5 : x3 = x2) (h6 : x1 < x3) : x0 = 2 := by omega
theorem o22_153 {x0 x1 x2 x3 : Int} (h0 : 2 ≤ x0) (h1 : x0 ≤ 2) (h2 : 5 ≤ x1) (h3 : x1 ≤ 5) (h4 : x0 ≤ x2) (h5 : x3 = x2) (h6 : x1 < x3) : 2 ≤ x0 := by omega
theorem o22_154 {x0 x1 x2 x3 : Int} (h0 : 2 ≤ x0) (h1 : x0 ≤ 2) (h2 : 5 ≤ x1) (h3 : x1 ≤ 5) (h4 : x0 ≤ x2) (h5 : x3 = x2) (h6 : x1 < x3) : x0 ≤ 5 := by omega
theorem o22_155 {x0 : Int} (h0 : 2 ≤ x0) (h1 : x0 ≤ 2) : 2 ≤ x0 := by omega
theorem o22_156 {x0 : Int} (h0 : 2 ≤ x0) (h1 : x0 ≤ 2) : x0 ≤ 5 := by omega
theorem o22_157 {x0 : Int} (h0 : 0 ≤ x0) (h1 : x0 ≤ 0) : x0 = 0 := by omega
theorem o22_158 {x0 x1 : Int} (h0 : 0 ≤ x1) (h1 : x1 ≤ 0) (h2 : x0 < x1) : x0 < 0 := by omega
theorem o22_159 {x0 x1 : Int} (h0 : 0 ≤ x1) (h1 : x1 ≤ 0) (h2 : x1 ≤ x0) : ¬ x0 < 0 := by omega
theorem o22_160 {x0 x1 : Int} (h0 : 0 ≤ x0) (h1 : x0 ≤ 0) (h2 : x1 < x0) : x0 = 0 := by omega
theorem o22_161 {x0 x1 : Int} (h0 : 0 ≤ x0) (h1 : x0 ≤ 0) (h2 : x1 < x0) : 0 ≤ x0 := by omega
theorem o22_162 {x0 x1 : Int} (h0 : 0 ≤ x0) (h1 : x0 ≤ 0) (h2 : x1 < x0) : x0 ≤ 3 := by omega
theorem o22_163 {x0 : Int} (h0 : 3 ≤ x0) (h1 : x0 ≤ 3) : x0 = 3 := by omega
theorem o22_164 {x0 x1 x2 x3 : Int} (h0 : 0 ≤ x1) (h1 : x1 ≤ 0) (h2 : 3 ≤ x2) (h3 : x2 ≤ 3) (h4 : x1 ≤ x3) (h5 : x0 = x3) (h6 : x0 ≤ x2) : ¬ 3 < x0 := by omega
theorem o22_165 {x0 x1 x2 x3 : Int} (h0 : 0 ≤ x1) (h1 : x1 ≤ 0) (h2 : 3 ≤ x2) (h3 : x2 ≤ 3) (h4 : x1 ≤ x3) (h5 : x0 = x3) (h6 : x2 < x0) : 3 < x0 := by omega
theorem o22_166 {x0 x1 x2 x3 x4 : Int} (h0 : 0 ≤ x1) (h1 : x1 ≤ 0) (h2 : 3 ≤ x2) (h3 : x2 ≤ 3) (h4 : x1 ≤ x3) (h5 : x4 = x3) (h6 : x4 ≤ x2) (h7 : x0 = x3) : 0 ≤ x0 := by omega
theorem o22_167 {x0 x1 x2 x3 x4 : Int} (h0 : 0 ≤ x1) (h1 : x1 ≤ 0) (h2 : 3 ≤ x2) (h3 : x2 ≤ 3) (h4 : x1 ≤ x3) (h5 : x4 = x3) (h6 : x4 ≤ x2) (h7 : x0 = x3) : x0 ≤ 3 := by omega
theorem o22_168 {x0 x1 x2 x3 : Int} (h0 : 0 ≤ x0) (h1 : x0 ≤ 0) (h2 : 3 ≤ x1) (h3 : x1 ≤ 3) (h4 : x0 ≤ x2) (h5 : x3 = x2) (h6 : x1 < x3) : x0 = 0 := by omega
theorem o22_169 {x0 x1 x2 x3 : Int} (h0 : 0 ≤ x0) (h1 : x0 ≤ 0) (h2 : 3 ≤ x1) (h3 : x1 ≤ 3) (h4 : x0 ≤ x2) (h5 : x3 = x2) (h6 : x1 < x3) : 0 ≤ x0 := by omega
theorem o22_170 {x0 x1 x2 x3 : Int} (h0 : 0 ≤ x0) (h1 : x0 ≤ 0) (h2 : 3 ≤ x1) (h3 : x1 ≤ 3) (h4 : x0 ≤ x2) (h5 : x3 = x2) (h6 : x1 < x3) : x0 ≤ 3 := by omega
theorem o22_171 {x0 : Int} (h0 : 0 ≤ x0) (h1 : x0 ≤ 0) : 0 ≤ x0 := by omega
theorem o22_172 {x0 : Int} (h0 : 0 ≤ x0) (h1 : x0 ≤ 0) : x0 ≤ 3 := by omega
theorem o22_173 {x0 x1 : Int} (h0 : 0 ≤ x0) (h1 : x0 ≤ 0) (h2 : x1 < x0) : x0 ≤ 99 := by omega
theorem o22_174 {x0 : Int} (h0 : 99 ≤ x0) (h1 : x0 ≤ 99) : x0 = 99 := by omega
theorem o22_175 {x0 x1 x2 x3 : Int} (h0 : 0 ≤ x1) (h1 : x1 ≤ 0) (h2 : 99 ≤ x2) (h3 : x2 ≤ 99) (h4 : x1 ≤ x3) (h5 : x0 = x3) (h6 : x0 ≤ x2) : ¬ 99 < x0 := by omega
theorem o22_176 {x0 x1 x2 x3 : Int} (h0 : 0 ≤ x1) (h1 : x1 ≤ 0) (h2 : 99 ≤ x2) (h3 : x2 ≤ 99) (h4 : x1 ≤ x3) (h5 : x0 = x3) (h6 : x2 < x0) : 99 < x0 := by omega
theorem o22_177 {x0 x1 x2 x3 x4 : Int} (h0 : 0 ≤ x1) (h1 : x1 ≤ 0) (h2 : 99 ≤ x2) (h3 : x2 ≤ 99) (h4 : x1 ≤ x3) (h5 : x4 = x3) (h6 : x4 ≤ x2) (h7 : x0 = x3) : 0 ≤ x0 := by omega
theorem o22_178 {x0 x1 x2 x3 x4 : Int} (h0 : 0 ≤ x1) (h1 : x1 ≤ 0) (h2 : 99 ≤ x2) (h3 : x2 ≤ 99) (h4 : x1 ≤ x3) (h5 : x4 = x3) (h6 : x4 ≤ x2) (h7 : x0 = x3) : x0 ≤ 99 := by omega
theorem o22_179 {x0 x1 x2 x3 : Int} (h0 : 0 ≤ x0) (h1 : x0 ≤ 0) (h2 : 99 ≤ x1) (h3 : x1 ≤ 99) (h4 : x0 ≤ x2) (h5 : x3 = x2) (h6 : x1 < x3) : x0 = 0 := by omega
theorem o22_180 {x0 x1 x2 x3 : Int} (h0 : 0 ≤ x0) (h1 : x0 ≤ 0) (h2 : 99 ≤ x1) (h3 : x1 ≤ 99) (h4 : x0 ≤ x2) (h5 : x3 = x2) (h6 : x1 < x3) : 0 ≤ x0 := by omega
theorem o22_181 {x0 x1 x2 x3 : Int} (h0 : 0 ≤ x0) (h1 : x0 ≤ 0) (h2 : 99 ≤ x1) (h3 : x1 ≤ 99) (h4 : x0 ≤ x2) (h5 : x3 = x2) (h6 : x1 < x3) : x0 ≤ 99 := by omega
theorem o22_182 {x0 : Int} (h0 : 0 ≤ x0) (h1 : x0 ≤ 0) : x0 ≤ 99 := by omega
theorem o22_183 {x0 x1 : Int} (h0 : 0 ≤ x0) (h1 : x0 ≤ 0) (h2 : x1 < x0) : x0 ≤ 999 := by omega
theorem o22_184 {x0 : Int} (h0 : 999 ≤ x0) (h1 : x0 ≤ 999) : x0 = 999 := by omega
theorem o22_185 {x0 x1 x2 x3 : Int} (h0 : 0 ≤ x1) (h1 : x1 ≤ 0) (h2 : 999 ≤ x2) (h3 : x2 ≤ 999) (h4 : x1 ≤ x3) (h5 : x0 = x3) (h6 : x0 ≤ x2) : ¬ 999 < x0 := by omega
theorem o22_186 {x0 x1 x2 x3 : Int} (h0 : 0 ≤ x1) (h1 : x1 ≤ 0) (h2 : 999 ≤ x2) (h3 : x2 ≤ 999) (h4 : x1 ≤ x3) (h5 : x0 = x3) (h6 : x2 < x0) : 999 < x0 := by omega
theorem o22_187 {x0 x1 x2 x3 x4 : Int} (h0 : 0 ≤ x1) (h1 : x1 ≤ 0) (h2 : 999 ≤ x2) (h3 : x2 ≤ 999) (h4 : x1 ≤ x3) (h5 : x4 = x3) (h6 : x4 ≤ x2) (h7 : x0 = x3) : 0 ≤ x0 := by omega
theorem o22_188 {x0 x1 x2 x3 x4 : Int} (h0 : 0 ≤ x1) (h1 : x1 ≤ 0) (h2 : 999 ≤ x2) (h3 : x2 ≤ 999) (h4 : x1 ≤ x3) (h5 : x4 = x3) (h6 : x4 ≤ x2) (h7 : x0 = x3) : x0 ≤ 999 := by omega
theorem o22_189 {x0 x1 x2 x3 : Int} (h0 : 0 ≤ x0) (h1 : x0 ≤ 0) (h2 : 999 ≤ x1) (h3 : x1 ≤ 999) (h4 : x0 ≤ x2) (h5 : x3 = x2) (h6 : x1 < x3) : x0 = 0 := by omega
theorem o22_190 {x0 x1 x2 x3 : Int} (h0 : 0 ≤ x0) (h1 : x0 ≤ 0) (h2 : 999 ≤ x1) (h3 : x1 ≤ 999) (h4 : x0 ≤ x2) (h5 : x3 = x2) (h6 : x1 < x3) : 0 ≤ x0 := by omega
theorem o22_191 {x0 x1 x2 x3 : Int} (h0 : 0 ≤ x0) (h1 : x0 ≤ 0) (h2 : 999 ≤ x1) (h3 : x1 ≤ 999) (h4 : x0 ≤ x2) (h5 : x3 = x2) (h6 : x1 < x3) : x0 ≤ 999 := by omega
theorem o22_192 {x0 : Int} (h0 : 0 ≤ x0) (h1 : x0 ≤ 0) : x0 ≤ 999 := by omega
theorem o22_193 {x0 x1 : Int} (h0 : 0 ≤ x0) (h1 : x0 ≤ 0) (h2 : x1 < x0) : x0 ≤ 4 := by omega
theorem o22_194 {x0 x1 x2 x3 x4 : Int} (h0 : 0 ≤ x1) (h1 : x1 ≤ 0) (h2 : (-1) ≤ x2) (h3 : x2 ≤ 4) (h4 : x1 ≤ x3) (h5 : x4 = x3) (h6 : x4 ≤ x2) (h7 : x0 = x3) : 0 ≤ x0 := by omega
theorem o22_195 {x0 x1 x2 x3 x4 : Int} (h0 : 0 ≤ x1) (h1 : x1 ≤ 0) (h2 : (-1) ≤ x2) (h3 : x2 ≤ 4) (h4 : x1 ≤ x3) (h5 : x4 = x3) (h6 : x4 ≤ x2) (h7 : x0 = x3) : x0 ≤ 4 := by omega
theorem o22_196 {x0 x1 x2 x3 : Int} (h0 : 0 ≤ x0) (h1 : x0 ≤ 0) (h2 : (-1) ≤ x1) (h3 : x1 ≤ 4) (h4 : x0 ≤ x2) (h5 : x3 = x2) (h6 : x1 < x3) : x0 = 0 := by omega
theorem o22_197 {x0 x1 x2 x3 : Int} (h0 : 0 ≤ x0) (h1 : x0 ≤ 0) (h2 : (-1) ≤ x1) (h3 : x1 ≤ 4) (h4 : x0 ≤ x2) (h5 : x3 = x2) (h6 : x1 < x3) : 0 ≤ x0 := by omega
theorem o22_198 {x0 x1 x2 x3 : Int} (h0 : 0 ≤ x0) (h1 : x0 ≤ 0) (h2 : (-1) ≤ x1) (h3 : x1 ≤ 4) (h4 : x0 ≤ x2) (h5 : x3 = x2) (h6 : x1 < x3) : x0 ≤ 4 := by omega
theorem o22_199 {x0 : Int} (h0 : 0 ≤ x0) (h1 : x0 ≤ 0) : x0 ≤ 4 := by omega
noncomputable def g2_X5_hasRoom (s : XS) : XR := (s, 0)
noncomputable def g3_X5_hasRoom (s : XS) : XR := (s, 1)
noncomputable def g1b_X5_hasRoom (s : XS) (v_7 : Int) : XR := if 900 < v_7 then g2_X5_hasRoom s else g3_X5_hasRoom s
noncomputable def f_X5_hasRoom (s : XS) : XR := g1b_X5_hasRoom s (((s 0 77 2) + 20))
set_option maxHeartbeats 4000000 in
set_option maxRecDepth 100000 in
theorem c_X5_hasRoom (l : Launch) (G : GG) (Z : RZ) (ad : Nat → Nat) (ws0 : va_W) (hT : Ty G SC ad ws0) : Mq l yX5_hasRoom cX5_hasRoom 1 (some .boolean) 1 G Z [.ref (ad 77)] ws0 (PI G SC ad [] ws0 (fun r u => (xso SC ad u = (f_X5_hasRoom (xso SC ad ws0)).1) ∧ (r.toInt = (f_X5_hasRoom (xso SC ad ws0)).2) ∧ (0 ≤ r.toInt) ∧ (r.toInt ≤ 1))) := by
  refine Mq.start (by decide) (Nat.le_of_ble_eq_true rfl) ?_
  intro p e s m below meth c A ls C0 hZ h hl
  have hl : lv_has ls 1 [(0, .ref (ad 77))] := hl
  have h : Wt G SC ad A s s.heap [] ws0 := ⟨h, hT⟩
  obtain ⟨args, hargs⟩ : ∃ z, z = ([.ref (ad 77)] : List Value).toArray := ⟨_, rfl⟩
  rw [← hargs] at C0 ⊢
  have C0 : Cx p s m args meth c RX5 cX5_hasRoom 1 (some .boolean) := C0
  obtain ⟨Q, hQ⟩ : ∃ z, z = MQ below ((PI G SC ad [] ws0 (fun r u => (xso SC ad u = (f_X5_hasRoom (xso SC ad ws0)).1) ∧ (r.toInt = (f_X5_hasRoom (xso SC ad ws0)).2) ∧ (0 ≤ r.toInt) ∧ (r.toInt ≤ 1))) A) args s 0 0 A := ⟨_, rfl⟩
  rw [← hQ]
  obtain ⟨FT, hFT⟩ : ∃ z, z = f_X5_hasRoom (xso SC ad ws0) := ⟨_, rfl⟩
  have HE : FT = f_X5_hasRoom (xso SC ad ws0) := hFT
  refine lv_aload_n C0.1 C0.2.1 dX5_hasRoom_0 rfl (lv_at hl 0 rfl) ?_
  refine tg_X5_fed C0 h kSC_77 q_372 dX5_hasRoom_1 (fun v_1 e_2 e_3 e_4 => ?_)
  refine y_c2 (n := 20) C0 (by decide) dX5_hasRoom_4 (fun v_5 e_6 => ?_)
  refine y_add C0 (o22_1 e_3 e_4 e_6 (le_min v_1) (le_max v_1) (le_min v_5) (le_max v_5)) (o22_2 e_3 e_4 e_6 (le_min v_1) (le_max v_1) (le_min v_5) (le_max v_5)) dX5_hasRoom_6 (fun v_7 e_8 => ?_)
  refine y_c3 (n := 900) C0 (by decide) dX5_hasRoom_7 (fun v_9 e_10 => ?_)
  replace HE : FT = g1b_X5_hasRoom (xso SC ad ws0) v_7.toInt := HE.trans (by rw [e_8, e_6, (xg0 e_2 : v_1.toInt = (xso SC ad ws0) 0 77 2)]; rfl)
  refine y_icmp_gt (tgt := 17) C0 dX5_hasRoom_10 (by decide) (fun c_11 => ?_) (fun c_11 => ?_)
  · -- 10
    replace HE : FT = g2_X5_hasRoom (xso SC ad ws0) := HE.trans (if_pos (o22_4 e_3 e_4 e_6 e_8 e_10 c_11))
    refine y_c1 (n := 0) C0 (by decide) dX5_hasRoom_17 (fun v_12 e_13 => ?_)
    replace HE : FT = ((xso SC ad ws0), v_12.toInt) := HE.trans (by rw [e_13]; rfl)
    rw [hQ]
    exact y_zret C0 h (o22_6 e_13) (o22_7 e_13) Fr.rf ⟨(congrArg Prod.fst (HE.symm.trans hFT)), (congrArg Prod.snd (HE.symm.trans hFT)), (o22_6 e_13), (o22_7 e_13)⟩ dX5_hasRoom_18
  · -- 10
    replace HE : FT = g3_X5_hasRoom (xso SC ad ws0) := HE.trans (if_neg (o22_5 e_3 e_4 e_6 e_8 e_10 c_11))
    refine y_c1 (n := 1) C0 (by decide) dX5_hasRoom_13 (fun v_14 e_15 => ?_)
    refine lv_goto (tgt := 18) C0.1 C0.2.1 dX5_hasRoom_14 (by decide) ?_
    replace HE : FT = ((xso SC ad ws0), v_14.toInt) := HE.trans (by rw [e_15]; rfl)
    rw [hQ]
    exact y_zret C0 h (o22_8 e_15) (o22_9 e_15) Fr.rf ⟨(congrArg Prod.fst (HE.symm.trans hFT)), (congrArg Prod.snd (HE.symm.trans hFT)), (o22_8 e_15), (o22_9 e_15)⟩ dX5_hasRoom_18
noncomputable def f_X5_fed (s : XS) : XR := (s, (s 0 77 2))
set_option maxHeartbeats 4000000 in
set_option maxRecDepth 100000 in
theorem c_X5_fed (l : Launch) (G : GG) (Z : RZ) (ad : Nat → Nat) (ws0 : va_W) (hT : Ty G SC ad ws0) : Mq l yX5_fed cX5_fed 1 (some .int) 1 G Z [.ref (ad 77)] ws0 (PI G SC ad [] ws0 (fun r u => (xso SC ad u = (f_X5_fed (xso SC ad ws0)).1) ∧ (r.toInt = (f_X5_fed (xso SC ad ws0)).2) ∧ (0 ≤ r.toInt) ∧ (r.toInt ≤ 900))) := by
  refine Mq.start (by decide) (Nat.le_of_ble_eq_true rfl) ?_
  intro p e s m below meth c A ls C0 hZ h hl
  have hl : lv_has ls 1 [(0, .ref (ad 77))] := hl
  have h : Wt G SC ad A s s.heap [] ws0 := ⟨h, hT⟩
  obtain ⟨args, hargs⟩ : ∃ z, z = ([.ref (ad 77)] : List Value).toArray := ⟨_, rfl⟩
  rw [← hargs] at C0 ⊢
  have C0 : Cx p s m args meth c RX5 cX5_fed 1 (some .int) := C0
  obtain ⟨Q, hQ⟩ : ∃ z, z = MQ below ((PI G SC ad [] ws0 (fun r u => (xso SC ad u = (f_X5_fed (xso SC ad ws0)).1) ∧ (r.toInt = (f_X5_fed (xso SC ad ws0)).2) ∧ (0 ≤ r.toInt) ∧ (r.toInt ≤ 900))) A) args s 0 0 A := ⟨_, rfl⟩
  rw [← hQ]
  obtain ⟨FT, hFT⟩ : ∃ z, z = f_X5_fed (xso SC ad ws0) := ⟨_, rfl⟩
  have HE : FT = f_X5_fed (xso SC ad ws0) := hFT
  refine lv_aload_n C0.1 C0.2.1 dX5_fed_0 rfl (lv_at hl 0 rfl) ?_
  refine tg_X5_fed C0 h kSC_77 q_372 dX5_fed_1 (fun v_1 e_2 e_3 e_4 => ?_)
  replace HE : FT = ((xso SC ad ws0), v_1.toInt) := HE.trans (by rw [(xg0 e_2 : v_1.toInt = (xso SC ad ws0) 0 77 2)]; rfl)
  rw [hQ]
  exact y_iret C0 h Fr.rf ⟨(congrArg Prod.fst (HE.symm.trans hFT)), (congrArg Prod.snd (HE.symm.trans hFT)), (o22_10 e_3 e_4), (o22_11 e_3 e_4)⟩ dX5_fed_4
noncomputable def f_X5_faultKind (s : XS) : XR := (s, (s 0 77 8))
set_option maxHeartbeats 4000000 in
set_option maxRecDepth 100000 in
theorem c_X5_faultKind (l : Launch) (G : GG) (Z : RZ) (ad : Nat → Nat) (ws0 : va_W) (hT : Ty G SC ad ws0) : Mq l yX5_faultKind cX5_faultKind 1 (some .int) 1 G Z [.ref (ad 77)] ws0 (PI G SC ad [] ws0 (fun r u => (xso SC ad u = (f_X5_faultKind (xso SC ad ws0)).1) ∧ (r.toInt = (f_X5_faultKind (xso SC ad ws0)).2))) := by
  refine Mq.start (by decide) (Nat.le_of_ble_eq_true rfl) ?_
  intro p e s m below meth c A ls C0 hZ h hl
  have hl : lv_has ls 1 [(0, .ref (ad 77))] := hl
  have h : Wt G SC ad A s s.heap [] ws0 := ⟨h, hT⟩
  obtain ⟨args, hargs⟩ : ∃ z, z = ([.ref (ad 77)] : List Value).toArray := ⟨_, rfl⟩
  rw [← hargs] at C0 ⊢
  have C0 : Cx p s m args meth c RX5 cX5_faultKind 1 (some .int) := C0
  obtain ⟨Q, hQ⟩ : ∃ z, z = MQ below ((PI G SC ad [] ws0 (fun r u => (xso SC ad u = (f_X5_faultKind (xso SC ad ws0)).1) ∧ (r.toInt = (f_X5_faultKind (xso SC ad ws0)).2))) A) args s 0 0 A := ⟨_, rfl⟩
  rw [← hQ]
  obtain ⟨FT, hFT⟩ : ∃ z, z = f_X5_faultKind (xso SC ad ws0) := ⟨_, rfl⟩
  have HE : FT = f_X5_faultKind (xso SC ad ws0) := hFT
  refine lv_aload_n C0.1 C0.2.1 dX5_faultKind_0 rfl (lv_at hl 0 rfl) ?_
  refine tg_X5_fault C0 h kSC_77 q_378 dX5_faultKind_1 (fun v_1 e_2 e_3 e_4 => ?_)
  replace HE : FT = ((xso SC ad ws0), v_1.toInt) := HE.trans (by rw [(xg0 e_2 : v_1.toInt = (xso SC ad ws0) 0 77 8)]; rfl)
  rw [hQ]
  exact y_iret C0 h Fr.rf ⟨(congrArg Prod.fst (HE.symm.trans hFT)), (congrArg Prod.snd (HE.symm.trans hFT))⟩ dX5_faultKind_4
noncomputable def f_X5_faultPlace (s : XS) : XR := (s, (s 0 77 9))
set_option maxHeartbeats 4000000 in
set_option maxRecDepth 100000 in
theorem c_X5_faultPlace (l : Launch) (G : GG) (Z : RZ) (ad : Nat → Nat) (ws0 : va_W) (hT : Ty G SC ad ws0) : Mq l yX5_faultPlace cX5_faultPlace 1 (some .int) 1 G Z [.ref (ad 77)] ws0 (PI G SC ad [] ws0 (fun r u => (xso SC ad u = (f_X5_faultPlace (xso SC ad ws0)).1) ∧ (r.toInt = (f_X5_faultPlace (xso SC ad ws0)).2))) := by
  refine Mq.start (by decide) (Nat.le_of_ble_eq_true rfl) ?_
  intro p e s m below meth c A ls C0 hZ h hl
  have hl : lv_has ls 1 [(0, .ref (ad 77))] := hl
  have h : Wt G SC ad A s s.heap [] ws0 := ⟨h, hT⟩
  obtain ⟨args, hargs⟩ : ∃ z, z = ([.ref (ad 77)] : List Value).toArray := ⟨_, rfl⟩
  rw [← hargs] at C0 ⊢
  have C0 : Cx p s m args meth c RX5 cX5_faultPlace 1 (some .int) := C0
  obtain ⟨Q, hQ⟩ : ∃ z, z = MQ below ((PI G SC ad [] ws0 (fun r u => (xso SC ad u = (f_X5_faultPlace (xso SC ad ws0)).1) ∧ (r.toInt = (f_X5_faultPlace (xso SC ad ws0)).2))) A) args s 0 0 A := ⟨_, rfl⟩
  rw [← hQ]
  obtain ⟨FT, hFT⟩ : ∃ z, z = f_X5_faultPlace (xso SC ad ws0) := ⟨_, rfl⟩
  have HE : FT = f_X5_faultPlace (xso SC ad ws0) := hFT
  refine lv_aload_n C0.1 C0.2.1 dX5_faultPlace_0 rfl (lv_at hl 0 rfl) ?_
  refine tg_X5_place C0 h kSC_77 q_379 dX5_faultPlace_1 (fun v_1 e_2 e_3 e_4 => ?_)
  replace HE : FT = ((xso SC ad ws0), v_1.toInt) := HE.trans (by rw [(xg0 e_2 : v_1.toInt = (xso SC ad ws0) 0 77 9)]; rfl)
  rw [hQ]
  exact y_iret C0 h Fr.rf ⟨(congrArg Prod.fst (HE.symm.trans hFT)), (congrArg Prod.snd (HE.symm.trans hFT))⟩ dX5_faultPlace_4
noncomputable def g4_X5_put (s : XS) : XR := (s, 0)
noncomputable def g7_X5_put (s : XS) : XR := (s, 0)
noncomputable def g10w_X5_put (R3 : XS → Int → Int → XR) (s : XS) (a1 : Int) (x2_3 : Int) : XR := R3 s a1 ((x2_3 + (-8)))
noncomputable def g9w_X5_put (R3 : XS → Int → Int → XR) (s : XS) (a1 : Int) (x2_3 : Int) : XR := g10w_X5_put R3 (xup s 0 77 2 ((s 0 77 2) + 1)) a1 x2_3
noncomputable def g8_X5_put (R3 : XS → Int → Int → XR) (s : XS) (a1 : Int) (x2_3 : Int) : XR := g9w_X5_put R3 (xup s 1 78 (Int.toNat (s 0 77 2)) (Xi2b (Xi2b (Xishr a1 x2_3)))) a1 x2_3
noncomputable def g6b_X5_put (R3 : XS → Int → Int → XR) (s : XS) (v_13 : Int) (a1 : Int) (x2_3 : Int) : XR := if v_13 < 900 then g8_X5_put R3 s a1 x2_3 else g7_X5_put s
noncomputable def g5_X5_put (R3 : XS → Int → Int → XR) (s : XS) (a1 : Int) (x2_3 : Int) : XR := g6b_X5_put R3 s ((s 0 77 2)) a1 x2_3
noncomputable def g3b_X5_put (R3 : XS → Int → Int → XR) (s : XS) (x2_3 : Int) (a1 : Int) : XR := if x2_3 < 0 then g4_X5_put s else g5_X5_put R3 s a1 x2_3
noncomputable def g2l_X5_put (R3 : XS → Int → Int → XR) (s : XS) (a1 : Int) (x2_3 : Int) : XR := g3b_X5_put R3 s x2_3 a1
noncomputable def L1_X5_put (n : Nat) : XS → Int → Int → XR := Nat.rec (motive := fun _ => XS → Int → Int → XR) (fun s _ _ => (s, 0)) (fun _ R3 => g2l_X5_put R3) n
noncomputable def f_X5_put (s : XS) (a1 : Int) : XR := L1_X5_put (Int.toNat (24 - (-8) + 1)) s a1 24
set_option maxHeartbeats 4000000 in
set_option maxRecDepth 100000 in
theorem c_X5_put (l : Launch) (G : GG) (Z : RZ) (ad : Nat → Nat) (ws0 : va_W) (hT : Ty G SC ad ws0) (a1 : Int32) : Mq l yX5_put cX5_put 3 none 1 G Z [.ref (ad 77), .int a1] ws0 (PV G SC ad [16, 17] ws0 (fun u => (xso SC ad u = (f_X5_put (xso SC ad ws0) a1.toInt).1))) := by
  refine Mq.start (by decide) (Nat.le_of_ble_eq_true rfl) ?_
  intro p e s m below meth c A ls C0 hZ h hl
  have hl : lv_has ls 3 [(0, .ref (ad 77)), (1, .int a1)] := hl
  have h : Wt G SC ad A s s.heap [] ws0 := ⟨h, hT⟩
  obtain ⟨args, hargs⟩ : ∃ z, z = ([.ref (ad 77), .int a1] : List Value).toArray := ⟨_, rfl⟩
  rw [← hargs] at C0 ⊢
  have C0 : Cx p s m args meth c RX5 cX5_put 3 none := C0
  obtain ⟨Q, hQ⟩ : ∃ z, z = MQ below ((PV G SC ad [16, 17] ws0 (fun u => (xso SC ad u = (f_X5_put (xso SC ad ws0) a1.toInt).1))) A) args s 0 0 A := ⟨_, rfl⟩
  rw [← hQ]
  obtain ⟨FT, hFT⟩ : ∃ z, z = f_X5_put (xso SC ad ws0) a1.toInt := ⟨_, rfl⟩
  have HE : FT = f_X5_put (xso SC ad ws0) a1.toInt := hFT
  refine y_c2 (n := 24) C0 (by decide) dX5_put_0 (fun v_1 e_2 => ?_)
  refine lv_istore_n (lv' := [(2, .int v_1), (0, .ref (ad 77)), (1, .int a1)]) C0.1 C0.2.1 dX5_put_2 rfl hl (by decide) rfl (fun ls hl => ?_)
  have lp_6 : ∀ (n_8 : Nat) (x2_3 : Int32) (H : Heap) (locs : List Loc) (ls : Array Slot) (ws_4 : va_W), x2_3.toInt - (-8) < (n_8 : Int) → (-8) ≤ x2_3.toInt → x2_3.toInt ≤ 24 → (FT = L1_X5_put n_8 (xso SC ad ws_4) a1.toInt x2_3.toInt) → Wt G SC ad A s H locs ws_4 → Fr SC [16, 17] ws0 ws_4 → lv_has ls 3 [(2, .int x2_3), (0, .ref (ad 77)), (1, .int a1)] → W p l e (rmd 1 0 0) s m args below meth c H locs 0 0 Q (F0 m 3 ls []) := by
    intro n_8
    induction n_8 with
    | zero => intro x2_3 H locs ls ws_4 hn_9 b_10 b_11 HE h hF_5 hl; exact ((o22_12 b_10 b_11 hn_9)).elim
    | succ n_8 ih_7 =>
      intro x2_3 H locs ls ws_4 hn_9 b_10 b_11 HE h hF_5 hl
      obtain ⟨R3, hR3⟩ : ∃ z, z = L1_X5_put n_8 := ⟨_, rfl⟩
      replace HE : FT = g2l_X5_put R3 (xso SC ad ws_4) a1.toInt x2_3.toInt := HE.trans (by rw [hR3]; rfl)
      refine lv_iload_n C0.1 C0.2.1 dX5_put_3 rfl (lv_at hl 0 rfl) ?_
      replace HE : FT = g3b_X5_put R3 (xso SC ad ws_4) x2_3.toInt a1.toInt := HE.trans rfl
      refine y_if_lt (tgt := 46) C0 dX5_put_4 (by decide) (fun c_12 => ?_) (fun c_12 => ?_)
      · -- 4
        replace HE : FT = g4_X5_put (xso SC ad ws_4) := HE.trans (if_pos c_12)
        replace HE : FT = ((xso SC ad ws_4), 0) := HE.trans rfl
        rw [hQ]
        exact y_vret C0 h hF_5 (congrArg Prod.fst (HE.symm.trans hFT)) dX5_put_46
      · -- 4
        replace HE : FT = g5_X5_put R3 (xso SC ad ws_4) a1.toInt x2_3.toInt := HE.trans (if_neg (Int.not_lt.mpr c_12))
        refine lv_aload_n C0.1 C0.2.1 dX5_put_7 rfl (lv_at hl 1 rfl) ?_
        refine tg_X5_fed C0 h kSC_77 q_372 dX5_put_8 (fun v_13 e_14 e_15 e_16 => ?_)
        refine y_c3 (n := 900) C0 (by decide) dX5_put_11 (fun v_17 e_18 => ?_)
        replace HE : FT = g6b_X5_put R3 (xso SC ad ws_4) v_13.toInt a1.toInt x2_3.toInt := HE.trans (by rw [(xg0 e_14 : v_13.toInt = (xso SC ad ws_4) 0 77 2)]; rfl)
        refine y_icmp_ge (tgt := 46) C0 dX5_put_14 (by decide) (fun c_19 => ?_) (fun c_19 => ?_)
        · -- 14
          replace HE : FT = g7_X5_put (xso SC ad ws_4) := HE.trans (if_neg (o22_13 e_15 e_16 e_18 c_19))
          replace HE : FT = ((xso SC ad ws_4), 0) := HE.trans rfl
          rw [hQ]
          exact y_vret C0 h hF_5 (congrArg Prod.fst (HE.symm.trans hFT)) dX5_put_46
        · -- 14
          replace HE : FT = g8_X5_put R3 (xso SC ad ws_4) a1.toInt x2_3.toInt := HE.trans (if_pos (o22_14 e_15 e_16 e_18 c_19))
          refine lv_aload_n C0.1 C0.2.1 dX5_put_17 rfl (lv_at hl 1 rfl) ?_
          refine tg_X5_tape C0 h kSC_77 q_371 dX5_put_18 ?_
          refine lv_aload_n C0.1 C0.2.1 dX5_put_21 rfl (lv_at hl 1 rfl) ?_
          refine tg_X5_fed C0 h kSC_77 q_372 dX5_put_22 (fun v_20 e_21 e_22 e_23 => ?_)
          have qh_24 : v_20.toInt = v_13.toInt := congrArg Int32.toInt (e_21.symm.trans (Eq.trans rfl e_14))
          refine lv_iload_n C0.1 C0.2.1 dX5_put_25 rfl (lv_at hl 2 rfl) ?_
          refine lv_iload_n C0.1 C0.2.1 dX5_put_26 rfl (lv_at hl 0 rfl) ?_
          refine xr_ishr C0 dX5_put_27 (fun v_25 e_26 => ?_)
          refine xr_i2b C0 dX5_put_28 (fun v_27 e_28 => ?_)
          have hO_31 := h.2
          refine y_bast C0 h kSC_78 rfl (by decide) (o22_15 e_15 e_16 e_18 c_19 e_22 e_23 qh_24) (o22_16 e_15 e_16 e_18 c_19 e_22 e_23 qh_24) (by decide) (by decide) dX5_put_29 (fun H locs ws_29 h u_30 => ?_)
          replace HE : FT = g9w_X5_put R3 (xso SC ad ws_29) a1.toInt x2_3.toInt := HE.trans (by rw [((xso_A (i := 78) hO_31 h.2 kSC_78 rfl u_30).trans (congrArg (xup (xso SC ad ws_4) 1 78 v_20.toInt.toNat) (nar_x v_27))), e_28, e_26, (xg0 e_21 : v_20.toInt = (xso SC ad ws_4) 0 77 2)]; rfl)
          refine lv_aload_n C0.1 C0.2.1 dX5_put_30 rfl (lv_at hl 1 rfl) ?_
          refine lv_dup C0.1 C0.2.1 dX5_put_31 rfl ?_
          refine tg_X5_fed C0 h kSC_77 q_372 dX5_put_32 (fun v_32 e_33 e_34 e_35 => ?_)
          have qh_36 : v_32.toInt = v_13.toInt := congrArg Int32.toInt (e_33.symm.trans (Eq.trans (fI_of (u_30.1 77 (kd_ne kSC_77 kSC_78 (by decide)))) e_14))
          refine y_c1 (n := 1) C0 (by decide) dX5_put_35 (fun v_37 e_38 => ?_)
          refine y_add C0 (o22_17 e_15 e_16 e_18 c_19 e_22 e_23 qh_24 e_34 e_35 qh_36 e_38 (le_min v_32) (le_max v_32) (le_min v_37) (le_max v_37) (le_min v_13) (le_max v_13) (le_min v_17) (le_max v_17) (le_min v_20) (le_max v_20)) (o22_18 e_15 e_16 e_18 c_19 e_22 e_23 qh_24 e_34 e_35 qh_36 e_38 (le_min v_32) (le_max v_32) (le_min v_37) (le_max v_37) (le_min v_13) (le_max v_13) (le_min v_17) (le_max v_17) (le_min v_20) (le_max v_20)) dX5_put_36 (fun v_39 e_40 => ?_)
          refine tp_X5_fed C0 h kSC_77 q_372 (o22_19 e_15 e_16 e_18 c_19 e_22 e_23 qh_24 e_34 e_35 qh_36 e_38 e_40) (o22_20 e_15 e_16 e_18 c_19 e_22 e_23 qh_24 e_34 e_35 qh_36 e_38 e_40) dX5_put_37 (fun H locs ws_41 h u_42 Xu_42 => ?_)
          replace HE : FT = g10w_X5_put R3 (xso SC ad ws_41) a1.toInt x2_3.toInt := HE.trans (by rw [Xu_42, e_40, e_38, (xg0 e_33 : v_32.toInt = (xso SC ad ws_29) 0 77 2)]; rfl)
          refine y_inc (kp := 0) (n := (-8)) (fun v_43 => [(2, .int v_43), (0, .ref (ad 77)), (1, .int a1)]) C0 hl rfl (by decide) (by decide) (fun _ => rfl) (o22_21 b_10 b_11 hn_9 c_12 (le_min x2_3) (le_max x2_3)) (o22_22 b_10 b_11 hn_9 c_12 (le_min x2_3) (le_max x2_3)) dX5_put_40 (fun v_43 ls e_44 hl => ?_)
          refine lv_goto (tgt := 3) C0.1 C0.2.1 dX5_put_43 (by decide) ?_
          exact ih_7 v_43 _ _ _ _ (o22_23 b_10 b_11 hn_9 c_12 e_44) (o22_24 b_10 b_11 hn_9 c_12 e_44) (o22_25 b_10 b_11 hn_9 c_12 e_44) (((show FT = R3 (xso SC ad ws_41) a1.toInt v_43.toInt from HE.trans (by rw [e_44]; rfl)).trans (by rw [hR3]))) h (Fr.tr (Fr.tr hF_5 (Fr.up u_30.1 kSC_78 (by decide))) (Fr.up u_42.1 kSC_77 (by decide))) (lv_sub hl [0, 1, 2] rfl)
  exact lp_6 ((v_1.toInt - (-8) + 1).toNat) v_1 _ _ _ _ (o22_26 e_2) (o22_27 e_2) (o22_28 e_2) ((show FT = L1_X5_put (Int.toNat (v_1.toInt - (-8) + 1)) (xso SC ad ws0) a1.toInt v_1.toInt from HE.trans (by rw [e_2]; rfl))) h Fr.rf (lv_sub hl [0, 1, 2] rfl)
noncomputable def g4w_X5_fail (s : XS) : XR := (s, 0)
noncomputable def g2_X5_fail (s : XS) : XR := g4w_X5_fail (xup s 0 77 4 0)
noncomputable def g7w_X5_fail (s : XS) : XR := (s, 0)
noncomputable def g6w_X5_fail (s : XS) : XR := g7w_X5_fail (xup s 0 77 4 0)
noncomputable def g5w_X5_fail (s : XS) : XR := g6w_X5_fail (xup s 0 77 9 (s 0 77 5))
noncomputable def g3_X5_fail (s : XS) (a1 : Int) : XR := g5w_X5_fail (xup s 0 77 8 a1)
noncomputable def g1b_X5_fail (s : XS) (v_1 : Int) (a1 : Int) : XR := if v_1 = 0 then g3_X5_fail s a1 else g2_X5_fail s
noncomputable def f_X5_fail (s : XS) (a1 : Int) : XR := g1b_X5_fail s ((s 0 77 8)) a1
set_option maxHeartbeats 4000000 in
set_option maxRecDepth 100000 in
theorem c_X5_fail (l : Launch) (G : GG) (Z : RZ) (ad : Nat → Nat) (ws0 : va_W) (hT : Ty G SC ad ws0) (a1 : Int32) : Mq l yX5_fail cX5_fail 2 none 1 G Z [.ref (ad 77), .int a1] ws0 (PV G SC ad [16] ws0 (fun u => (xso SC ad u = (f_X5_fail (xso SC ad ws0) a1.toInt).1))) := by
  refine Mq.start (by decide) (Nat.le_of_ble_eq_true rfl) ?_
  intro p e s m below meth c A ls C0 hZ h hl
  have hl : lv_has ls 2 [(0, .ref (ad 77)), (1, .int a1)] := hl
  have h : Wt G SC ad A s s.heap [] ws0 := ⟨h, hT⟩
  obtain ⟨args, hargs⟩ : ∃ z, z = ([.ref (ad 77), .int a1] : List Value).toArray := ⟨_, rfl⟩
  rw [← hargs] at C0 ⊢
  have C0 : Cx p s m args meth c RX5 cX5_fail 2 none := C0
  obtain ⟨Q, hQ⟩ : ∃ z, z = MQ below ((PV G SC ad [16] ws0 (fun u => (xso SC ad u = (f_X5_fail (xso SC ad ws0) a1.toInt).1))) A) args s 0 0 A := ⟨_, rfl⟩
  rw [← hQ]
  obtain ⟨FT, hFT⟩ : ∃ z, z = f_X5_fail (xso SC ad ws0) a1.toInt := ⟨_, rfl⟩
  have HE : FT = f_X5_fail (xso SC ad ws0) a1.toInt := hFT
  refine lv_aload_n C0.1 C0.2.1 dX5_fail_0 rfl (lv_at hl 0 rfl) ?_
  refine tg_X5_fault C0 h kSC_77 q_378 dX5_fail_1 (fun v_1 e_2 e_3 e_4 => ?_)
  replace HE : FT = g1b_X5_fail (xso SC ad ws0) v_1.toInt a1.toInt := HE.trans (by rw [(xg0 e_2 : v_1.toInt = (xso SC ad ws0) 0 77 8)]; rfl)
  refine y_if_ne (tgt := 20) C0 dX5_fail_4 (by decide) (fun c_5 => ?_) (fun c_5 => ?_)
  · -- 4
    replace HE : FT = g2_X5_fail (xso SC ad ws0) := HE.trans (if_neg c_5)
    refine lv_aload_n C0.1 C0.2.1 dX5_fail_20 rfl (lv_at hl 0 rfl) ?_
    refine y_c1 (n := 0) C0 (by decide) dX5_fail_21 (fun v_6 e_7 => ?_)
    refine tp_X5_kind C0 h kSC_77 q_374 (le_min v_6) (le_max v_6) dX5_fail_22 (fun H locs ws_8 h u_9 Xu_9 => ?_)
    replace HE : FT = g4w_X5_fail (xso SC ad ws_8) := HE.trans (by rw [Xu_9, e_7]; rfl)
    replace HE : FT = ((xso SC ad ws_8), 0) := HE.trans rfl
    rw [hQ]
    exact y_vret C0 h (Fr.up u_9.1 kSC_77 (by decide)) (congrArg Prod.fst (HE.symm.trans hFT)) dX5_fail_25
  · -- 4
    replace HE : FT = g3_X5_fail (xso SC ad ws0) a1.toInt := HE.trans (if_pos c_5)
    refine lv_aload_n C0.1 C0.2.1 dX5_fail_7 rfl (lv_at hl 0 rfl) ?_
    refine lv_iload_n C0.1 C0.2.1 dX5_fail_8 rfl (lv_at hl 1 rfl) ?_
    refine tp_X5_fault C0 h kSC_77 q_378 (le_min a1) (le_max a1) dX5_fail_9 (fun H locs ws_10 h u_11 Xu_11 => ?_)
    replace HE : FT = g5w_X5_fail (xso SC ad ws_10) := HE.trans (by rw [Xu_11]; rfl)
    refine lv_aload_n C0.1 C0.2.1 dX5_fail_12 rfl (lv_at hl 0 rfl) ?_
    refine lv_aload_n C0.1 C0.2.1 dX5_fail_13 rfl (lv_at hl 0 rfl) ?_
    refine tg_X5_start C0 h kSC_77 q_375 dX5_fail_14 (fun v_12 e_13 e_14 e_15 => ?_)
    refine tp_X5_place C0 h kSC_77 q_379 (le_min v_12) (le_max v_12) dX5_fail_17 (fun H locs ws_16 h u_17 Xu_17 => ?_)
    replace HE : FT = g6w_X5_fail (xso SC ad ws_16) := HE.trans (by rw [Xu_17, (xg0 e_13 : v_12.toInt = (xso SC ad ws_10) 0 77 5)]; rfl)
    refine lv_aload_n C0.1 C0.2.1 dX5_fail_20 rfl (lv_at hl 0 rfl) ?_
    refine y_c1 (n := 0) C0 (by decide) dX5_fail_21 (fun v_18 e_19 => ?_)
    refine tp_X5_kind C0 h kSC_77 q_374 (le_min v_18) (le_max v_18) dX5_fail_22 (fun H locs ws_20 h u_21 Xu_21 => ?_)
    replace HE : FT = g7w_X5_fail (xso SC ad ws_20) := HE.trans (by rw [Xu_21, e_19]; rfl)
    replace HE : FT = ((xso SC ad ws_20), 0) := HE.trans rfl
    rw [hQ]
    exact y_vret C0 h (Fr.tr (Fr.tr (Fr.up u_11.1 kSC_77 (by decide)) (Fr.up u_17.1 kSC_77 (by decide))) (Fr.up u_21.1 kSC_77 (by decide))) (congrArg Prod.fst (HE.symm.trans hFT)) dX5_fail_25
noncomputable def g2_X5_isSmall (s : XS) : XR := (s, 0)
noncomputable def g5_X5_isSmall (s : XS) : XR := (s, 0)
noncomputable def g6_X5_isSmall (s : XS) : XR := (s, 1)
noncomputable def g4b_X5_isSmall (s : XS) (v_10 : Int) : XR := if 122 < v_10 then g5_X5_isSmall s else g6_X5_isSmall s
noncomputable def g3_X5_isSmall (s : XS) (a1 : Int) : XR := g4b_X5_isSmall s ((s 1 78 (Int.toNat a1)))
noncomputable def g1b_X5_isSmall (s : XS) (v_1 : Int) (a1 : Int) : XR := if v_1 < 97 then g2_X5_isSmall s else g3_X5_isSmall s a1
noncomputable def f_X5_isSmall (s : XS) (a1 : Int) : XR := g1b_X5_isSmall s ((s 1 78 (Int.toNat a1))) a1
set_option maxHeartbeats 4000000 in
set_option maxRecDepth 100000 in
theorem c_X5_isSmall (l : Launch) (G : GG) (Z : RZ) (ad : Nat → Nat) (ws0 : va_W) (hT : Ty G SC ad ws0) (a1 : Int32) (l1 : 0 ≤ a1.toInt) (u1 : a1.toInt ≤ 899) : Mq l yX5_isSmall cX5_isSmall 2 (some .boolean) 1 G Z [.ref (ad 77), .int a1] ws0 (PI G SC ad [] ws0 (fun r u => (xso SC ad u = (f_X5_isSmall (xso SC ad ws0) a1.toInt).1) ∧ (r.toInt = (f_X5_isSmall (xso SC ad ws0) a1.toInt).2) ∧ (0 ≤ r.toInt) ∧ (r.toInt ≤ 1))) := by
  refine Mq.start (by decide) (Nat.le_of_ble_eq_true rfl) ?_
  intro p e s m below meth c A ls C0 hZ h hl
  have hl : lv_has ls 2 [(0, .ref (ad 77)), (1, .int a1)] := hl
  have h : Wt G SC ad A s s.heap [] ws0 := ⟨h, hT⟩
  obtain ⟨args, hargs⟩ : ∃ z, z = ([.ref (ad 77), .int a1] : List Value).toArray := ⟨_, rfl⟩
  rw [← hargs] at C0 ⊢
  have C0 : Cx p s m args meth c RX5 cX5_isSmall 2 (some .boolean) := C0
  obtain ⟨Q, hQ⟩ : ∃ z, z = MQ below ((PI G SC ad [] ws0 (fun r u => (xso SC ad u = (f_X5_isSmall (xso SC ad ws0) a1.toInt).1) ∧ (r.toInt = (f_X5_isSmall (xso SC ad ws0) a1.toInt).2) ∧ (0 ≤ r.toInt) ∧ (r.toInt ≤ 1))) A) args s 0 0 A := ⟨_, rfl⟩
  rw [← hQ]
  obtain ⟨FT, hFT⟩ : ∃ z, z = f_X5_isSmall (xso SC ad ws0) a1.toInt := ⟨_, rfl⟩
  have HE : FT = f_X5_isSmall (xso SC ad ws0) a1.toInt := hFT
  refine lv_aload_n C0.1 C0.2.1 dX5_isSmall_0 rfl (lv_at hl 0 rfl) ?_
  refine tg_X5_tape C0 h kSC_77 q_371 dX5_isSmall_1 ?_
  refine lv_iload_n C0.1 C0.2.1 dX5_isSmall_4 rfl (lv_at hl 1 rfl) ?_
  refine y_bald C0 h kSC_78 rfl (by decide) (o22_29 l1 u1) (o22_30 l1 u1) dX5_isSmall_5 (fun v_1 e_2 e_3 e_4 => ?_)
  refine y_c2 (n := 97) C0 (by decide) dX5_isSmall_6 (fun v_5 e_6 => ?_)
  replace HE : FT = g1b_X5_isSmall (xso SC ad ws0) v_1.toInt a1.toInt := HE.trans (by rw [(xg1 e_2 : v_1.toInt = (xso SC ad ws0) 1 78 a1.toInt.toNat)]; rfl)
  refine y_icmp_lt (tgt := 26) C0 dX5_isSmall_8 (by decide) (fun c_7 => ?_) (fun c_7 => ?_)
  · -- 8
    replace HE : FT = g2_X5_isSmall (xso SC ad ws0) := HE.trans (if_pos (o22_32 e_3 e_4 e_6 c_7))
    refine y_c1 (n := 0) C0 (by decide) dX5_isSmall_26 (fun v_8 e_9 => ?_)
    replace HE : FT = ((xso SC ad ws0), v_8.toInt) := HE.trans (by rw [e_9]; rfl)
    rw [hQ]
    exact y_zret C0 h (o22_6 e_9) (o22_7 e_9) Fr.rf ⟨(congrArg Prod.fst (HE.symm.trans hFT)), (congrArg Prod.snd (HE.symm.trans hFT)), (o22_6 e_9), (o22_7 e_9)⟩ dX5_isSmall_27
  · -- 8
    replace HE : FT = g3_X5_isSmall (xso SC ad ws0) a1.toInt := HE.trans (if_neg (o22_33 e_3 e_4 e_6 c_7))
    refine lv_aload_n C0.1 C0.2.1 dX5_isSmall_11 rfl (lv_at hl 0 rfl) ?_
    refine tg_X5_tape C0 h kSC_77 q_371 dX5_isSmall_12 ?_
    refine lv_iload_n C0.1 C0.2.1 dX5_isSmall_15 rfl (lv_at hl 1 rfl) ?_
    refine y_bald C0 h kSC_78 rfl (by decide) (o22_29 l1 u1) (o22_30 l1 u1) dX5_isSmall_16 (fun v_10 e_11 e_12 e_13 => ?_)
    have qh_14 : v_10.toInt = v_1.toInt := congrArg Int32.toInt (e_11.symm.trans (Eq.trans rfl e_2))
    refine y_c2 (n := 122) C0 (by decide) dX5_isSmall_17 (fun v_15 e_16 => ?_)
    replace HE : FT = g4b_X5_isSmall (xso SC ad ws0) v_10.toInt := HE.trans (by rw [(xg1 e_11 : v_10.toInt = (xso SC ad ws0) 1 78 a1.toInt.toNat)]; rfl)
    refine y_icmp_gt (tgt := 26) C0 dX5_isSmall_19 (by decide) (fun c_17 => ?_) (fun c_17 => ?_)
    · -- 19
      replace HE : FT = g5_X5_isSmall (xso SC ad ws0) := HE.trans (if_pos (o22_35 e_3 e_4 e_6 c_7 e_12 e_13 qh_14 e_16 c_17))
      refine y_c1 (n := 0) C0 (by decide) dX5_isSmall_26 (fun v_18 e_19 => ?_)
      replace HE : FT = ((xso SC ad ws0), v_18.toInt) := HE.trans (by rw [e_19]; rfl)
      rw [hQ]
      exact y_zret C0 h (o22_6 e_19) (o22_7 e_19) Fr.rf ⟨(congrArg Prod.fst (HE.symm.trans hFT)), (congrArg Prod.snd (HE.symm.trans hFT)), (o22_6 e_19), (o22_7 e_19)⟩ dX5_isSmall_27
    · -- 19
      replace HE : FT = g6_X5_isSmall (xso SC ad ws0) := HE.trans (if_neg (o22_36 e_3 e_4 e_6 c_7 e_12 e_13 qh_14 e_16 c_17))
      refine y_c1 (n := 1) C0 (by decide) dX5_isSmall_22 (fun v_20 e_21 => ?_)
      refine lv_goto (tgt := 27) C0.1 C0.2.1 dX5_isSmall_23 (by decide) ?_
      replace HE : FT = ((xso SC ad ws0), v_20.toInt) := HE.trans (by rw [e_21]; rfl)
      rw [hQ]
      exact y_zret C0 h (o22_8 e_21) (o22_9 e_21) Fr.rf ⟨(congrArg Prod.fst (HE.symm.trans hFT)), (congrArg Prod.snd (HE.symm.trans hFT)), (o22_8 e_21), (o22_9 e_21)⟩ dX5_isSmall_27
noncomputable def g2_X5_isDigit (s : XS) : XR := (s, 0)
noncomputable def g5_X5_isDigit (s : XS) : XR := (s, 0)
noncomputable def g6_X5_isDigit (s : XS) : XR := (s, 1)
noncomputable def g4b_X5_isDigit (s : XS) (v_10 : Int) : XR := if 57 < v_10 then g5_X5_isDigit s else g6_X5_isDigit s
noncomputable def g3_X5_isDigit (s : XS) (a1 : Int) : XR := g4b_X5_isDigit s ((s 1 78 (Int.toNat a1)))
noncomputable def g1b_X5_isDigit (s : XS) (v_1 : Int) (a1 : Int) : XR := if v_1 < 48 then g2_X5_isDigit s else g3_X5_isDigit s a1
noncomputable def f_X5_isDigit (s : XS) (a1 : Int) : XR := g1b_X5_isDigit s ((s 1 78 (Int.toNat a1))) a1
set_option maxHeartbeats 4000000 in
set_option maxRecDepth 100000 in
theorem c_X5_isDigit (l : Launch) (G : GG) (Z : RZ) (ad : Nat → Nat) (ws0 : va_W) (hT : Ty G SC ad ws0) (a1 : Int32) (l1 : 0 ≤ a1.toInt) (u1 : a1.toInt ≤ 899) : Mq l yX5_isDigit cX5_isDigit 2 (some .boolean) 1 G Z [.ref (ad 77), .int a1] ws0 (PI G SC ad [] ws0 (fun r u => (xso SC ad u = (f_X5_isDigit (xso SC ad ws0) a1.toInt).1) ∧ (r.toInt = (f_X5_isDigit (xso SC ad ws0) a1.toInt).2) ∧ (0 ≤ r.toInt) ∧ (r.toInt ≤ 1))) := by
  refine Mq.start (by decide) (Nat.le_of_ble_eq_true rfl) ?_
  intro p e s m below meth c A ls C0 hZ h hl
  have hl : lv_has ls 2 [(0, .ref (ad 77)), (1, .int a1)] := hl
  have h : Wt G SC ad A s s.heap [] ws0 := ⟨h, hT⟩
  obtain ⟨args, hargs⟩ : ∃ z, z = ([.ref (ad 77), .int a1] : List Value).toArray := ⟨_, rfl⟩
  rw [← hargs] at C0 ⊢
  have C0 : Cx p s m args meth c RX5 cX5_isDigit 2 (some .boolean) := C0
  obtain ⟨Q, hQ⟩ : ∃ z, z = MQ below ((PI G SC ad [] ws0 (fun r u => (xso SC ad u = (f_X5_isDigit (xso SC ad ws0) a1.toInt).1) ∧ (r.toInt = (f_X5_isDigit (xso SC ad ws0) a1.toInt).2) ∧ (0 ≤ r.toInt) ∧ (r.toInt ≤ 1))) A) args s 0 0 A := ⟨_, rfl⟩
  rw [← hQ]
  obtain ⟨FT, hFT⟩ : ∃ z, z = f_X5_isDigit (xso SC ad ws0) a1.toInt := ⟨_, rfl⟩
  have HE : FT = f_X5_isDigit (xso SC ad ws0) a1.toInt := hFT
  refine lv_aload_n C0.1 C0.2.1 dX5_isDigit_0 rfl (lv_at hl 0 rfl) ?_
  refine tg_X5_tape C0 h kSC_77 q_371 dX5_isDigit_1 ?_
  refine lv_iload_n C0.1 C0.2.1 dX5_isDigit_4 rfl (lv_at hl 1 rfl) ?_
  refine y_bald C0 h kSC_78 rfl (by decide) (o22_29 l1 u1) (o22_30 l1 u1) dX5_isDigit_5 (fun v_1 e_2 e_3 e_4 => ?_)
  refine y_c2 (n := 48) C0 (by decide) dX5_isDigit_6 (fun v_5 e_6 => ?_)
  replace HE : FT = g1b_X5_isDigit (xso SC ad ws0) v_1.toInt a1.toInt := HE.trans (by rw [(xg1 e_2 : v_1.toInt = (xso SC ad ws0) 1 78 a1.toInt.toNat)]; rfl)
  refine y_icmp_lt (tgt := 26) C0 dX5_isDigit_8 (by decide) (fun c_7 => ?_) (fun c_7 => ?_)
  · -- 8
    replace HE : FT = g2_X5_isDigit (xso SC ad ws0) := HE.trans (if_pos (o22_38 e_3 e_4 e_6 c_7))
    refine y_c1 (n := 0) C0 (by decide) dX5_isDigit_26 (fun v_8 e_9 => ?_)
    replace HE : FT = ((xso SC ad ws0), v_8.toInt) := HE.trans (by rw [e_9]; rfl)
    rw [hQ]
    exact y_zret C0 h (o22_6 e_9) (o22_7 e_9) Fr.rf ⟨(congrArg Prod.fst (HE.symm.trans hFT)), (congrArg Prod.snd (HE.symm.trans hFT)), (o22_6 e_9), (o22_7 e_9)⟩ dX5_isDigit_27
  · -- 8
    replace HE : FT = g3_X5_isDigit (xso SC ad ws0) a1.toInt := HE.trans (if_neg (o22_39 e_3 e_4 e_6 c_7))
    refine lv_aload_n C0.1 C0.2.1 dX5_isDigit_11 rfl (lv_at hl 0 rfl) ?_
    refine tg_X5_tape C0 h kSC_77 q_371 dX5_isDigit_12 ?_
    refine lv_iload_n C0.1 C0.2.1 dX5_isDigit_15 rfl (lv_at hl 1 rfl) ?_
    refine y_bald C0 h kSC_78 rfl (by decide) (o22_29 l1 u1) (o22_30 l1 u1) dX5_isDigit_16 (fun v_10 e_11 e_12 e_13 => ?_)
    have qh_14 : v_10.toInt = v_1.toInt := congrArg Int32.toInt (e_11.symm.trans (Eq.trans rfl e_2))
    refine y_c2 (n := 57) C0 (by decide) dX5_isDigit_17 (fun v_15 e_16 => ?_)
    replace HE : FT = g4b_X5_isDigit (xso SC ad ws0) v_10.toInt := HE.trans (by rw [(xg1 e_11 : v_10.toInt = (xso SC ad ws0) 1 78 a1.toInt.toNat)]; rfl)
    refine y_icmp_gt (tgt := 26) C0 dX5_isDigit_19 (by decide) (fun c_17 => ?_) (fun c_17 => ?_)
    · -- 19
      replace HE : FT = g5_X5_isDigit (xso SC ad ws0) := HE.trans (if_pos (o22_41 e_3 e_4 e_6 c_7 e_12 e_13 qh_14 e_16 c_17))
      refine y_c1 (n := 0) C0 (by decide) dX5_isDigit_26 (fun v_18 e_19 => ?_)
      replace HE : FT = ((xso SC ad ws0), v_18.toInt) := HE.trans (by rw [e_19]; rfl)
      rw [hQ]
      exact y_zret C0 h (o22_6 e_19) (o22_7 e_19) Fr.rf ⟨(congrArg Prod.fst (HE.symm.trans hFT)), (congrArg Prod.snd (HE.symm.trans hFT)), (o22_6 e_19), (o22_7 e_19)⟩ dX5_isDigit_27
    · -- 19
      replace HE : FT = g6_X5_isDigit (xso SC ad ws0) := HE.trans (if_neg (o22_42 e_3 e_4 e_6 c_7 e_12 e_13 qh_14 e_16 c_17))
      refine y_c1 (n := 1) C0 (by decide) dX5_isDigit_22 (fun v_20 e_21 => ?_)
      refine lv_goto (tgt := 27) C0.1 C0.2.1 dX5_isDigit_23 (by decide) ?_
      replace HE : FT = ((xso SC ad ws0), v_20.toInt) := HE.trans (by rw [e_21]; rfl)
      rw [hQ]
      exact y_zret C0 h (o22_8 e_21) (o22_9 e_21) Fr.rf ⟨(congrArg Prod.fst (HE.symm.trans hFT)), (congrArg Prod.snd (HE.symm.trans hFT)), (o22_8 e_21), (o22_9 e_21)⟩ dX5_isDigit_27
noncomputable def g25c_X5_advance (s : XS) : XR := (s, 0)
noncomputable def g23_X5_advance (s : XS) : XR := g25c_X5_advance ((f_X5_fail s 1).1)
noncomputable def g30c_X5_advance (s : XS) : XR := (s, 0)
noncomputable def g28_X5_advance (s : XS) : XR := g30c_X5_advance ((f_X5_fail s 1).1)
noncomputable def g32w_X5_advance (s : XS) : XR := (s, 0)
noncomputable def g31w_X5_advance (s : XS) : XR := g32w_X5_advance (xup s 0 77 6 ((s 0 77 6) + 1))
noncomputable def g29_X5_advance (s : XS) : XR := g31w_X5_advance (xup s 0 77 4 (s 1 78 (Int.toNat (s 0 77 5))))
noncomputable def g27b_X5_advance (s : XS) (r_108 : Int) : XR := if r_108 < 0 then g28_X5_advance s else g29_X5_advance s
noncomputable def g26c_X5_advance (s : XS) (r_108 : Int) : XR := g27b_X5_advance s r_108
noncomputable def g24_X5_advance (s : XS) : XR := g26c_X5_advance ((f_J0_indexOf_0f7a4 s 0 (Xi2c (s 1 78 (Int.toNat (s 0 77 5))))).1) (((f_J0_indexOf_0f7a4 s 0 (Xi2c (s 1 78 (Int.toNat (s 0 77 5))))).2))
noncomputable def g22b_X5_advance (s : XS) (v_83 : Int) : XR := if 0 < v_83 then g24_X5_advance s else g23_X5_advance s
noncomputable def g20_X5_advance (s : XS) : XR := g22b_X5_advance s ((s 1 78 (Int.toNat (s 0 77 5))))
noncomputable def g41_X5_advance (s : XS) : XR := (s, 0)
noncomputable def g43c_X5_advance (s : XS) : XR := (s, 0)
noncomputable def g42_X5_advance (s : XS) : XR := g43c_X5_advance ((f_X5_fail s 1).1)
noncomputable def g40b_X5_advance (s : XS) (v_179 : Int) : XR := if 3 < v_179 then g42_X5_advance s else g41_X5_advance s
noncomputable def g38_X5_advance (s : XS) : XR := g40b_X5_advance s (((s 0 77 6) - (s 0 77 5)))
noncomputable def g49_X5_advance (s : XS) : XR := (s, 0)
noncomputable def g51c_X5_advance (s : XS) : XR := (s, 0)
noncomputable def g50_X5_advance (s : XS) : XR := g51c_X5_advance ((f_X5_fail s 1).1)
noncomputable def g48b_X5_advance (s : XS) (v_213 : Int) : XR := if 3 < v_213 then g50_X5_advance s else g49_X5_advance s
noncomputable def g46_X5_advance (s : XS) : XR := g48b_X5_advance s (((s 0 77 6) - (s 0 77 5)))
noncomputable def g53w_X5_advance (R167 : XS → XR) (s : XS) : XR := R167 s
noncomputable def g52w_X5_advance (R167 : XS → XR) (s : XS) : XR := g53w_X5_advance R167 (xup s 0 77 6 ((s 0 77 6) + 1))
noncomputable def g47_X5_advance (R167 : XS → XR) (s : XS) : XR := g52w_X5_advance R167 (xup s 0 77 7 (Xisub (Xiadd (Ximul (s 0 77 7) 10) (s 1 78 (Int.toNat (s 0 77 6)))) 48))
noncomputable def g45b_X5_advance (R167 : XS → XR) (s : XS) (r_198 : Int) : XR := if r_198 = 0 then g46_X5_advance s else g47_X5_advance R167 s
noncomputable def g44c_X5_advance (R167 : XS → XR) (s : XS) (r_198 : Int) : XR := g45b_X5_advance R167 s r_198
noncomputable def g39_X5_advance (R167 : XS → XR) (s : XS) : XR := g44c_X5_advance R167 ((f_X5_isDigit s (s 0 77 6)).1) (((f_X5_isDigit s (s 0 77 6)).2))
noncomputable def g37b_X5_advance (R167 : XS → XR) (s : XS) (v_165 : Int) (v_160 : Int) : XR := if v_160 < v_165 then g39_X5_advance R167 s else g38_X5_advance s
noncomputable def g36l_X5_advance (R167 : XS → XR) (s : XS) : XR := g37b_X5_advance R167 s ((s 0 77 3)) ((s 0 77 6))
noncomputable def L35_X5_advance (n : Nat) : XS → XR := Nat.rec (motive := fun _ => XS → XR) (fun s => (s, 0)) (fun _ R167 => g36l_X5_advance R167) n
noncomputable def g34w_X5_advance (s : XS) : XR := L35_X5_advance (Int.toNat (900 - (s 0 77 6) + 1)) s
noncomputable def g33w_X5_advance (s : XS) : XR := g34w_X5_advance (xup s 0 77 7 0)
noncomputable def g21_X5_advance (s : XS) : XR := g33w_X5_advance (xup s 0 77 4 2)
noncomputable def g19b_X5_advance (s : XS) (r_72 : Int) : XR := if r_72 = 0 then g20_X5_advance s else g21_X5_advance s
noncomputable def g18c_X5_advance (s : XS) (r_72 : Int) : XR := g19b_X5_advance s r_72
noncomputable def g16_X5_advance (s : XS) : XR := g18c_X5_advance ((f_X5_isDigit s (s 0 77 5)).1) (((f_X5_isDigit s (s 0 77 5)).2))
noncomputable def g58_X5_advance (s : XS) : XR := (s, 0)
noncomputable def g62_X5_advance (s : XS) : XR := (s, 0)
noncomputable def g64w_X5_advance (R111 : XS → XR) (s : XS) : XR := R111 s
noncomputable def g63_X5_advance (R111 : XS → XR) (s : XS) : XR := g64w_X5_advance R111 (xup s 0 77 6 ((s 0 77 6) + 1))
noncomputable def g61b_X5_advance (R111 : XS → XR) (s : XS) (r_292 : Int) : XR := if r_292 = 0 then g62_X5_advance s else g63_X5_advance R111 s
noncomputable def g60c_X5_advance (R111 : XS → XR) (s : XS) (r_292 : Int) : XR := g61b_X5_advance R111 s r_292
noncomputable def g59_X5_advance (R111 : XS → XR) (s : XS) : XR := g60c_X5_advance R111 ((f_X5_isSmall s (s 0 77 6)).1) (((f_X5_isSmall s (s 0 77 6)).2))
noncomputable def g57b_X5_advance (R111 : XS → XR) (s : XS) (v_279 : Int) (v_274 : Int) : XR := if v_274 < v_279 then g59_X5_advance R111 s else g58_X5_advance s
noncomputable def g56l_X5_advance (R111 : XS → XR) (s : XS) : XR := g57b_X5_advance R111 s ((s 0 77 3)) ((s 0 77 6))
noncomputable def L55_X5_advance (n : Nat) : XS → XR := Nat.rec (motive := fun _ => XS → XR) (fun s => (s, 0)) (fun _ R111 => g56l_X5_advance R111) n
noncomputable def g54w_X5_advance (s : XS) : XR := L55_X5_advance (Int.toNat (900 - (s 0 77 6) + 1)) s
noncomputable def g17_X5_advance (s : XS) : XR := g54w_X5_advance (xup s 0 77 4 1)
noncomputable def g15b_X5_advance (s : XS) (r_58 : Int) : XR := if r_58 = 0 then g16_X5_advance s else g17_X5_advance s
noncomputable def g14c_X5_advance (s : XS) (r_58 : Int) : XR := g15b_X5_advance s r_58
noncomputable def g12_X5_advance (s : XS) : XR := g14c_X5_advance ((f_X5_isSmall s (s 0 77 5)).1) (((f_X5_isSmall s (s 0 77 5)).2))
noncomputable def g65w_X5_advance (s : XS) : XR := (s, 0)
noncomputable def g13_X5_advance (s : XS) : XR := g65w_X5_advance (xup s 0 77 4 0)
noncomputable def g11b_X5_advance (s : XS) (v_44 : Int) (v_39 : Int) : XR := if v_39 < v_44 then g12_X5_advance s else g13_X5_advance s
noncomputable def g10w_X5_advance (s : XS) : XR := g11b_X5_advance s ((s 0 77 3)) ((s 0 77 5))
noncomputable def g8_X5_advance (s : XS) : XR := g10w_X5_advance (xup s 0 77 6 (s 0 77 5))
noncomputable def g69w_X5_advance (R16 : XS → XR) (s : XS) : XR := R16 s
noncomputable def g67_X5_advance (R16 : XS → XR) (s : XS) : XR := g69w_X5_advance R16 (xup s 0 77 5 ((s 0 77 5) + 1))
noncomputable def g88c_X5_advance (s : XS) : XR := (s, 0)
noncomputable def g86_X5_advance (s : XS) : XR := g88c_X5_advance ((f_X5_fail s 1).1)
noncomputable def g93c_X5_advance (s : XS) : XR := (s, 0)
noncomputable def g91_X5_advance (s : XS) : XR := g93c_X5_advance ((f_X5_fail s 1).1)
noncomputable def g95w_X5_advance (s : XS) : XR := (s, 0)
noncomputable def g94w_X5_advance (s : XS) : XR := g95w_X5_advance (xup s 0 77 6 ((s 0 77 6) + 1))
noncomputable def g92_X5_advance (s : XS) : XR := g94w_X5_advance (xup s 0 77 4 (s 1 78 (Int.toNat (s 0 77 5))))
noncomputable def g90b_X5_advance (s : XS) (r_424 : Int) : XR := if r_424 < 0 then g91_X5_advance s else g92_X5_advance s
noncomputable def g89c_X5_advance (s : XS) (r_424 : Int) : XR := g90b_X5_advance s r_424
noncomputable def g87_X5_advance (s : XS) : XR := g89c_X5_advance ((f_J0_indexOf_0f7a4 s 0 (Xi2c (s 1 78 (Int.toNat (s 0 77 5))))).1) (((f_J0_indexOf_0f7a4 s 0 (Xi2c (s 1 78 (Int.toNat (s 0 77 5))))).2))
noncomputable def g85b_X5_advance (s : XS) (v_399 : Int) : XR := if 0 < v_399 then g87_X5_advance s else g86_X5_advance s
noncomputable def g83_X5_advance (s : XS) : XR := g85b_X5_advance s ((s 1 78 (Int.toNat (s 0 77 5))))
noncomputable def g104_X5_advance (s : XS) : XR := (s, 0)
noncomputable def g106c_X5_advance (s : XS) : XR := (s, 0)
noncomputable def g105_X5_advance (s : XS) : XR := g106c_X5_advance ((f_X5_fail s 1).1)
noncomputable def g103b_X5_advance (s : XS) (v_495 : Int) : XR := if 3 < v_495 then g105_X5_advance s else g104_X5_advance s
noncomputable def g101_X5_advance (s : XS) : XR := g103b_X5_advance s (((s 0 77 6) - (s 0 77 5)))
noncomputable def g112_X5_advance (s : XS) : XR := (s, 0)
noncomputable def g114c_X5_advance (s : XS) : XR := (s, 0)
noncomputable def g113_X5_advance (s : XS) : XR := g114c_X5_advance ((f_X5_fail s 1).1)
noncomputable def g111b_X5_advance (s : XS) (v_529 : Int) : XR := if 3 < v_529 then g113_X5_advance s else g112_X5_advance s
noncomputable def g109_X5_advance (s : XS) : XR := g111b_X5_advance s (((s 0 77 6) - (s 0 77 5)))
noncomputable def g116w_X5_advance (R167 : XS → XR) (s : XS) : XR := R167 s
noncomputable def g115w_X5_advance (R167 : XS → XR) (s : XS) : XR := g116w_X5_advance R167 (xup s 0 77 6 ((s 0 77 6) + 1))
noncomputable def g110_X5_advance (R167 : XS → XR) (s : XS) : XR := g115w_X5_advance R167 (xup s 0 77 7 (Xisub (Xiadd (Ximul (s 0 77 7) 10) (s 1 78 (Int.toNat (s 0 77 6)))) 48))
noncomputable def g108b_X5_advance (R167 : XS → XR) (s : XS) (r_514 : Int) : XR := if r_514 = 0 then g109_X5_advance s else g110_X5_advance R167 s
noncomputable def g107c_X5_advance (R167 : XS → XR) (s : XS) (r_514 : Int) : XR := g108b_X5_advance R167 s r_514
noncomputable def g102_X5_advance (R167 : XS → XR) (s : XS) : XR := g107c_X5_advance R167 ((f_X5_isDigit s (s 0 77 6)).1) (((f_X5_isDigit s (s 0 77 6)).2))
noncomputable def g100b_X5_advance (R167 : XS → XR) (s : XS) (v_481 : Int) (v_476 : Int) : XR := if v_476 < v_481 then g102_X5_advance R167 s else g101_X5_advance s
noncomputable def g99l_X5_advance (R167 : XS → XR) (s : XS) : XR := g100b_X5_advance R167 s ((s 0 77 3)) ((s 0 77 6))
noncomputable def L98_X5_advance (n : Nat) : XS → XR := Nat.rec (motive := fun _ => XS → XR) (fun s => (s, 0)) (fun _ R167 => g99l_X5_advance R167) n
noncomputable def g97w_X5_advance (s : XS) : XR := L98_X5_advance (Int.toNat (900 - (s 0 77 6) + 1)) s
noncomputable def g96w_X5_advance (s : XS) : XR := g97w_X5_advance (xup s 0 77 7 0)
noncomputable def g84_X5_advance (s : XS) : XR := g96w_X5_advance (xup s 0 77 4 2)
noncomputable def g82b_X5_advance (s : XS) (r_388 : Int) : XR := if r_388 = 0 then g83_X5_advance s else g84_X5_advance s
noncomputable def g81c_X5_advance (s : XS) (r_388 : Int) : XR := g82b_X5_advance s r_388
noncomputable def g79_X5_advance (s : XS) : XR := g81c_X5_advance ((f_X5_isDigit s (s 0 77 5)).1) (((f_X5_isDigit s (s 0 77 5)).2))
noncomputable def g121_X5_advance (s : XS) : XR := (s, 0)
noncomputable def g125_X5_advance (s : XS) : XR := (s, 0)
noncomputable def g127w_X5_advance (R111 : XS → XR) (s : XS) : XR := R111 s
noncomputable def g126_X5_advance (R111 : XS → XR) (s : XS) : XR := g127w_X5_advance R111 (xup s 0 77 6 ((s 0 77 6) + 1))
noncomputable def g124b_X5_advance (R111 : XS → XR) (s : XS) (r_608 : Int) : XR := if r_608 = 0 then g125_X5_advance s else g126_X5_advance R111 s
noncomputable def g123c_X5_advance (R111 : XS → XR) (s : XS) (r_608 : Int) : XR := g124b_X5_advance R111 s r_608
noncomputable def g122_X5_advance (R111 : XS → XR) (s : XS) : XR := g123c_X5_advance R111 ((f_X5_isSmall s (s 0 77 6)).1) (((f_X5_isSmall s (s 0 77 6)).2))
noncomputable def g120b_X5_advance (R111 : XS → XR) (s : XS) (v_595 : Int) (v_590 : Int) : XR := if v_590 < v_595 then g122_X5_advance R111 s else g121_X5_advance s
noncomputable def g119l_X5_advance (R111 : XS → XR) (s : XS) : XR := g120b_X5_advance R111 s ((s 0 77 3)) ((s 0 77 6))
noncomputable def L118_X5_advance (n : Nat) : XS → XR := Nat.rec (motive := fun _ => XS → XR) (fun s => (s, 0)) (fun _ R111 => g119l_X5_advance R111) n
noncomputable def g117w_X5_advance (s : XS) : XR := L118_X5_advance (Int.toNat (900 - (s 0 77 6) + 1)) s
noncomputable def g80_X5_advance (s : XS) : XR := g117w_X5_advance (xup s 0 77 4 1)
noncomputable def g78b_X5_advance (s : XS) (r_374 : Int) : XR := if r_374 = 0 then g79_X5_advance s else g80_X5_advance s
noncomputable def g77c_X5_advance (s : XS) (r_374 : Int) : XR := g78b_X5_advance s r_374
noncomputable def g75_X5_advance (s : XS) : XR := g77c_X5_advance ((f_X5_isSmall s (s 0 77 5)).1) (((f_X5_isSmall s (s 0 77 5)).2))
noncomputable def g128w_X5_advance (s : XS) : XR := (s, 0)
noncomputable def g76_X5_advance (s : XS) : XR := g128w_X5_advance (xup s 0 77 4 0)
noncomputable def g74b_X5_advance (s : XS) (v_360 : Int) (v_355 : Int) : XR := if v_355 < v_360 then g75_X5_advance s else g76_X5_advance s
noncomputable def g73w_X5_advance (s : XS) : XR := g74b_X5_advance s ((s 0 77 3)) ((s 0 77 5))
noncomputable def g71_X5_advance (s : XS) : XR := g73w_X5_advance (xup s 0 77 6 (s 0 77 5))
noncomputable def g129w_X5_advance (R16 : XS → XR) (s : XS) : XR := R16 s
noncomputable def g72_X5_advance (R16 : XS → XR) (s : XS) : XR := g129w_X5_advance R16 (xup s 0 77 5 ((s 0 77 5) + 1))
noncomputable def g70b_X5_advance (R16 : XS → XR) (s : XS) (v_341 : Int) : XR := if v_341 = 10 then g72_X5_advance R16 s else g71_X5_advance s
noncomputable def g68_X5_advance (R16 : XS → XR) (s : XS) : XR := g70b_X5_advance R16 s ((s 1 78 (Int.toNat (s 0 77 5))))
noncomputable def g66b_X5_advance (R16 : XS → XR) (s : XS) (v_318 : Int) : XR := if v_318 = 32 then g67_X5_advance R16 s else g68_X5_advance R16 s
noncomputable def g9_X5_advance (R16 : XS → XR) (s : XS) : XR := g66b_X5_advance R16 s ((s 1 78 (Int.toNat (s 0 77 5))))
noncomputable def g7b_X5_advance (R16 : XS → XR) (s : XS) (v_27 : Int) (v_22 : Int) : XR := if v_22 < v_27 then g9_X5_advance R16 s else g8_X5_advance s
noncomputable def g6l_X5_advance (R16 : XS → XR) (s : XS) : XR := g7b_X5_advance R16 s ((s 0 77 3)) ((s 0 77 5))
noncomputable def L5_X5_advance (n : Nat) : XS → XR := Nat.rec (motive := fun _ => XS → XR) (fun s => (s, 0)) (fun _ R16 => g6l_X5_advance R16) n
noncomputable def g4w_X5_advance (s : XS) : XR := L5_X5_advance (Int.toNat (900 - (s 0 77 5) + 1)) s
noncomputable def g2_X5_advance (s : XS) : XR := g4w_X5_advance (xup s 0 77 5 (s 0 77 6))
noncomputable def g3_X5_advance (s : XS) : XR := (s, 0)
noncomputable def g1b_X5_advance (s : XS) (v_1 : Int) : XR := if v_1 = 0 then g2_X5_advance s else g3_X5_advance s
noncomputable def f_X5_advance (s : XS) : XR := g1b_X5_advance s ((s 0 77 8))
set_option maxHeartbeats 4000000 in
set_option maxRecDepth 100000 in
theorem c_X5_advance (l : Launch) (G : GG) (Z : RZ) (ad : Nat → Nat) (ws0 : va_W) (hT : Ty G SC ad ws0) : Mq l yX5_advance cX5_advance 1 none 5 G Z [.ref (ad 77)] ws0 (PV G SC ad [16] ws0 (fun u => (xso SC ad u = (f_X5_advance (xso SC ad ws0)).1))) := by
  refine Mq.start (by decide) (Nat.le_of_ble_eq_true rfl) ?_
  intro p e s m below meth c A ls C0 hZ h hl
  have hl : lv_has ls 1 [(0, .ref (ad 77))] := hl
  have h : Wt G SC ad A s s.heap [] ws0 := ⟨h, hT⟩
  obtain ⟨args, hargs⟩ : ∃ z, z = ([.ref (ad 77)] : List Value).toArray := ⟨_, rfl⟩
  rw [← hargs] at C0 ⊢
  have C0 : Cx p s m args meth c RX5 cX5_advance 1 none := C0
  obtain ⟨Q, hQ⟩ : ∃ z, z = MQ below ((PV G SC ad [16] ws0 (fun u => (xso SC ad u = (f_X5_advance (xso SC ad ws0)).1))) A) args s 0 0 A := ⟨_, rfl⟩
  rw [← hQ]
  obtain ⟨FT, hFT⟩ : ∃ z, z = f_X5_advance (xso SC ad ws0) := ⟨_, rfl⟩
  have HE : FT = f_X5_advance (xso SC ad ws0) := hFT
  refine lv_aload_n C0.1 C0.2.1 dX5_advance_0 rfl (lv_at hl 0 rfl) ?_
  refine tg_X5_fault C0 h kSC_77 q_378 dX5_advance_1 (fun v_1 e_2 e_3 e_4 => ?_)
  replace HE : FT = g1b_X5_advance (xso SC ad ws0) v_1.toInt := HE.trans (by rw [(xg0 e_2 : v_1.toInt = (xso SC ad ws0) 0 77 8)]; rfl)
  refine y_if_eq (tgt := 8) C0 dX5_advance_4 (by decide) (fun c_5 => ?_) (fun c_5 => ?_)
  · -- 4
    replace HE : FT = g2_X5_advance (xso SC ad ws0) := HE.trans (if_pos c_5)
    refine lv_aload_n C0.1 C0.2.1 dX5_advance_8 rfl (lv_at hl 0 rfl) ?_
    refine lv_aload_n C0.1 C0.2.1 dX5_advance_9 rfl (lv_at hl 0 rfl) ?_
    refine tg_X5_end C0 h kSC_77 q_376 dX5_advance_10 (fun v_6 e_7 e_8 e_9 => ?_)
    refine tp_X5_start C0 h kSC_77 q_375 (o22_10 e_8 e_9) (o22_11 e_8 e_9) dX5_advance_13 (fun H locs ws_10 h u_11 Xu_11 => ?_)
    replace HE : FT = g4w_X5_advance (xso SC ad ws_10) := HE.trans (by rw [Xu_11, (xg0 e_7 : v_6.toInt = (xso SC ad ws0) 0 77 6)]; rfl)
    have lp_14 : ∀ (n_16 : Nat) (f_18 : Int32) (H : Heap) (locs : List Loc) (ls : Array Slot) (ws_12 : va_W), 900 - f_18.toInt < (n_16 : Int) → 0 ≤ f_18.toInt → f_18.toInt ≤ 900 → (FT = L5_X5_advance n_16 (xso SC ad ws_12)) → fI ws_12 77 5 = f_18 → Wt G SC ad A s H locs ws_12 → Fr SC [16] ws_10 ws_12 → lv_has ls 1 [(0, .ref (ad 77))] → W p l e (rmd 5 0 0) s m args below meth c H locs 0 0 Q (F0 m 16 ls []) := by
      intro n_16
      induction n_16 with
      | zero => intro f_18 H locs ls ws_12 hn_17 b_20 b_21 HE e_19 h hF_13 hl; exact ((o22_43 b_20 b_21 hn_17)).elim
      | succ n_16 ih_15 =>
        intro f_18 H locs ls ws_12 hn_17 b_20 b_21 HE e_19 h hF_13 hl
        obtain ⟨R16, hR16⟩ : ∃ z, z = L5_X5_advance n_16 := ⟨_, rfl⟩
        replace HE : FT = g6l_X5_advance R16 (xso SC ad ws_12) := HE.trans (by rw [hR16]; rfl)
        refine lv_aload_n C0.1 C0.2.1 dX5_advance_16 rfl (lv_at hl 0 rfl) ?_
        refine tg_X5_start C0 h kSC_77 q_375 dX5_advance_17 (fun v_22 e_23 e_24 e_25 => ?_)
        have qh_26 : v_22.toInt = f_18.toInt := congrArg Int32.toInt (e_23.symm.trans (Eq.trans rfl e_19))
        refine lv_aload_n C0.1 C0.2.1 dX5_advance_20 rfl (lv_at hl 0 rfl) ?_
        refine tg_X5_length C0 h kSC_77 q_373 dX5_advance_21 (fun v_27 e_28 e_29 e_30 => ?_)
        replace HE : FT = g7b_X5_advance R16 (xso SC ad ws_12) v_27.toInt v_22.toInt := HE.trans (by rw [(xg0 e_23 : v_22.toInt = (xso SC ad ws_12) 0 77 5), (xg0 e_28 : v_27.toInt = (xso SC ad ws_12) 0 77 3)]; rfl)
        refine y_icmp_ge (tgt := 68) C0 dX5_advance_24 (by decide) (fun c_31 => ?_) (fun c_31 => ?_)
        · -- 24
          replace HE : FT = g8_X5_advance (xso SC ad ws_12) := HE.trans (if_neg (Int.not_lt.mpr c_31))
          refine lv_aload_n C0.1 C0.2.1 dX5_advance_68 rfl (lv_at hl 0 rfl) ?_
          refine lv_aload_n C0.1 C0.2.1 dX5_advance_69 rfl (lv_at hl 0 rfl) ?_
          refine tg_X5_start C0 h kSC_77 q_375 dX5_advance_70 (fun v_32 e_33 e_34 e_35 => ?_)
          have qh_36 : v_32.toInt = f_18.toInt := congrArg Int32.toInt (e_33.symm.trans (Eq.trans rfl e_19))
          refine tp_X5_end C0 h kSC_77 q_376 (o22_44 b_20 b_21 hn_17 e_24 e_25 qh_26 e_29 e_30 c_31 e_34 e_35 qh_36) (o22_45 b_20 b_21 hn_17 e_24 e_25 qh_26 e_29 e_30 c_31 e_34 e_35 qh_36) dX5_advance_73 (fun H locs ws_37 h u_38 Xu_38 => ?_)
          replace HE : FT = g10w_X5_advance (xso SC ad ws_37) := HE.trans (by rw [Xu_38, (xg0 e_33 : v_32.toInt = (xso SC ad ws_12) 0 77 5)]; rfl)
          refine lv_aload_n C0.1 C0.2.1 dX5_advance_76 rfl (lv_at hl 0 rfl) ?_
          refine tg_X5_start C0 h kSC_77 q_375 dX5_advance_77 (fun v_39 e_40 e_41 e_42 => ?_)
          have qh_43 : v_39.toInt = f_18.toInt := congrArg Int32.toInt (e_40.symm.trans (Eq.trans (u_38.2.2 5 (by decide)) e_19))
          refine lv_aload_n C0.1 C0.2.1 dX5_advance_80 rfl (lv_at hl 0 rfl) ?_
          refine tg_X5_length C0 h kSC_77 q_373 dX5_advance_81 (fun v_44 e_45 e_46 e_47 => ?_)
          have qh_48 : v_44.toInt = v_27.toInt := congrArg Int32.toInt (e_45.symm.trans (Eq.trans (u_38.2.2 3 (by decide)) e_28))
          replace HE : FT = g11b_X5_advance (xso SC ad ws_37) v_44.toInt v_39.toInt := HE.trans (by rw [(xg0 e_40 : v_39.toInt = (xso SC ad ws_37) 0 77 5), (xg0 e_45 : v_44.toInt = (xso SC ad ws_37) 0 77 3)]; rfl)
          refine y_icmp_lt (tgt := 95) C0 dX5_advance_84 (by decide) (fun c_49 => ?_) (fun c_49 => ?_)
          · -- 84
            replace HE : FT = g12_X5_advance (xso SC ad ws_37) := HE.trans (if_pos c_49)
            refine lv_aload_n C0.1 C0.2.1 dX5_advance_95 rfl (lv_at hl 0 rfl) ?_
            refine lv_aload_n C0.1 C0.2.1 dX5_advance_96 rfl (lv_at hl 0 rfl) ?_
            refine tg_X5_start C0 h kSC_77 q_375 dX5_advance_97 (fun v_50 e_51 e_52 e_53 => ?_)
            have qh_54 : v_50.toInt = f_18.toInt := congrArg Int32.toInt (e_51.symm.trans (Eq.trans (u_38.2.2 5 (by decide)) e_19))
            refine y_ci h (y_rV (As := [.int v_50]) (rest := []) C0 hZ h (c_X5_isSmall l G Z ad _ h.2 v_50 (o22_46 b_20 b_21 hn_17 e_24 e_25 qh_26 e_29 e_30 c_31 e_34 e_35 qh_36 e_41 e_42 qh_43 e_46 e_47 qh_48 c_49 e_52 e_53 qh_54) (o22_47 b_20 b_21 hn_17 e_24 e_25 qh_26 e_29 e_30 c_31 e_34 e_35 qh_36 e_41 e_42 qh_43 e_46 e_47 qh_48 c_49 e_52 e_53 qh_54)) k_X5_isSmall q_620 q_1 q_618 kSC_77 rfl rfl rfl hl.1 rfl rfl (Nat.le_of_ble_eq_true rfl) dX5_advance_100 ⟨Nat.le_of_ble_eq_true rfl, Nat.le_of_ble_eq_true rfl⟩ ⟨Nat.le_of_ble_eq_true rfl, Nat.le_of_ble_eq_true rfl⟩) (fun r_58 H locs ws_55 h u_56 p_57 => ?_)
            obtain ⟨e_59, e_60, e_61, e_62⟩ := p_57
            replace HE : FT = g14c_X5_advance (xso SC ad ws_55) r_58.toInt := HE.trans (by rw [e_59, e_60, (xg0 e_51 : v_50.toInt = (xso SC ad ws_37) 0 77 5)]; rfl)
            replace HE : FT = g15b_X5_advance (xso SC ad ws_55) r_58.toInt := HE.trans rfl
            refine y_if_eq (tgt := 146) C0 dX5_advance_103 (by decide) (fun c_63 => ?_) (fun c_63 => ?_)
            · -- 103
              replace HE : FT = g16_X5_advance (xso SC ad ws_55) := HE.trans (if_pos c_63)
              refine lv_aload_n C0.1 C0.2.1 dX5_advance_146 rfl (lv_at hl 0 rfl) ?_
              refine lv_aload_n C0.1 C0.2.1 dX5_advance_147 rfl (lv_at hl 0 rfl) ?_
              refine tg_X5_start C0 h kSC_77 q_375 dX5_advance_148 (fun v_64 e_65 e_66 e_67 => ?_)
              have qh_68 : v_64.toInt = f_18.toInt := congrArg Int32.toInt (e_65.symm.trans (Eq.trans (Eq.trans (Fr.fI u_56 kSC_77 (by decide)) (u_38.2.2 5 (by decide))) e_19))
              refine y_ci h (y_rV (As := [.int v_64]) (rest := []) C0 hZ h (c_X5_isDigit l G Z ad _ h.2 v_64 (o22_48 b_20 b_21 hn_17 e_24 e_25 qh_26 e_29 e_30 c_31 e_34 e_35 qh_36 e_41 e_42 qh_43 e_46 e_47 qh_48 c_49 e_52 e_53 qh_54 e_66 e_67 qh_68) (o22_49 b_20 b_21 hn_17 e_24 e_25 qh_26 e_29 e_30 c_31 e_34 e_35 qh_36 e_41 e_42 qh_43 e_46 e_47 qh_48 c_49 e_52 e_53 qh_54 e_66 e_67 qh_68)) k_X5_isDigit q_624 q_2 q_622 kSC_77 rfl rfl rfl hl.1 rfl rfl (Nat.le_of_ble_eq_true rfl) dX5_advance_151 ⟨Nat.le_of_ble_eq_true rfl, Nat.le_of_ble_eq_true rfl⟩ ⟨Nat.le_of_ble_eq_true rfl, Nat.le_of_ble_eq_true rfl⟩) (fun r_72 H locs ws_69 h u_70 p_71 => ?_)
              obtain ⟨e_73, e_74, e_75, e_76⟩ := p_71
              replace HE : FT = g18c_X5_advance (xso SC ad ws_69) r_72.toInt := HE.trans (by rw [e_73, e_74, (xg0 e_65 : v_64.toInt = (xso SC ad ws_55) 0 77 5)]; rfl)
              replace HE : FT = g19b_X5_advance (xso SC ad ws_69) r_72.toInt := HE.trans rfl
              refine y_if_eq (tgt := 247) C0 dX5_advance_154 (by decide) (fun c_77 => ?_) (fun c_77 => ?_)
              · -- 154
                replace HE : FT = g20_X5_advance (xso SC ad ws_69) := HE.trans (if_pos c_77)
                refine lv_aload_n C0.1 C0.2.1 dX5_advance_247 rfl (lv_at hl 0 rfl) ?_
                refine tg_X5_tape C0 h kSC_77 q_371 dX5_advance_248 ?_
                refine lv_aload_n C0.1 C0.2.1 dX5_advance_251 rfl (lv_at hl 0 rfl) ?_
                refine tg_X5_start C0 h kSC_77 q_375 dX5_advance_252 (fun v_78 e_79 e_80 e_81 => ?_)
                have qh_82 : v_78.toInt = f_18.toInt := congrArg Int32.toInt (e_79.symm.trans (Eq.trans (Eq.trans (Fr.fI u_70 kSC_77 (by decide)) (Eq.trans (Fr.fI u_56 kSC_77 (by decide)) (u_38.2.2 5 (by decide)))) e_19))
                refine y_bald C0 h kSC_78 rfl (by decide) (o22_50 b_20 b_21 hn_17 e_24 e_25 qh_26 e_29 e_30 c_31 e_34 e_35 qh_36 e_41 e_42 qh_43 e_46 e_47 qh_48 c_49 e_52 e_53 qh_54 e_66 e_67 qh_68 e_80 e_81 qh_82) (o22_51 b_20 b_21 hn_17 e_24 e_25 qh_26 e_29 e_30 c_31 e_34 e_35 qh_36 e_41 e_42 qh_43 e_46 e_47 qh_48 c_49 e_52 e_53 qh_54 e_66 e_67 qh_68 e_80 e_81 qh_82) dX5_advance_255 (fun v_83 e_84 e_85 e_86 => ?_)
                replace HE : FT = g22b_X5_advance (xso SC ad ws_69) v_83.toInt := HE.trans (by rw [(xg1 e_84 : v_83.toInt = (xso SC ad ws_69) 1 78 v_78.toInt.toNat), (xg0 e_79 : v_78.toInt = (xso SC ad ws_69) 0 77 5)]; rfl)
                refine y_if_le (tgt := 303) C0 dX5_advance_256 (by decide) (fun c_87 => ?_) (fun c_87 => ?_)
                · -- 256
                  replace HE : FT = g23_X5_advance (xso SC ad ws_69) := HE.trans (if_neg (Int.not_lt.mpr c_87))
                  refine lv_aload_n C0.1 C0.2.1 dX5_advance_303 rfl (lv_at hl 0 rfl) ?_
                  refine y_c1 (n := 1) C0 (by decide) dX5_advance_304 (fun v_88 e_89 => ?_)
                  refine y_cv h (y_rV (As := [.int v_88]) (rest := []) C0 hZ h (c_X5_fail l G Z ad _ h.2 v_88) k_X5_fail q_628 q_3 q_626 kSC_77 rfl rfl rfl hl.1 rfl rfl (Nat.le_of_ble_eq_true rfl) dX5_advance_305 ⟨Nat.le_of_ble_eq_true rfl, Nat.le_of_ble_eq_true rfl⟩ ⟨Nat.le_of_ble_eq_true rfl, Nat.le_of_ble_eq_true rfl⟩) (fun H locs ws_90 h u_91 p_92 => ?_)
                  have e_93 := p_92
                  replace HE : FT = g25c_X5_advance (xso SC ad ws_90) := HE.trans (by rw [e_93, e_89]; rfl)
                  replace HE : FT = ((xso SC ad ws_90), 0) := HE.trans rfl
                  rw [hQ]
                  exact y_vret C0 h (Fr.tr (Fr.tr (Fr.tr (Fr.tr (Fr.tr (Fr.up u_11.1 kSC_77 (by decide)) hF_13) (Fr.up u_38.1 kSC_77 (by decide))) (Fr.mono u_56 (by decide))) (Fr.mono u_70 (by decide))) u_91) (congrArg Prod.fst (HE.symm.trans hFT)) dX5_advance_308
                · -- 256
                  replace HE : FT = g24_X5_advance (xso SC ad ws_69) := HE.trans (if_pos c_87)
                  refine va_ldcS C0.1 C0.2.1 C0.2.2.2.1 (sr_0 hZ) dX5_advance_259 ?_
                  refine lv_aload_n C0.1 C0.2.1 dX5_advance_261 rfl (lv_at hl 0 rfl) ?_
                  refine tg_X5_tape C0 h kSC_77 q_371 dX5_advance_262 ?_
                  refine lv_aload_n C0.1 C0.2.1 dX5_advance_265 rfl (lv_at hl 0 rfl) ?_
                  refine tg_X5_start C0 h kSC_77 q_375 dX5_advance_266 (fun v_94 e_95 e_96 e_97 => ?_)
                  have qh_98 : v_94.toInt = f_18.toInt := congrArg Int32.toInt (e_95.symm.trans (Eq.trans (Eq.trans (Fr.fI u_70 kSC_77 (by decide)) (Eq.trans (Fr.fI u_56 kSC_77 (by decide)) (u_38.2.2 5 (by decide)))) e_19))
                  refine y_bald C0 h kSC_78 rfl (by decide) (o22_52 b_20 b_21 hn_17 e_24 e_25 qh_26 e_29 e_30 c_31 e_34 e_35 qh_36 e_41 e_42 qh_43 e_46 e_47 qh_48 c_49 e_52 e_53 qh_54 e_66 e_67 qh_68 e_80 e_81 qh_82 e_96 e_97 qh_98) (o22_53 b_20 b_21 hn_17 e_24 e_25 qh_26 e_29 e_30 c_31 e_34 e_35 qh_36 e_41 e_42 qh_43 e_46 e_47 qh_48 c_49 e_52 e_53 qh_54 e_66 e_67 qh_68 e_80 e_81 qh_82 e_96 e_97 qh_98) dX5_advance_269 (fun v_99 e_100 e_101 e_102 => ?_)
                  refine xr_i2c C0 dX5_advance_270 (fun v_103 e_104 => ?_)
                  refine y_ci h (y_rT (As := [.int v_103]) (rest := []) C0 hZ h (c_J0_indexOf_0f7a4 l G Z ad _ h.2 0 (by decide) v_103) k_J0_indexOf_0f7a4 q_632 q_633 q_631 (by decide) rfl hl.1 rfl rfl (Nat.le_of_ble_eq_true rfl) dX5_advance_271 ⟨Nat.le_of_ble_eq_true rfl, Nat.le_of_ble_eq_true rfl⟩ ⟨Nat.le_of_ble_eq_true rfl, Nat.le_of_ble_eq_true rfl⟩) (fun r_108 H locs ws_105 h u_106 p_107 => ?_)
                  obtain ⟨e_109, e_110, e_111, e_112⟩ := p_107
                  replace HE : FT = g26c_X5_advance (xso SC ad ws_105) r_108.toInt := HE.trans (by rw [e_109, e_110, e_104, (xg1 e_100 : v_99.toInt = (xso SC ad ws_69) 1 78 v_94.toInt.toNat), (xg0 e_95 : v_94.toInt = (xso SC ad ws_69) 0 77 5)]; rfl)
                  replace HE : FT = g27b_X5_advance (xso SC ad ws_105) r_108.toInt := HE.trans rfl
                  refine y_if_lt (tgt := 303) C0 dX5_advance_274 (by decide) (fun c_113 => ?_) (fun c_113 => ?_)
                  · -- 274
                    replace HE : FT = g28_X5_advance (xso SC ad ws_105) := HE.trans (if_pos c_113)
                    refine lv_aload_n C0.1 C0.2.1 dX5_advance_303 rfl (lv_at hl 0 rfl) ?_
                    refine y_c1 (n := 1) C0 (by decide) dX5_advance_304 (fun v_114 e_115 => ?_)
                    refine y_cv h (y_rV (As := [.int v_114]) (rest := []) C0 hZ h (c_X5_fail l G Z ad _ h.2 v_114) k_X5_fail q_628 q_3 q_626 kSC_77 rfl rfl rfl hl.1 rfl rfl (Nat.le_of_ble_eq_true rfl) dX5_advance_305 ⟨Nat.le_of_ble_eq_true rfl, Nat.le_of_ble_eq_true rfl⟩ ⟨Nat.le_of_ble_eq_true rfl, Nat.le_of_ble_eq_true rfl⟩) (fun H locs ws_116 h u_117 p_118 => ?_)
                    have e_119 := p_118
                    replace HE : FT = g30c_X5_advance (xso SC ad ws_116) := HE.trans (by rw [e_119, e_115]; rfl)
                    replace HE : FT = ((xso SC ad ws_116), 0) := HE.trans rfl
                    rw [hQ]
                    exact y_vret C0 h (Fr.tr (Fr.tr (Fr.tr (Fr.tr (Fr.tr (Fr.tr (Fr.up u_11.1 kSC_77 (by decide)) hF_13) (Fr.up u_38.1 kSC_77 (by decide))) (Fr.mono u_56 (by decide))) (Fr.mono u_70 (by decide))) (Fr.mono u_106 (by decide))) u_117) (congrArg Prod.fst (HE.symm.trans hFT)) dX5_advance_308
                  · -- 274
                    replace HE : FT = g29_X5_advance (xso SC ad ws_105) := HE.trans (if_neg (Int.not_lt.mpr c_113))
                    refine lv_aload_n C0.1 C0.2.1 dX5_advance_277 rfl (lv_at hl 0 rfl) ?_
                    refine lv_aload_n C0.1 C0.2.1 dX5_advance_278 rfl (lv_at hl 0 rfl) ?_
                    refine tg_X5_tape C0 h kSC_77 q_371 dX5_advance_279 ?_
                    refine lv_aload_n C0.1 C0.2.1 dX5_advance_282 rfl (lv_at hl 0 rfl) ?_
                    refine tg_X5_start C0 h kSC_77 q_375 dX5_advance_283 (fun v_120 e_121 e_122 e_123 => ?_)
                    have qh_124 : v_120.toInt = f_18.toInt := congrArg Int32.toInt (e_121.symm.trans (Eq.trans (Eq.trans (Fr.fI u_106 kSC_77 (by decide)) (Eq.trans (Fr.fI u_70 kSC_77 (by decide)) (Eq.trans (Fr.fI u_56 kSC_77 (by decide)) (u_38.2.2 5 (by decide))))) e_19))
                    refine y_bald C0 h kSC_78 rfl (by decide) (o22_54 b_20 b_21 hn_17 e_24 e_25 qh_26 e_29 e_30 c_31 e_34 e_35 qh_36 e_41 e_42 qh_43 e_46 e_47 qh_48 c_49 e_52 e_53 qh_54 e_66 e_67 qh_68 e_80 e_81 qh_82 e_96 e_97 qh_98 e_122 e_123 qh_124) (o22_55 b_20 b_21 hn_17 e_24 e_25 qh_26 e_29 e_30 c_31 e_34 e_35 qh_36 e_41 e_42 qh_43 e_46 e_47 qh_48 c_49 e_52 e_53 qh_54 e_66 e_67 qh_68 e_80 e_81 qh_82 e_96 e_97 qh_98 e_122 e_123 qh_124) dX5_advance_286 (fun v_125 e_126 e_127 e_128 => ?_)
                    refine tp_X5_kind C0 h kSC_77 q_374 (le_min v_125) (le_max v_125) dX5_advance_287 (fun H locs ws_129 h u_130 Xu_130 => ?_)
                    replace HE : FT = g31w_X5_advance (xso SC ad ws_129) := HE.trans (by rw [Xu_130, (xg1 e_126 : v_125.toInt = (xso SC ad ws_105) 1 78 v_120.toInt.toNat), (xg0 e_121 : v_120.toInt = (xso SC ad ws_105) 0 77 5)]; rfl)
                    refine lv_aload_n C0.1 C0.2.1 dX5_advance_290 rfl (lv_at hl 0 rfl) ?_
                    refine lv_dup C0.1 C0.2.1 dX5_advance_291 rfl ?_
                    refine tg_X5_end C0 h kSC_77 q_376 dX5_advance_292 (fun v_131 e_132 e_133 e_134 => ?_)
                    have qh_135 : v_131.toInt = v_32.toInt := congrArg Int32.toInt (e_132.symm.trans (Eq.trans (Eq.trans (u_130.2.2 6 (by decide)) (Eq.trans (Fr.fI u_106 kSC_77 (by decide)) (Eq.trans (Fr.fI u_70 kSC_77 (by decide)) (Fr.fI u_56 kSC_77 (by decide))))) u_38.2.1))
                    refine y_c1 (n := 1) C0 (by decide) dX5_advance_295 (fun v_136 e_137 => ?_)
                    refine y_add C0 (o22_56 b_20 b_21 hn_17 e_24 e_25 qh_26 e_29 e_30 c_31 e_34 e_35 qh_36 e_41 e_42 qh_43 e_46 e_47 qh_48 c_49 e_52 e_53 qh_54 e_66 e_67 qh_68 e_80 e_81 qh_82 e_96 e_97 qh_98 e_122 e_123 qh_124 e_133 e_134 qh_135 e_137 (le_min v_131) (le_max v_131) (le_min v_136) (le_max v_136) (le_min f_18) (le_max f_18) (le_min v_22) (le_max v_22) (le_min v_27) (le_max v_27) (le_min v_32) (le_max v_32) (le_min v_39) (le_max v_39) (le_min v_44) (le_max v_44) (le_min v_50) (le_max v_50) (le_min v_64) (le_max v_64) (le_min v_78) (le_max v_78) (le_min v_94) (le_max v_94) (le_min v_120) (le_max v_120)) (o22_57 b_20 b_21 hn_17 e_24 e_25 qh_26 e_29 e_30 c_31 e_34 e_35 qh_36 e_41 e_42 qh_43 e_46 e_47 qh_48 c_49 e_52 e_53 qh_54 e_66 e_67 qh_68 e_80 e_81 qh_82 e_96 e_97 qh_98 e_122 e_123 qh_124 e_133 e_134 qh_135 e_137 (le_min v_131) (le_max v_131) (le_min v_136) (le_max v_136) (le_min f_18) (le_max f_18) (le_min v_22) (le_max v_22) (le_min v_27) (le_max v_27) (le_min v_32) (le_max v_32) (le_min v_39) (le_max v_39) (le_min v_44) (le_max v_44) (le_min v_50) (le_max v_50) (le_min v_64) (le_max v_64) (le_min v_78) (le_max v_78) (le_min v_94) (le_max v_94) (le_min v_120) (le_max v_120)) dX5_advance_296 (fun v_138 e_139 => ?_)
                    refine tp_X5_end C0 h kSC_77 q_376 (o22_58 b_20 b_21 hn_17 e_24 e_25 qh_26 e_29 e_30 c_31 e_34 e_35 qh_36 e_41 e_42 qh_43 e_46 e_47 qh_48 c_49 e_52 e_53 qh_54 e_66 e_67 qh_68 e_80 e_81 qh_82 e_96 e_97 qh_98 e_122 e_123 qh_124 e_133 e_134 qh_135 e_137 e_139) (o22_59 b_20 b_21 hn_17 e_24 e_25 qh_26 e_29 e_30 c_31 e_34 e_35 qh_36 e_41 e_42 qh_43 e_46 e_47 qh_48 c_49 e_52 e_53 qh_54 e_66 e_67 qh_68 e_80 e_81 qh_82 e_96 e_97 qh_98 e_122 e_123 qh_124 e_133 e_134 qh_135 e_137 e_139) dX5_advance_297 (fun H locs ws_140 h u_141 Xu_141 => ?_)
                    replace HE : FT = g32w_X5_advance (xso SC ad ws_140) := HE.trans (by rw [Xu_141, e_139, e_137, (xg0 e_132 : v_131.toInt = (xso SC ad ws_129) 0 77 6)]; rfl)
                    refine lv_goto (tgt := 308) C0.1 C0.2.1 dX5_advance_300 (by decide) ?_
                    replace HE : FT = ((xso SC ad ws_140), 0) := HE.trans rfl
                    rw [hQ]
                    exact y_vret C0 h (Fr.tr (Fr.tr (Fr.tr (Fr.tr (Fr.tr (Fr.tr (Fr.tr (Fr.up u_11.1 kSC_77 (by decide)) hF_13) (Fr.up u_38.1 kSC_77 (by decide))) (Fr.mono u_56 (by decide))) (Fr.mono u_70 (by decide))) (Fr.mono u_106 (by decide))) (Fr.up u_130.1 kSC_77 (by decide))) (Fr.up u_141.1 kSC_77 (by decide))) (congrArg Prod.fst (HE.symm.trans hFT)) dX5_advance_308
              · -- 154
                replace HE : FT = g21_X5_advance (xso SC ad ws_69) := HE.trans (if_neg c_77)
                refine lv_aload_n C0.1 C0.2.1 dX5_advance_157 rfl (lv_at hl 0 rfl) ?_
                refine y_c1 (n := 2) C0 (by decide) dX5_advance_158 (fun v_142 e_143 => ?_)
                refine tp_X5_kind C0 h kSC_77 q_374 (le_min v_142) (le_max v_142) dX5_advance_159 (fun H locs ws_144 h u_145 Xu_145 => ?_)
                replace HE : FT = g33w_X5_advance (xso SC ad ws_144) := HE.trans (by rw [Xu_145, e_143]; rfl)
                refine lv_aload_n C0.1 C0.2.1 dX5_advance_162 rfl (lv_at hl 0 rfl) ?_
                refine y_c1 (n := 0) C0 (by decide) dX5_advance_163 (fun v_146 e_147 => ?_)
                refine tp_X5_number C0 h kSC_77 q_377 (le_min v_146) (le_max v_146) dX5_advance_164 (fun H locs ws_148 h u_149 Xu_149 => ?_)
                replace HE : FT = g34w_X5_advance (xso SC ad ws_148) := HE.trans (by rw [Xu_149, e_147]; rfl)
                have lp_152 : ∀ (n_154 : Nat) (f_156 : Int32) (H : Heap) (locs : List Loc) (ls : Array Slot) (ws_150 : va_W), 900 - f_156.toInt < (n_154 : Int) → 0 ≤ f_156.toInt → f_156.toInt ≤ 900 → (FT = L35_X5_advance n_154 (xso SC ad ws_150)) → fI ws_150 77 6 = f_156 → Wt G SC ad A s H locs ws_150 → Fr SC [16] ws_148 ws_150 → lv_has ls 1 [(0, .ref (ad 77))] → W p l e (rmd 5 0 0) s m args below meth c H locs 0 0 Q (F0 m 167 ls []) := by
                  intro n_154
                  induction n_154 with
                  | zero => intro f_156 H locs ls ws_150 hn_155 b_158 b_159 HE e_157 h hF_151 hl; exact ((o22_43 b_158 b_159 hn_155)).elim
                  | succ n_154 ih_153 =>
                    intro f_156 H locs ls ws_150 hn_155 b_158 b_159 HE e_157 h hF_151 hl
                    obtain ⟨R167, hR167⟩ : ∃ z, z = L35_X5_advance n_154 := ⟨_, rfl⟩
                    replace HE : FT = g36l_X5_advance R167 (xso SC ad ws_150) := HE.trans (by rw [hR167]; rfl)
                    refine lv_aload_n C0.1 C0.2.1 dX5_advance_167 rfl (lv_at hl 0 rfl) ?_
                    refine tg_X5_end C0 h kSC_77 q_376 dX5_advance_168 (fun v_160 e_161 e_162 e_163 => ?_)
                    have qh_164 : v_160.toInt = f_156.toInt := congrArg Int32.toInt (e_161.symm.trans (Eq.trans rfl e_157))
                    refine lv_aload_n C0.1 C0.2.1 dX5_advance_171 rfl (lv_at hl 0 rfl) ?_
                    refine tg_X5_length C0 h kSC_77 q_373 dX5_advance_172 (fun v_165 e_166 e_167 e_168 => ?_)
                    replace HE : FT = g37b_X5_advance R167 (xso SC ad ws_150) v_165.toInt v_160.toInt := HE.trans (by rw [(xg0 e_161 : v_160.toInt = (xso SC ad ws_150) 0 77 6), (xg0 e_166 : v_165.toInt = (xso SC ad ws_150) 0 77 3)]; rfl)
                    refine y_icmp_ge (tgt := 226) C0 dX5_advance_175 (by decide) (fun c_169 => ?_) (fun c_169 => ?_)
                    · -- 175
                      replace HE : FT = g38_X5_advance (xso SC ad ws_150) := HE.trans (if_neg (Int.not_lt.mpr c_169))
                      refine lv_aload_n C0.1 C0.2.1 dX5_advance_226 rfl (lv_at hl 0 rfl) ?_
                      refine tg_X5_end C0 h kSC_77 q_376 dX5_advance_227 (fun v_170 e_171 e_172 e_173 => ?_)
                      have qh_174 : v_170.toInt = f_156.toInt := congrArg Int32.toInt (e_171.symm.trans (Eq.trans rfl e_157))
                      refine lv_aload_n C0.1 C0.2.1 dX5_advance_230 rfl (lv_at hl 0 rfl) ?_
                      refine tg_X5_start C0 h kSC_77 q_375 dX5_advance_231 (fun v_175 e_176 e_177 e_178 => ?_)
                      refine y_sub C0 (o22_60 b_158 b_159 hn_155 e_162 e_163 qh_164 e_167 e_168 c_169 e_172 e_173 qh_174 e_177 e_178 (le_min v_170) (le_max v_170) (le_min v_175) (le_max v_175) (le_min f_156) (le_max f_156) (le_min v_160) (le_max v_160) (le_min v_165) (le_max v_165)) (o22_61 b_158 b_159 hn_155 e_162 e_163 qh_164 e_167 e_168 c_169 e_172 e_173 qh_174 e_177 e_178 (le_min v_170) (le_max v_170) (le_min v_175) (le_max v_175) (le_min f_156) (le_max f_156) (le_min v_160) (le_max v_160) (le_min v_165) (le_max v_165)) dX5_advance_234 (fun v_179 e_180 => ?_)
                      refine y_c1 (n := 3) C0 (by decide) dX5_advance_235 (fun v_181 e_182 => ?_)
                      replace HE : FT = g40b_X5_advance (xso SC ad ws_150) v_179.toInt := HE.trans (by rw [e_180, (xg0 e_176 : v_175.toInt = (xso SC ad ws_150) 0 77 5), (xg0 e_171 : v_170.toInt = (xso SC ad ws_150) 0 77 6)]; rfl)
                      refine y_icmp_le (tgt := 308) C0 dX5_advance_236 (by decide) (fun c_183 => ?_) (fun c_183 => ?_)
                      · -- 236
                        replace HE : FT = g41_X5_advance (xso SC ad ws_150) := HE.trans (if_neg (o22_63 b_158 b_159 hn_155 e_162 e_163 qh_164 e_167 e_168 c_169 e_172 e_173 qh_174 e_177 e_178 e_180 e_182 c_183))
                        replace HE : FT = ((xso SC ad ws_150), 0) := HE.trans rfl
                        rw [hQ]
                        exact y_vret C0 h (Fr.tr (Fr.tr (Fr.tr (Fr.tr (Fr.tr (Fr.tr (Fr.tr (Fr.up u_11.1 kSC_77 (by decide)) hF_13) (Fr.up u_38.1 kSC_77 (by decide))) (Fr.mono u_56 (by decide))) (Fr.mono u_70 (by decide))) (Fr.up u_145.1 kSC_77 (by decide))) (Fr.up u_149.1 kSC_77 (by decide))) hF_151) (congrArg Prod.fst (HE.symm.trans hFT)) dX5_advance_308
                      · -- 236
                        replace HE : FT = g42_X5_advance (xso SC ad ws_150) := HE.trans (if_pos (o22_64 b_158 b_159 hn_155 e_162 e_163 qh_164 e_167 e_168 c_169 e_172 e_173 qh_174 e_177 e_178 e_180 e_182 c_183))
                        refine lv_aload_n C0.1 C0.2.1 dX5_advance_239 rfl (lv_at hl 0 rfl) ?_
                        refine y_c1 (n := 1) C0 (by decide) dX5_advance_240 (fun v_184 e_185 => ?_)
                        refine y_cv h (y_rV (As := [.int v_184]) (rest := []) C0 hZ h (c_X5_fail l G Z ad _ h.2 v_184) k_X5_fail q_628 q_3 q_626 kSC_77 rfl rfl rfl hl.1 rfl rfl (Nat.le_of_ble_eq_true rfl) dX5_advance_241 ⟨Nat.le_of_ble_eq_true rfl, Nat.le_of_ble_eq_true rfl⟩ ⟨Nat.le_of_ble_eq_true rfl, Nat.le_of_ble_eq_true rfl⟩) (fun H locs ws_186 h u_187 p_188 => ?_)
                        have e_189 := p_188
                        replace HE : FT = g43c_X5_advance (xso SC ad ws_186) := HE.trans (by rw [e_189, e_185]; rfl)
                        refine lv_goto (tgt := 308) C0.1 C0.2.1 dX5_advance_244 (by decide) ?_
                        replace HE : FT = ((xso SC ad ws_186), 0) := HE.trans rfl
                        rw [hQ]
                        exact y_vret C0 h (Fr.tr (Fr.tr (Fr.tr (Fr.tr (Fr.tr (Fr.tr (Fr.tr (Fr.tr (Fr.up u_11.1 kSC_77 (by decide)) hF_13) (Fr.up u_38.1 kSC_77 (by decide))) (Fr.mono u_56 (by decide))) (Fr.mono u_70 (by decide))) (Fr.up u_145.1 kSC_77 (by decide))) (Fr.up u_149.1 kSC_77 (by decide))) hF_151) u_187) (congrArg Prod.fst (HE.symm.trans hFT)) dX5_advance_308
                    · -- 175
                      replace HE : FT = g39_X5_advance R167 (xso SC ad ws_150) := HE.trans (if_pos c_169)
                      refine lv_aload_n C0.1 C0.2.1 dX5_advance_178 rfl (lv_at hl 0 rfl) ?_
                      refine lv_aload_n C0.1 C0.2.1 dX5_advance_179 rfl (lv_at hl 0 rfl) ?_
                      refine tg_X5_end C0 h kSC_77 q_376 dX5_advance_180 (fun v_190 e_191 e_192 e_193 => ?_)
                      have qh_194 : v_190.toInt = f_156.toInt := congrArg Int32.toInt (e_191.symm.trans (Eq.trans rfl e_157))
                      refine y_ci h (y_rV (As := [.int v_190]) (rest := []) C0 hZ h (c_X5_isDigit l G Z ad _ h.2 v_190 (o22_65 b_158 b_159 hn_155 e_162 e_163 qh_164 e_167 e_168 c_169 e_192 e_193 qh_194) (o22_66 b_158 b_159 hn_155 e_162 e_163 qh_164 e_167 e_168 c_169 e_192 e_193 qh_194)) k_X5_isDigit q_624 q_2 q_622 kSC_77 rfl rfl rfl hl.1 rfl rfl (Nat.le_of_ble_eq_true rfl) dX5_advance_183 ⟨Nat.le_of_ble_eq_true rfl, Nat.le_of_ble_eq_true rfl⟩ ⟨Nat.le_of_ble_eq_true rfl, Nat.le_of_ble_eq_true rfl⟩) (fun r_198 H locs ws_195 h u_196 p_197 => ?_)
                      obtain ⟨e_199, e_200, e_201, e_202⟩ := p_197
                      replace HE : FT = g44c_X5_advance R167 (xso SC ad ws_195) r_198.toInt := HE.trans (by rw [e_199, e_200, (xg0 e_191 : v_190.toInt = (xso SC ad ws_150) 0 77 6)]; rfl)
                      replace HE : FT = g45b_X5_advance R167 (xso SC ad ws_195) r_198.toInt := HE.trans rfl
                      refine y_if_eq (tgt := 226) C0 dX5_advance_186 (by decide) (fun c_203 => ?_) (fun c_203 => ?_)
                      · -- 186
                        replace HE : FT = g46_X5_advance (xso SC ad ws_195) := HE.trans (if_pos c_203)
                        refine lv_aload_n C0.1 C0.2.1 dX5_advance_226 rfl (lv_at hl 0 rfl) ?_
                        refine tg_X5_end C0 h kSC_77 q_376 dX5_advance_227 (fun v_204 e_205 e_206 e_207 => ?_)
                        have qh_208 : v_204.toInt = f_156.toInt := congrArg Int32.toInt (e_205.symm.trans (Eq.trans (Fr.fI u_196 kSC_77 (by decide)) e_157))
                        refine lv_aload_n C0.1 C0.2.1 dX5_advance_230 rfl (lv_at hl 0 rfl) ?_
                        refine tg_X5_start C0 h kSC_77 q_375 dX5_advance_231 (fun v_209 e_210 e_211 e_212 => ?_)
                        refine y_sub C0 (o22_67 b_158 b_159 hn_155 e_162 e_163 qh_164 e_167 e_168 c_169 e_192 e_193 qh_194 e_206 e_207 qh_208 e_211 e_212 (le_min v_204) (le_max v_204) (le_min v_209) (le_max v_209) (le_min f_156) (le_max f_156) (le_min v_160) (le_max v_160) (le_min v_165) (le_max v_165) (le_min v_190) (le_max v_190)) (o22_68 b_158 b_159 hn_155 e_162 e_163 qh_164 e_167 e_168 c_169 e_192 e_193 qh_194 e_206 e_207 qh_208 e_211 e_212 (le_min v_204) (le_max v_204) (le_min v_209) (le_max v_209) (le_min f_156) (le_max f_156) (le_min v_160) (le_max v_160) (le_min v_165) (le_max v_165) (le_min v_190) (le_max v_190)) dX5_advance_234 (fun v_213 e_214 => ?_)
                        refine y_c1 (n := 3) C0 (by decide) dX5_advance_235 (fun v_215 e_216 => ?_)
                        replace HE : FT = g48b_X5_advance (xso SC ad ws_195) v_213.toInt := HE.trans (by rw [e_214, (xg0 e_210 : v_209.toInt = (xso SC ad ws_195) 0 77 5), (xg0 e_205 : v_204.toInt = (xso SC ad ws_195) 0 77 6)]; rfl)
                        refine y_icmp_le (tgt := 308) C0 dX5_advance_236 (by decide) (fun c_217 => ?_) (fun c_217 => ?_)
                        · -- 236
                          replace HE : FT = g49_X5_advance (xso SC ad ws_195) := HE.trans (if_neg (o22_69 b_158 b_159 hn_155 e_162 e_163 qh_164 e_167 e_168 c_169 e_192 e_193 qh_194 e_206 e_207 qh_208 e_211 e_212 e_214 e_216 c_217))
                          replace HE : FT = ((xso SC ad ws_195), 0) := HE.trans rfl
                          rw [hQ]
                          exact y_vret C0 h (Fr.tr (Fr.tr (Fr.tr (Fr.tr (Fr.tr (Fr.tr (Fr.tr (Fr.tr (Fr.up u_11.1 kSC_77 (by decide)) hF_13) (Fr.up u_38.1 kSC_77 (by decide))) (Fr.mono u_56 (by decide))) (Fr.mono u_70 (by decide))) (Fr.up u_145.1 kSC_77 (by decide))) (Fr.up u_149.1 kSC_77 (by decide))) hF_151) (Fr.mono u_196 (by decide))) (congrArg Prod.fst (HE.symm.trans hFT)) dX5_advance_308
                        · -- 236
                          replace HE : FT = g50_X5_advance (xso SC ad ws_195) := HE.trans (if_pos (o22_70 b_158 b_159 hn_155 e_162 e_163 qh_164 e_167 e_168 c_169 e_192 e_193 qh_194 e_206 e_207 qh_208 e_211 e_212 e_214 e_216 c_217))
                          refine lv_aload_n C0.1 C0.2.1 dX5_advance_239 rfl (lv_at hl 0 rfl) ?_
                          refine y_c1 (n := 1) C0 (by decide) dX5_advance_240 (fun v_218 e_219 => ?_)
                          refine y_cv h (y_rV (As := [.int v_218]) (rest := []) C0 hZ h (c_X5_fail l G Z ad _ h.2 v_218) k_X5_fail q_628 q_3 q_626 kSC_77 rfl rfl rfl hl.1 rfl rfl (Nat.le_of_ble_eq_true rfl) dX5_advance_241 ⟨Nat.le_of_ble_eq_true rfl, Nat.le_of_ble_eq_true rfl⟩ ⟨Nat.le_of_ble_eq_true rfl, Nat.le_of_ble_eq_true rfl⟩) (fun H locs ws_220 h u_221 p_222 => ?_)
                          have e_223 := p_222
                          replace HE : FT = g51c_X5_advance (xso SC ad ws_220) := HE.trans (by rw [e_223, e_219]; rfl)
                          refine lv_goto (tgt := 308) C0.1 C0.2.1 dX5_advance_244 (by decide) ?_
                          replace HE : FT = ((xso SC ad ws_220), 0) := HE.trans rfl
                          rw [hQ]
                          exact y_vret C0 h (Fr.tr (Fr.tr (Fr.tr (Fr.tr (Fr.tr (Fr.tr (Fr.tr (Fr.tr (Fr.tr (Fr.up u_11.1 kSC_77 (by decide)) hF_13) (Fr.up u_38.1 kSC_77 (by decide))) (Fr.mono u_56 (by decide))) (Fr.mono u_70 (by decide))) (Fr.up u_145.1 kSC_77 (by decide))) (Fr.up u_149.1 kSC_77 (by decide))) hF_151) (Fr.mono u_196 (by decide))) u_221) (congrArg Prod.fst (HE.symm.trans hFT)) dX5_advance_308
                      · -- 186
                        replace HE : FT = g47_X5_advance R167 (xso SC ad ws_195) := HE.trans (if_neg c_203)
                        refine lv_aload_n C0.1 C0.2.1 dX5_advance_189 rfl (lv_at hl 0 rfl) ?_
                        refine lv_aload_n C0.1 C0.2.1 dX5_advance_190 rfl (lv_at hl 0 rfl) ?_
                        refine tg_X5_number C0 h kSC_77 q_377 dX5_advance_191 (fun v_224 e_225 e_226 e_227 => ?_)
                        refine y_c2 (n := 10) C0 (by decide) dX5_advance_194 (fun v_228 e_229 => ?_)
                        refine xr_imul C0 dX5_advance_196 (fun v_230 e_231 => ?_)
                        refine lv_aload_n C0.1 C0.2.1 dX5_advance_197 rfl (lv_at hl 0 rfl) ?_
                        refine tg_X5_tape C0 h kSC_77 q_371 dX5_advance_198 ?_
                        refine lv_aload_n C0.1 C0.2.1 dX5_advance_201 rfl (lv_at hl 0 rfl) ?_
                        refine tg_X5_end C0 h kSC_77 q_376 dX5_advance_202 (fun v_232 e_233 e_234 e_235 => ?_)
                        have qh_236 : v_232.toInt = f_156.toInt := congrArg Int32.toInt (e_233.symm.trans (Eq.trans (Fr.fI u_196 kSC_77 (by decide)) e_157))
                        refine y_bald C0 h kSC_78 rfl (by decide) (o22_71 b_158 b_159 hn_155 e_162 e_163 qh_164 e_167 e_168 c_169 e_192 e_193 qh_194 e_234 e_235 qh_236) (o22_72 b_158 b_159 hn_155 e_162 e_163 qh_164 e_167 e_168 c_169 e_192 e_193 qh_194 e_234 e_235 qh_236) dX5_advance_205 (fun v_237 e_238 e_239 e_240 => ?_)
                        refine xr_iadd C0 dX5_advance_206 (fun v_241 e_242 => ?_)
                        refine y_c2 (n := 48) C0 (by decide) dX5_advance_207 (fun v_243 e_244 => ?_)
                        refine xr_isub C0 dX5_advance_209 (fun v_245 e_246 => ?_)
                        refine tp_X5_number C0 h kSC_77 q_377 (le_min v_245) (le_max v_245) dX5_advance_210 (fun H locs ws_247 h u_248 Xu_248 => ?_)
                        replace HE : FT = g52w_X5_advance R167 (xso SC ad ws_247) := HE.trans (by rw [Xu_248, e_246, e_244, e_242, (xg1 e_238 : v_237.toInt = (xso SC ad ws_195) 1 78 v_232.toInt.toNat), (xg0 e_233 : v_232.toInt = (xso SC ad ws_195) 0 77 6), e_231, e_229, (xg0 e_225 : v_224.toInt = (xso SC ad ws_195) 0 77 7)]; rfl)
                        refine lv_aload_n C0.1 C0.2.1 dX5_advance_213 rfl (lv_at hl 0 rfl) ?_
                        refine lv_dup C0.1 C0.2.1 dX5_advance_214 rfl ?_
                        refine tg_X5_end C0 h kSC_77 q_376 dX5_advance_215 (fun v_249 e_250 e_251 e_252 => ?_)
                        have qh_253 : v_249.toInt = f_156.toInt := congrArg Int32.toInt (e_250.symm.trans (Eq.trans (Eq.trans (u_248.2.2 6 (by decide)) (Fr.fI u_196 kSC_77 (by decide))) e_157))
                        refine y_c1 (n := 1) C0 (by decide) dX5_advance_218 (fun v_254 e_255 => ?_)
                        refine y_add C0 (o22_73 b_158 b_159 hn_155 e_162 e_163 qh_164 e_167 e_168 c_169 e_192 e_193 qh_194 e_234 e_235 qh_236 e_251 e_252 qh_253 e_255 (le_min v_249) (le_max v_249) (le_min v_254) (le_max v_254) (le_min f_156) (le_max f_156) (le_min v_160) (le_max v_160) (le_min v_165) (le_max v_165) (le_min v_190) (le_max v_190) (le_min v_232) (le_max v_232)) (o22_74 b_158 b_159 hn_155 e_162 e_163 qh_164 e_167 e_168 c_169 e_192 e_193 qh_194 e_234 e_235 qh_236 e_251 e_252 qh_253 e_255 (le_min v_249) (le_max v_249) (le_min v_254) (le_max v_254) (le_min f_156) (le_max f_156) (le_min v_160) (le_max v_160) (le_min v_165) (le_max v_165) (le_min v_190) (le_max v_190) (le_min v_232) (le_max v_232)) dX5_advance_219 (fun v_256 e_257 => ?_)
                        refine tp_X5_end C0 h kSC_77 q_376 (o22_75 b_158 b_159 hn_155 e_162 e_163 qh_164 e_167 e_168 c_169 e_192 e_193 qh_194 e_234 e_235 qh_236 e_251 e_252 qh_253 e_255 e_257) (o22_76 b_158 b_159 hn_155 e_162 e_163 qh_164 e_167 e_168 c_169 e_192 e_193 qh_194 e_234 e_235 qh_236 e_251 e_252 qh_253 e_255 e_257) dX5_advance_220 (fun H locs ws_258 h u_259 Xu_259 => ?_)
                        replace HE : FT = g53w_X5_advance R167 (xso SC ad ws_258) := HE.trans (by rw [Xu_259, e_257, e_255, (xg0 e_250 : v_249.toInt = (xso SC ad ws_247) 0 77 6)]; rfl)
                        refine lv_goto (tgt := 167) C0.1 C0.2.1 dX5_advance_223 (by decide) ?_
                        exact ih_153 v_256 _ _ _ _ (o22_77 b_158 b_159 hn_155 e_162 e_163 qh_164 e_167 e_168 c_169 e_192 e_193 qh_194 e_234 e_235 qh_236 e_251 e_252 qh_253 e_255 e_257) (o22_75 b_158 b_159 hn_155 e_162 e_163 qh_164 e_167 e_168 c_169 e_192 e_193 qh_194 e_234 e_235 qh_236 e_251 e_252 qh_253 e_255 e_257) (o22_76 b_158 b_159 hn_155 e_162 e_163 qh_164 e_167 e_168 c_169 e_192 e_193 qh_194 e_234 e_235 qh_236 e_251 e_252 qh_253 e_255 e_257) (((show FT = R167 (xso SC ad ws_258) from HE.trans rfl).trans (by rw [hR167]))) (Eq.trans rfl u_259.2.1) h (Fr.tr (Fr.tr (Fr.tr hF_151 (Fr.mono u_196 (by decide))) (Fr.up u_248.1 kSC_77 (by decide))) (Fr.up u_259.1 kSC_77 (by decide))) (lv_sub hl [0] rfl)
                exact lp_152 ((900 - v_32.toInt + 1).toNat) v_32 _ _ _ _ (o22_78 b_20 b_21 hn_17 e_24 e_25 qh_26 e_29 e_30 c_31 e_34 e_35 qh_36 e_41 e_42 qh_43 e_46 e_47 qh_48 c_49 e_52 e_53 qh_54 e_66 e_67 qh_68) (o22_79 b_20 b_21 hn_17 e_24 e_25 qh_26 e_29 e_30 c_31 e_34 e_35 qh_36 e_41 e_42 qh_43 e_46 e_47 qh_48 c_49 e_52 e_53 qh_54 e_66 e_67 qh_68) (o22_80 b_20 b_21 hn_17 e_24 e_25 qh_26 e_29 e_30 c_31 e_34 e_35 qh_36 e_41 e_42 qh_43 e_46 e_47 qh_48 c_49 e_52 e_53 qh_54 e_66 e_67 qh_68) ((show FT = L35_X5_advance (Int.toNat (900 - v_32.toInt + 1)) (xso SC ad ws_148) from HE.trans (by rw [(xg0 ((Eq.trans (Eq.trans (u_149.2.2 6 (by decide)) (Eq.trans (u_145.2.2 6 (by decide)) (Eq.trans (Fr.fI u_70 kSC_77 (by decide)) (Fr.fI u_56 kSC_77 (by decide))))) u_38.2.1)) : v_32.toInt = (xso SC ad ws_148) 0 77 6)]; rfl))) (Eq.trans (Eq.trans (u_149.2.2 6 (by decide)) (Eq.trans (u_145.2.2 6 (by decide)) (Eq.trans (Fr.fI u_70 kSC_77 (by decide)) (Fr.fI u_56 kSC_77 (by decide))))) u_38.2.1) h Fr.rf (lv_sub hl [0] rfl)
            · -- 103
              replace HE : FT = g17_X5_advance (xso SC ad ws_55) := HE.trans (if_neg c_63)
              refine lv_aload_n C0.1 C0.2.1 dX5_advance_106 rfl (lv_at hl 0 rfl) ?_
              refine y_c1 (n := 1) C0 (by decide) dX5_advance_107 (fun v_260 e_261 => ?_)
              refine tp_X5_kind C0 h kSC_77 q_374 (le_min v_260) (le_max v_260) dX5_advance_108 (fun H locs ws_262 h u_263 Xu_263 => ?_)
              replace HE : FT = g54w_X5_advance (xso SC ad ws_262) := HE.trans (by rw [Xu_263, e_261]; rfl)
              have lp_266 : ∀ (n_268 : Nat) (f_270 : Int32) (H : Heap) (locs : List Loc) (ls : Array Slot) (ws_264 : va_W), 900 - f_270.toInt < (n_268 : Int) → 0 ≤ f_270.toInt → f_270.toInt ≤ 900 → (FT = L55_X5_advance n_268 (xso SC ad ws_264)) → fI ws_264 77 6 = f_270 → Wt G SC ad A s H locs ws_264 → Fr SC [16] ws_262 ws_264 → lv_has ls 1 [(0, .ref (ad 77))] → W p l e (rmd 5 0 0) s m args below meth c H locs 0 0 Q (F0 m 111 ls []) := by
                intro n_268
                induction n_268 with
                | zero => intro f_270 H locs ls ws_264 hn_269 b_272 b_273 HE e_271 h hF_265 hl; exact ((o22_43 b_272 b_273 hn_269)).elim
                | succ n_268 ih_267 =>
                  intro f_270 H locs ls ws_264 hn_269 b_272 b_273 HE e_271 h hF_265 hl
                  obtain ⟨R111, hR111⟩ : ∃ z, z = L55_X5_advance n_268 := ⟨_, rfl⟩
                  replace HE : FT = g56l_X5_advance R111 (xso SC ad ws_264) := HE.trans (by rw [hR111]; rfl)
                  refine lv_aload_n C0.1 C0.2.1 dX5_advance_111 rfl (lv_at hl 0 rfl) ?_
                  refine tg_X5_end C0 h kSC_77 q_376 dX5_advance_112 (fun v_274 e_275 e_276 e_277 => ?_)
                  have qh_278 : v_274.toInt = f_270.toInt := congrArg Int32.toInt (e_275.symm.trans (Eq.trans rfl e_271))
                  refine lv_aload_n C0.1 C0.2.1 dX5_advance_115 rfl (lv_at hl 0 rfl) ?_
                  refine tg_X5_length C0 h kSC_77 q_373 dX5_advance_116 (fun v_279 e_280 e_281 e_282 => ?_)
                  replace HE : FT = g57b_X5_advance R111 (xso SC ad ws_264) v_279.toInt v_274.toInt := HE.trans (by rw [(xg0 e_275 : v_274.toInt = (xso SC ad ws_264) 0 77 6), (xg0 e_280 : v_279.toInt = (xso SC ad ws_264) 0 77 3)]; rfl)
                  refine y_icmp_ge (tgt := 308) C0 dX5_advance_119 (by decide) (fun c_283 => ?_) (fun c_283 => ?_)
                  · -- 119
                    replace HE : FT = g58_X5_advance (xso SC ad ws_264) := HE.trans (if_neg (Int.not_lt.mpr c_283))
                    replace HE : FT = ((xso SC ad ws_264), 0) := HE.trans rfl
                    rw [hQ]
                    exact y_vret C0 h (Fr.tr (Fr.tr (Fr.tr (Fr.tr (Fr.tr (Fr.up u_11.1 kSC_77 (by decide)) hF_13) (Fr.up u_38.1 kSC_77 (by decide))) (Fr.mono u_56 (by decide))) (Fr.up u_263.1 kSC_77 (by decide))) hF_265) (congrArg Prod.fst (HE.symm.trans hFT)) dX5_advance_308
                  · -- 119
                    replace HE : FT = g59_X5_advance R111 (xso SC ad ws_264) := HE.trans (if_pos c_283)
                    refine lv_aload_n C0.1 C0.2.1 dX5_advance_122 rfl (lv_at hl 0 rfl) ?_
                    refine lv_aload_n C0.1 C0.2.1 dX5_advance_123 rfl (lv_at hl 0 rfl) ?_
                    refine tg_X5_end C0 h kSC_77 q_376 dX5_advance_124 (fun v_284 e_285 e_286 e_287 => ?_)
                    have qh_288 : v_284.toInt = f_270.toInt := congrArg Int32.toInt (e_285.symm.trans (Eq.trans rfl e_271))
                    refine y_ci h (y_rV (As := [.int v_284]) (rest := []) C0 hZ h (c_X5_isSmall l G Z ad _ h.2 v_284 (o22_65 b_272 b_273 hn_269 e_276 e_277 qh_278 e_281 e_282 c_283 e_286 e_287 qh_288) (o22_66 b_272 b_273 hn_269 e_276 e_277 qh_278 e_281 e_282 c_283 e_286 e_287 qh_288)) k_X5_isSmall q_620 q_1 q_618 kSC_77 rfl rfl rfl hl.1 rfl rfl (Nat.le_of_ble_eq_true rfl) dX5_advance_127 ⟨Nat.le_of_ble_eq_true rfl, Nat.le_of_ble_eq_true rfl⟩ ⟨Nat.le_of_ble_eq_true rfl, Nat.le_of_ble_eq_true rfl⟩) (fun r_292 H locs ws_289 h u_290 p_291 => ?_)
                    obtain ⟨e_293, e_294, e_295, e_296⟩ := p_291
                    replace HE : FT = g60c_X5_advance R111 (xso SC ad ws_289) r_292.toInt := HE.trans (by rw [e_293, e_294, (xg0 e_285 : v_284.toInt = (xso SC ad ws_264) 0 77 6)]; rfl)
                    replace HE : FT = g61b_X5_advance R111 (xso SC ad ws_289) r_292.toInt := HE.trans rfl
                    refine y_if_eq (tgt := 308) C0 dX5_advance_130 (by decide) (fun c_297 => ?_) (fun c_297 => ?_)
                    · -- 130
                      replace HE : FT = g62_X5_advance (xso SC ad ws_289) := HE.trans (if_pos c_297)
                      replace HE : FT = ((xso SC ad ws_289), 0) := HE.trans rfl
                      rw [hQ]
                      exact y_vret C0 h (Fr.tr (Fr.tr (Fr.tr (Fr.tr (Fr.tr (Fr.tr (Fr.up u_11.1 kSC_77 (by decide)) hF_13) (Fr.up u_38.1 kSC_77 (by decide))) (Fr.mono u_56 (by decide))) (Fr.up u_263.1 kSC_77 (by decide))) hF_265) (Fr.mono u_290 (by decide))) (congrArg Prod.fst (HE.symm.trans hFT)) dX5_advance_308
                    · -- 130
                      replace HE : FT = g63_X5_advance R111 (xso SC ad ws_289) := HE.trans (if_neg c_297)
                      refine lv_aload_n C0.1 C0.2.1 dX5_advance_133 rfl (lv_at hl 0 rfl) ?_
                      refine lv_dup C0.1 C0.2.1 dX5_advance_134 rfl ?_
                      refine tg_X5_end C0 h kSC_77 q_376 dX5_advance_135 (fun v_298 e_299 e_300 e_301 => ?_)
                      have qh_302 : v_298.toInt = f_270.toInt := congrArg Int32.toInt (e_299.symm.trans (Eq.trans (Fr.fI u_290 kSC_77 (by decide)) e_271))
                      refine y_c1 (n := 1) C0 (by decide) dX5_advance_138 (fun v_303 e_304 => ?_)
                      refine y_add C0 (o22_81 b_272 b_273 hn_269 e_276 e_277 qh_278 e_281 e_282 c_283 e_286 e_287 qh_288 e_300 e_301 qh_302 e_304 (le_min v_298) (le_max v_298) (le_min v_303) (le_max v_303) (le_min f_270) (le_max f_270) (le_min v_274) (le_max v_274) (le_min v_279) (le_max v_279) (le_min v_284) (le_max v_284)) (o22_82 b_272 b_273 hn_269 e_276 e_277 qh_278 e_281 e_282 c_283 e_286 e_287 qh_288 e_300 e_301 qh_302 e_304 (le_min v_298) (le_max v_298) (le_min v_303) (le_max v_303) (le_min f_270) (le_max f_270) (le_min v_274) (le_max v_274) (le_min v_279) (le_max v_279) (le_min v_284) (le_max v_284)) dX5_advance_139 (fun v_305 e_306 => ?_)
                      refine tp_X5_end C0 h kSC_77 q_376 (o22_83 b_272 b_273 hn_269 e_276 e_277 qh_278 e_281 e_282 c_283 e_286 e_287 qh_288 e_300 e_301 qh_302 e_304 e_306) (o22_84 b_272 b_273 hn_269 e_276 e_277 qh_278 e_281 e_282 c_283 e_286 e_287 qh_288 e_300 e_301 qh_302 e_304 e_306) dX5_advance_140 (fun H locs ws_307 h u_308 Xu_308 => ?_)
                      replace HE : FT = g64w_X5_advance R111 (xso SC ad ws_307) := HE.trans (by rw [Xu_308, e_306, e_304, (xg0 e_299 : v_298.toInt = (xso SC ad ws_289) 0 77 6)]; rfl)
                      refine lv_goto (tgt := 111) C0.1 C0.2.1 dX5_advance_143 (by decide) ?_
                      exact ih_267 v_305 _ _ _ _ (o22_85 b_272 b_273 hn_269 e_276 e_277 qh_278 e_281 e_282 c_283 e_286 e_287 qh_288 e_300 e_301 qh_302 e_304 e_306) (o22_83 b_272 b_273 hn_269 e_276 e_277 qh_278 e_281 e_282 c_283 e_286 e_287 qh_288 e_300 e_301 qh_302 e_304 e_306) (o22_84 b_272 b_273 hn_269 e_276 e_277 qh_278 e_281 e_282 c_283 e_286 e_287 qh_288 e_300 e_301 qh_302 e_304 e_306) (((show FT = R111 (xso SC ad ws_307) from HE.trans rfl).trans (by rw [hR111]))) (Eq.trans rfl u_308.2.1) h (Fr.tr (Fr.tr hF_265 (Fr.mono u_290 (by decide))) (Fr.up u_308.1 kSC_77 (by decide))) (lv_sub hl [0] rfl)
              exact lp_266 ((900 - v_32.toInt + 1).toNat) v_32 _ _ _ _ (o22_86 b_20 b_21 hn_17 e_24 e_25 qh_26 e_29 e_30 c_31 e_34 e_35 qh_36 e_41 e_42 qh_43 e_46 e_47 qh_48 c_49 e_52 e_53 qh_54) (o22_87 b_20 b_21 hn_17 e_24 e_25 qh_26 e_29 e_30 c_31 e_34 e_35 qh_36 e_41 e_42 qh_43 e_46 e_47 qh_48 c_49 e_52 e_53 qh_54) (o22_88 b_20 b_21 hn_17 e_24 e_25 qh_26 e_29 e_30 c_31 e_34 e_35 qh_36 e_41 e_42 qh_43 e_46 e_47 qh_48 c_49 e_52 e_53 qh_54) ((show FT = L55_X5_advance (Int.toNat (900 - v_32.toInt + 1)) (xso SC ad ws_262) from HE.trans (by rw [(xg0 ((Eq.trans (Eq.trans (u_263.2.2 6 (by decide)) (Fr.fI u_56 kSC_77 (by decide))) u_38.2.1)) : v_32.toInt = (xso SC ad ws_262) 0 77 6)]; rfl))) (Eq.trans (Eq.trans (u_263.2.2 6 (by decide)) (Fr.fI u_56 kSC_77 (by decide))) u_38.2.1) h Fr.rf (lv_sub hl [0] rfl)
          · -- 84
            replace HE : FT = g13_X5_advance (xso SC ad ws_37) := HE.trans (if_neg (Int.not_lt.mpr c_49))
            refine lv_aload_n C0.1 C0.2.1 dX5_advance_87 rfl (lv_at hl 0 rfl) ?_
            refine y_c1 (n := 0) C0 (by decide) dX5_advance_88 (fun v_309 e_310 => ?_)
            refine tp_X5_kind C0 h kSC_77 q_374 (le_min v_309) (le_max v_309) dX5_advance_89 (fun H locs ws_311 h u_312 Xu_312 => ?_)
            replace HE : FT = g65w_X5_advance (xso SC ad ws_311) := HE.trans (by rw [Xu_312, e_310]; rfl)
            refine lv_goto (tgt := 308) C0.1 C0.2.1 dX5_advance_92 (by decide) ?_
            replace HE : FT = ((xso SC ad ws_311), 0) := HE.trans rfl
            rw [hQ]
            exact y_vret C0 h (Fr.tr (Fr.tr (Fr.tr (Fr.up u_11.1 kSC_77 (by decide)) hF_13) (Fr.up u_38.1 kSC_77 (by decide))) (Fr.up u_312.1 kSC_77 (by decide))) (congrArg Prod.fst (HE.symm.trans hFT)) dX5_advance_308
        · -- 24
          replace HE : FT = g9_X5_advance R16 (xso SC ad ws_12) := HE.trans (if_pos c_31)
          refine lv_aload_n C0.1 C0.2.1 dX5_advance_27 rfl (lv_at hl 0 rfl) ?_
          refine tg_X5_tape C0 h kSC_77 q_371 dX5_advance_28 ?_
          refine lv_aload_n C0.1 C0.2.1 dX5_advance_31 rfl (lv_at hl 0 rfl) ?_
          refine tg_X5_start C0 h kSC_77 q_375 dX5_advance_32 (fun v_313 e_314 e_315 e_316 => ?_)
          have qh_317 : v_313.toInt = f_18.toInt := congrArg Int32.toInt (e_314.symm.trans (Eq.trans rfl e_19))
          refine y_bald C0 h kSC_78 rfl (by decide) (o22_65 b_20 b_21 hn_17 e_24 e_25 qh_26 e_29 e_30 c_31 e_315 e_316 qh_317) (o22_89 b_20 b_21 hn_17 e_24 e_25 qh_26 e_29 e_30 c_31 e_315 e_316 qh_317) dX5_advance_35 (fun v_318 e_319 e_320 e_321 => ?_)
          refine y_c2 (n := 32) C0 (by decide) dX5_advance_36 (fun v_322 e_323 => ?_)
          replace HE : FT = g66b_X5_advance R16 (xso SC ad ws_12) v_318.toInt := HE.trans (by rw [(xg1 e_319 : v_318.toInt = (xso SC ad ws_12) 1 78 v_313.toInt.toNat), (xg0 e_314 : v_313.toInt = (xso SC ad ws_12) 0 77 5)]; rfl)
          refine y_icmp_eq (tgt := 55) C0 dX5_advance_38 (by decide) (fun c_324 => ?_) (fun c_324 => ?_)
          · -- 38
            replace HE : FT = g67_X5_advance R16 (xso SC ad ws_12) := HE.trans (if_pos (o22_91 e_320 e_321 e_323 c_324))
            refine lv_aload_n C0.1 C0.2.1 dX5_advance_55 rfl (lv_at hl 0 rfl) ?_
            refine lv_dup C0.1 C0.2.1 dX5_advance_56 rfl ?_
            refine tg_X5_start C0 h kSC_77 q_375 dX5_advance_57 (fun v_325 e_326 e_327 e_328 => ?_)
            have qh_329 : v_325.toInt = f_18.toInt := congrArg Int32.toInt (e_326.symm.trans (Eq.trans rfl e_19))
            refine y_c1 (n := 1) C0 (by decide) dX5_advance_60 (fun v_330 e_331 => ?_)
            refine y_add C0 (o22_81 b_20 b_21 hn_17 e_24 e_25 qh_26 e_29 e_30 c_31 e_315 e_316 qh_317 e_327 e_328 qh_329 e_331 (le_min v_325) (le_max v_325) (le_min v_330) (le_max v_330) (le_min f_18) (le_max f_18) (le_min v_22) (le_max v_22) (le_min v_27) (le_max v_27) (le_min v_313) (le_max v_313)) (o22_82 b_20 b_21 hn_17 e_24 e_25 qh_26 e_29 e_30 c_31 e_315 e_316 qh_317 e_327 e_328 qh_329 e_331 (le_min v_325) (le_max v_325) (le_min v_330) (le_max v_330) (le_min f_18) (le_max f_18) (le_min v_22) (le_max v_22) (le_min v_27) (le_max v_27) (le_min v_313) (le_max v_313)) dX5_advance_61 (fun v_332 e_333 => ?_)
            refine tp_X5_start C0 h kSC_77 q_375 (o22_83 b_20 b_21 hn_17 e_24 e_25 qh_26 e_29 e_30 c_31 e_315 e_316 qh_317 e_327 e_328 qh_329 e_331 e_333) (o22_84 b_20 b_21 hn_17 e_24 e_25 qh_26 e_29 e_30 c_31 e_315 e_316 qh_317 e_327 e_328 qh_329 e_331 e_333) dX5_advance_62 (fun H locs ws_334 h u_335 Xu_335 => ?_)
            replace HE : FT = g69w_X5_advance R16 (xso SC ad ws_334) := HE.trans (by rw [Xu_335, e_333, e_331, (xg0 e_326 : v_325.toInt = (xso SC ad ws_12) 0 77 5)]; rfl)
            refine lv_goto (tgt := 16) C0.1 C0.2.1 dX5_advance_65 (by decide) ?_
            exact ih_15 v_332 _ _ _ _ (o22_85 b_20 b_21 hn_17 e_24 e_25 qh_26 e_29 e_30 c_31 e_315 e_316 qh_317 e_327 e_328 qh_329 e_331 e_333) (o22_83 b_20 b_21 hn_17 e_24 e_25 qh_26 e_29 e_30 c_31 e_315 e_316 qh_317 e_327 e_328 qh_329 e_331 e_333) (o22_84 b_20 b_21 hn_17 e_24 e_25 qh_26 e_29 e_30 c_31 e_315 e_316 qh_317 e_327 e_328 qh_329 e_331 e_333) (((show FT = R16 (xso SC ad ws_334) from HE.trans rfl).trans (by rw [hR16]))) (Eq.trans rfl u_335.2.1) h (Fr.tr hF_13 (Fr.up u_335.1 kSC_77 (by decide))) (lv_sub hl [0] rfl)
          · -- 38
            replace HE : FT = g68_X5_advance R16 (xso SC ad ws_12) := HE.trans (if_neg (o22_92 e_320 e_321 e_323 c_324))
            refine lv_aload_n C0.1 C0.2.1 dX5_advance_41 rfl (lv_at hl 0 rfl) ?_
            refine tg_X5_tape C0 h kSC_77 q_371 dX5_advance_42 ?_
            refine lv_aload_n C0.1 C0.2.1 dX5_advance_45 rfl (lv_at hl 0 rfl) ?_
            refine tg_X5_start C0 h kSC_77 q_375 dX5_advance_46 (fun v_336 e_337 e_338 e_339 => ?_)
            have qh_340 : v_336.toInt = f_18.toInt := congrArg Int32.toInt (e_337.symm.trans (Eq.trans rfl e_19))
            refine y_bald C0 h kSC_78 rfl (by decide) (o22_71 b_20 b_21 hn_17 e_24 e_25 qh_26 e_29 e_30 c_31 e_315 e_316 qh_317 e_338 e_339 qh_340) (o22_72 b_20 b_21 hn_17 e_24 e_25 qh_26 e_29 e_30 c_31 e_315 e_316 qh_317 e_338 e_339 qh_340) dX5_advance_49 (fun v_341 e_342 e_343 e_344 => ?_)
            refine y_c2 (n := 10) C0 (by decide) dX5_advance_50 (fun v_345 e_346 => ?_)
            replace HE : FT = g70b_X5_advance R16 (xso SC ad ws_12) v_341.toInt := HE.trans (by rw [(xg1 e_342 : v_341.toInt = (xso SC ad ws_12) 1 78 v_336.toInt.toNat), (xg0 e_337 : v_336.toInt = (xso SC ad ws_12) 0 77 5)]; rfl)
            refine y_icmp_ne (tgt := 68) C0 dX5_advance_52 (by decide) (fun c_347 => ?_) (fun c_347 => ?_)
            · -- 52
              replace HE : FT = g71_X5_advance (xso SC ad ws_12) := HE.trans (if_neg (o22_94 e_343 e_344 e_346 c_347))
              refine lv_aload_n C0.1 C0.2.1 dX5_advance_68 rfl (lv_at hl 0 rfl) ?_
              refine lv_aload_n C0.1 C0.2.1 dX5_advance_69 rfl (lv_at hl 0 rfl) ?_
              refine tg_X5_start C0 h kSC_77 q_375 dX5_advance_70 (fun v_348 e_349 e_350 e_351 => ?_)
              have qh_352 : v_348.toInt = f_18.toInt := congrArg Int32.toInt (e_349.symm.trans (Eq.trans rfl e_19))
              refine tp_X5_end C0 h kSC_77 q_376 (o22_96 b_20 b_21 hn_17 e_24 e_25 qh_26 e_29 e_30 c_31 e_315 e_316 qh_317 e_338 e_339 qh_340 e_350 e_351 qh_352) (o22_97 b_20 b_21 hn_17 e_24 e_25 qh_26 e_29 e_30 c_31 e_315 e_316 qh_317 e_338 e_339 qh_340 e_350 e_351 qh_352) dX5_advance_73 (fun H locs ws_353 h u_354 Xu_354 => ?_)
              replace HE : FT = g73w_X5_advance (xso SC ad ws_353) := HE.trans (by rw [Xu_354, (xg0 e_349 : v_348.toInt = (xso SC ad ws_12) 0 77 5)]; rfl)
              refine lv_aload_n C0.1 C0.2.1 dX5_advance_76 rfl (lv_at hl 0 rfl) ?_
              refine tg_X5_start C0 h kSC_77 q_375 dX5_advance_77 (fun v_355 e_356 e_357 e_358 => ?_)
              have qh_359 : v_355.toInt = f_18.toInt := congrArg Int32.toInt (e_356.symm.trans (Eq.trans (u_354.2.2 5 (by decide)) e_19))
              refine lv_aload_n C0.1 C0.2.1 dX5_advance_80 rfl (lv_at hl 0 rfl) ?_
              refine tg_X5_length C0 h kSC_77 q_373 dX5_advance_81 (fun v_360 e_361 e_362 e_363 => ?_)
              have qh_364 : v_360.toInt = v_27.toInt := congrArg Int32.toInt (e_361.symm.trans (Eq.trans (u_354.2.2 3 (by decide)) e_28))
              replace HE : FT = g74b_X5_advance (xso SC ad ws_353) v_360.toInt v_355.toInt := HE.trans (by rw [(xg0 e_356 : v_355.toInt = (xso SC ad ws_353) 0 77 5), (xg0 e_361 : v_360.toInt = (xso SC ad ws_353) 0 77 3)]; rfl)
              refine y_icmp_lt (tgt := 95) C0 dX5_advance_84 (by decide) (fun c_365 => ?_) (fun c_365 => ?_)
              · -- 84
                replace HE : FT = g75_X5_advance (xso SC ad ws_353) := HE.trans (if_pos c_365)
                refine lv_aload_n C0.1 C0.2.1 dX5_advance_95 rfl (lv_at hl 0 rfl) ?_
                refine lv_aload_n C0.1 C0.2.1 dX5_advance_96 rfl (lv_at hl 0 rfl) ?_
                refine tg_X5_start C0 h kSC_77 q_375 dX5_advance_97 (fun v_366 e_367 e_368 e_369 => ?_)
                have qh_370 : v_366.toInt = f_18.toInt := congrArg Int32.toInt (e_367.symm.trans (Eq.trans (u_354.2.2 5 (by decide)) e_19))
                refine y_ci h (y_rV (As := [.int v_366]) (rest := []) C0 hZ h (c_X5_isSmall l G Z ad _ h.2 v_366 (o22_98 b_20 b_21 hn_17 e_24 e_25 qh_26 e_29 e_30 c_31 e_315 e_316 qh_317 e_338 e_339 qh_340 e_350 e_351 qh_352 e_357 e_358 qh_359 e_362 e_363 qh_364 c_365 e_368 e_369 qh_370) (o22_99 b_20 b_21 hn_17 e_24 e_25 qh_26 e_29 e_30 c_31 e_315 e_316 qh_317 e_338 e_339 qh_340 e_350 e_351 qh_352 e_357 e_358 qh_359 e_362 e_363 qh_364 c_365 e_368 e_369 qh_370)) k_X5_isSmall q_620 q_1 q_618 kSC_77 rfl rfl rfl hl.1 rfl rfl (Nat.le_of_ble_eq_true rfl) dX5_advance_100 ⟨Nat.le_of_ble_eq_true rfl, Nat.le_of_ble_eq_true rfl⟩ ⟨Nat.le_of_ble_eq_true rfl, Nat.le_of_ble_eq_true rfl⟩) (fun r_374 H locs ws_371 h u_372 p_373 => ?_)
                obtain ⟨e_375, e_376, e_377, e_378⟩ := p_373
                replace HE : FT = g77c_X5_advance (xso SC ad ws_371) r_374.toInt := HE.trans (by rw [e_375, e_376, (xg0 e_367 : v_366.toInt = (xso SC ad ws_353) 0 77 5)]; rfl)
                replace HE : FT = g78b_X5_advance (xso SC ad ws_371) r_374.toInt := HE.trans rfl
                refine y_if_eq (tgt := 146) C0 dX5_advance_103 (by decide) (fun c_379 => ?_) (fun c_379 => ?_)
                · -- 103
                  replace HE : FT = g79_X5_advance (xso SC ad ws_371) := HE.trans (if_pos c_379)
                  refine lv_aload_n C0.1 C0.2.1 dX5_advance_146 rfl (lv_at hl 0 rfl) ?_
                  refine lv_aload_n C0.1 C0.2.1 dX5_advance_147 rfl (lv_at hl 0 rfl) ?_
                  refine tg_X5_start C0 h kSC_77 q_375 dX5_advance_148 (fun v_380 e_381 e_382 e_383 => ?_)
                  have qh_384 : v_380.toInt = f_18.toInt := congrArg Int32.toInt (e_381.symm.trans (Eq.trans (Eq.trans (Fr.fI u_372 kSC_77 (by decide)) (u_354.2.2 5 (by decide))) e_19))
                  refine y_ci h (y_rV (As := [.int v_380]) (rest := []) C0 hZ h (c_X5_isDigit l G Z ad _ h.2 v_380 (o22_100 b_20 b_21 hn_17 e_24 e_25 qh_26 e_29 e_30 c_31 e_315 e_316 qh_317 e_338 e_339 qh_340 e_350 e_351 qh_352 e_357 e_358 qh_359 e_362 e_363 qh_364 c_365 e_368 e_369 qh_370 e_382 e_383 qh_384) (o22_101 b_20 b_21 hn_17 e_24 e_25 qh_26 e_29 e_30 c_31 e_315 e_316 qh_317 e_338 e_339 qh_340 e_350 e_351 qh_352 e_357 e_358 qh_359 e_362 e_363 qh_364 c_365 e_368 e_369 qh_370 e_382 e_383 qh_384)) k_X5_isDigit q_624 q_2 q_622 kSC_77 rfl rfl rfl hl.1 rfl rfl (Nat.le_of_ble_eq_true rfl) dX5_advance_151 ⟨Nat.le_of_ble_eq_true rfl, Nat.le_of_ble_eq_true rfl⟩ ⟨Nat.le_of_ble_eq_true rfl, Nat.le_of_ble_eq_true rfl⟩) (fun r_388 H locs ws_385 h u_386 p_387 => ?_)
                  obtain ⟨e_389, e_390, e_391, e_392⟩ := p_387
                  replace HE : FT = g81c_X5_advance (xso SC ad ws_385) r_388.toInt := HE.trans (by rw [e_389, e_390, (xg0 e_381 : v_380.toInt = (xso SC ad ws_371) 0 77 5)]; rfl)
                  replace HE : FT = g82b_X5_advance (xso SC ad ws_385) r_388.toInt := HE.trans rfl
                  refine y_if_eq (tgt := 247) C0 dX5_advance_154 (by decide) (fun c_393 => ?_) (fun c_393 => ?_)
                  · -- 154
                    replace HE : FT = g83_X5_advance (xso SC ad ws_385) := HE.trans (if_pos c_393)
                    refine lv_aload_n C0.1 C0.2.1 dX5_advance_247 rfl (lv_at hl 0 rfl) ?_
                    refine tg_X5_tape C0 h kSC_77 q_371 dX5_advance_248 ?_
                    refine lv_aload_n C0.1 C0.2.1 dX5_advance_251 rfl (lv_at hl 0 rfl) ?_
                    refine tg_X5_start C0 h kSC_77 q_375 dX5_advance_252 (fun v_394 e_395 e_396 e_397 => ?_)
                    have qh_398 : v_394.toInt = f_18.toInt := congrArg Int32.toInt (e_395.symm.trans (Eq.trans (Eq.trans (Fr.fI u_386 kSC_77 (by decide)) (Eq.trans (Fr.fI u_372 kSC_77 (by decide)) (u_354.2.2 5 (by decide)))) e_19))
                    refine y_bald C0 h kSC_78 rfl (by decide) (o22_102 b_20 b_21 hn_17 e_24 e_25 qh_26 e_29 e_30 c_31 e_315 e_316 qh_317 e_338 e_339 qh_340 e_350 e_351 qh_352 e_357 e_358 qh_359 e_362 e_363 qh_364 c_365 e_368 e_369 qh_370 e_382 e_383 qh_384 e_396 e_397 qh_398) (o22_103 b_20 b_21 hn_17 e_24 e_25 qh_26 e_29 e_30 c_31 e_315 e_316 qh_317 e_338 e_339 qh_340 e_350 e_351 qh_352 e_357 e_358 qh_359 e_362 e_363 qh_364 c_365 e_368 e_369 qh_370 e_382 e_383 qh_384 e_396 e_397 qh_398) dX5_advance_255 (fun v_399 e_400 e_401 e_402 => ?_)
                    replace HE : FT = g85b_X5_advance (xso SC ad ws_385) v_399.toInt := HE.trans (by rw [(xg1 e_400 : v_399.toInt = (xso SC ad ws_385) 1 78 v_394.toInt.toNat), (xg0 e_395 : v_394.toInt = (xso SC ad ws_385) 0 77 5)]; rfl)
                    refine y_if_le (tgt := 303) C0 dX5_advance_256 (by decide) (fun c_403 => ?_) (fun c_403 => ?_)
                    · -- 256
                      replace HE : FT = g86_X5_advance (xso SC ad ws_385) := HE.trans (if_neg (Int.not_lt.mpr c_403))
                      refine lv_aload_n C0.1 C0.2.1 dX5_advance_303 rfl (lv_at hl 0 rfl) ?_
                      refine y_c1 (n := 1) C0 (by decide) dX5_advance_304 (fun v_404 e_405 => ?_)
                      refine y_cv h (y_rV (As := [.int v_404]) (rest := []) C0 hZ h (c_X5_fail l G Z ad _ h.2 v_404) k_X5_fail q_628 q_3 q_626 kSC_77 rfl rfl rfl hl.1 rfl rfl (Nat.le_of_ble_eq_true rfl) dX5_advance_305 ⟨Nat.le_of_ble_eq_true rfl, Nat.le_of_ble_eq_true rfl⟩ ⟨Nat.le_of_ble_eq_true rfl, Nat.le_of_ble_eq_true rfl⟩) (fun H locs ws_406 h u_407 p_408 => ?_)
                      have e_409 := p_408
                      replace HE : FT = g88c_X5_advance (xso SC ad ws_406) := HE.trans (by rw [e_409, e_405]; rfl)
                      replace HE : FT = ((xso SC ad ws_406), 0) := HE.trans rfl
                      rw [hQ]
                      exact y_vret C0 h (Fr.tr (Fr.tr (Fr.tr (Fr.tr (Fr.tr (Fr.up u_11.1 kSC_77 (by decide)) hF_13) (Fr.up u_354.1 kSC_77 (by decide))) (Fr.mono u_372 (by decide))) (Fr.mono u_386 (by decide))) u_407) (congrArg Prod.fst (HE.symm.trans hFT)) dX5_advance_308
                    · -- 256
                      replace HE : FT = g87_X5_advance (xso SC ad ws_385) := HE.trans (if_pos c_403)
                      refine va_ldcS C0.1 C0.2.1 C0.2.2.2.1 (sr_0 hZ) dX5_advance_259 ?_
                      refine lv_aload_n C0.1 C0.2.1 dX5_advance_261 rfl (lv_at hl 0 rfl) ?_
                      refine tg_X5_tape C0 h kSC_77 q_371 dX5_advance_262 ?_
                      refine lv_aload_n C0.1 C0.2.1 dX5_advance_265 rfl (lv_at hl 0 rfl) ?_
                      refine tg_X5_start C0 h kSC_77 q_375 dX5_advance_266 (fun v_410 e_411 e_412 e_413 => ?_)
                      have qh_414 : v_410.toInt = f_18.toInt := congrArg Int32.toInt (e_411.symm.trans (Eq.trans (Eq.trans (Fr.fI u_386 kSC_77 (by decide)) (Eq.trans (Fr.fI u_372 kSC_77 (by decide)) (u_354.2.2 5 (by decide)))) e_19))
                      refine y_bald C0 h kSC_78 rfl (by decide) (o22_104 b_20 b_21 hn_17 e_24 e_25 qh_26 e_29 e_30 c_31 e_315 e_316 qh_317 e_338 e_339 qh_340 e_350 e_351 qh_352 e_357 e_358 qh_359 e_362 e_363 qh_364 c_365 e_368 e_369 qh_370 e_382 e_383 qh_384 e_396 e_397 qh_398 e_412 e_413 qh_414) (o22_105 b_20 b_21 hn_17 e_24 e_25 qh_26 e_29 e_30 c_31 e_315 e_316 qh_317 e_338 e_339 qh_340 e_350 e_351 qh_352 e_357 e_358 qh_359 e_362 e_363 qh_364 c_365 e_368 e_369 qh_370 e_382 e_383 qh_384 e_396 e_397 qh_398 e_412 e_413 qh_414) dX5_advance_269 (fun v_415 e_416 e_417 e_418 => ?_)
                      refine xr_i2c C0 dX5_advance_270 (fun v_419 e_420 => ?_)
                      refine y_ci h (y_rT (As := [.int v_419]) (rest := []) C0 hZ h (c_J0_indexOf_0f7a4 l G Z ad _ h.2 0 (by decide) v_419) k_J0_indexOf_0f7a4 q_632 q_633 q_631 (by decide) rfl hl.1 rfl rfl (Nat.le_of_ble_eq_true rfl) dX5_advance_271 ⟨Nat.le_of_ble_eq_true rfl, Nat.le_of_ble_eq_true rfl⟩ ⟨Nat.le_of_ble_eq_true rfl, Nat.le_of_ble_eq_true rfl⟩) (fun r_424 H locs ws_421 h u_422 p_423 => ?_)
                      obtain ⟨e_425, e_426, e_427, e_428⟩ := p_423
                      replace HE : FT = g89c_X5_advance (xso SC ad ws_421) r_424.toInt := HE.trans (by rw [e_425, e_426, e_420, (xg1 e_416 : v_415.toInt = (xso SC ad ws_385) 1 78 v_410.toInt.toNat), (xg0 e_411 : v_410.toInt = (xso SC ad ws_385) 0 77 5)]; rfl)
                      replace HE : FT = g90b_X5_advance (xso SC ad ws_421) r_424.toInt := HE.trans rfl
                      refine y_if_lt (tgt := 303) C0 dX5_advance_274 (by decide) (fun c_429 => ?_) (fun c_429 => ?_)
                      · -- 274
                        replace HE : FT = g91_X5_advance (xso SC ad ws_421) := HE.trans (if_pos c_429)
                        refine lv_aload_n C0.1 C0.2.1 dX5_advance_303 rfl (lv_at hl 0 rfl) ?_
                        refine y_c1 (n := 1) C0 (by decide) dX5_advance_304 (fun v_430 e_431 => ?_)
                        refine y_cv h (y_rV (As := [.int v_430]) (rest := []) C0 hZ h (c_X5_fail l G Z ad _ h.2 v_430) k_X5_fail q_628 q_3 q_626 kSC_77 rfl rfl rfl hl.1 rfl rfl (Nat.le_of_ble_eq_true rfl) dX5_advance_305 ⟨Nat.le_of_ble_eq_true rfl, Nat.le_of_ble_eq_true rfl⟩ ⟨Nat.le_of_ble_eq_true rfl, Nat.le_of_ble_eq_true rfl⟩) (fun H locs ws_432 h u_433 p_434 => ?_)
                        have e_435 := p_434
                        replace HE : FT = g93c_X5_advance (xso SC ad ws_432) := HE.trans (by rw [e_435, e_431]; rfl)
                        replace HE : FT = ((xso SC ad ws_432), 0) := HE.trans rfl
                        rw [hQ]
                        exact y_vret C0 h (Fr.tr (Fr.tr (Fr.tr (Fr.tr (Fr.tr (Fr.tr (Fr.up u_11.1 kSC_77 (by decide)) hF_13) (Fr.up u_354.1 kSC_77 (by decide))) (Fr.mono u_372 (by decide))) (Fr.mono u_386 (by decide))) (Fr.mono u_422 (by decide))) u_433) (congrArg Prod.fst (HE.symm.trans hFT)) dX5_advance_308
                      · -- 274
                        replace HE : FT = g92_X5_advance (xso SC ad ws_421) := HE.trans (if_neg (Int.not_lt.mpr c_429))
                        refine lv_aload_n C0.1 C0.2.1 dX5_advance_277 rfl (lv_at hl 0 rfl) ?_
                        refine lv_aload_n C0.1 C0.2.1 dX5_advance_278 rfl (lv_at hl 0 rfl) ?_
                        refine tg_X5_tape C0 h kSC_77 q_371 dX5_advance_279 ?_
                        refine lv_aload_n C0.1 C0.2.1 dX5_advance_282 rfl (lv_at hl 0 rfl) ?_
                        refine tg_X5_start C0 h kSC_77 q_375 dX5_advance_283 (fun v_436 e_437 e_438 e_439 => ?_)
                        have qh_440 : v_436.toInt = f_18.toInt := congrArg Int32.toInt (e_437.symm.trans (Eq.trans (Eq.trans (Fr.fI u_422 kSC_77 (by decide)) (Eq.trans (Fr.fI u_386 kSC_77 (by decide)) (Eq.trans (Fr.fI u_372 kSC_77 (by decide)) (u_354.2.2 5 (by decide))))) e_19))
                        refine y_bald C0 h kSC_78 rfl (by decide) (o22_106 b_20 b_21 hn_17 e_24 e_25 qh_26 e_29 e_30 c_31 e_315 e_316 qh_317 e_338 e_339 qh_340 e_350 e_351 qh_352 e_357 e_358 qh_359 e_362 e_363 qh_364 c_365 e_368 e_369 qh_370 e_382 e_383 qh_384 e_396 e_397 qh_398 e_412 e_413 qh_414 e_438 e_439 qh_440) (o22_107 b_20 b_21 hn_17 e_24 e_25 qh_26 e_29 e_30 c_31 e_315 e_316 qh_317 e_338 e_339 qh_340 e_350 e_351 qh_352 e_357 e_358 qh_359 e_362 e_363 qh_364 c_365 e_368 e_369 qh_370 e_382 e_383 qh_384 e_396 e_397 qh_398 e_412 e_413 qh_414 e_438 e_439 qh_440) dX5_advance_286 (fun v_441 e_442 e_443 e_444 => ?_)
                        refine tp_X5_kind C0 h kSC_77 q_374 (le_min v_441) (le_max v_441) dX5_advance_287 (fun H locs ws_445 h u_446 Xu_446 => ?_)
                        replace HE : FT = g94w_X5_advance (xso SC ad ws_445) := HE.trans (by rw [Xu_446, (xg1 e_442 : v_441.toInt = (xso SC ad ws_421) 1 78 v_436.toInt.toNat), (xg0 e_437 : v_436.toInt = (xso SC ad ws_421) 0 77 5)]; rfl)
                        refine lv_aload_n C0.1 C0.2.1 dX5_advance_290 rfl (lv_at hl 0 rfl) ?_
                        refine lv_dup C0.1 C0.2.1 dX5_advance_291 rfl ?_
                        refine tg_X5_end C0 h kSC_77 q_376 dX5_advance_292 (fun v_447 e_448 e_449 e_450 => ?_)
                        have qh_451 : v_447.toInt = v_348.toInt := congrArg Int32.toInt (e_448.symm.trans (Eq.trans (Eq.trans (u_446.2.2 6 (by decide)) (Eq.trans (Fr.fI u_422 kSC_77 (by decide)) (Eq.trans (Fr.fI u_386 kSC_77 (by decide)) (Fr.fI u_372 kSC_77 (by decide))))) u_354.2.1))
                        refine y_c1 (n := 1) C0 (by decide) dX5_advance_295 (fun v_452 e_453 => ?_)
                        refine y_add C0 (o22_108 b_20 b_21 hn_17 e_24 e_25 qh_26 e_29 e_30 c_31 e_315 e_316 qh_317 e_338 e_339 qh_340 e_350 e_351 qh_352 e_357 e_358 qh_359 e_362 e_363 qh_364 c_365 e_368 e_369 qh_370 e_382 e_383 qh_384 e_396 e_397 qh_398 e_412 e_413 qh_414 e_438 e_439 qh_440 e_449 e_450 qh_451 e_453 (le_min v_447) (le_max v_447) (le_min v_452) (le_max v_452) (le_min f_18) (le_max f_18) (le_min v_22) (le_max v_22) (le_min v_27) (le_max v_27) (le_min v_313) (le_max v_313) (le_min v_336) (le_max v_336) (le_min v_348) (le_max v_348) (le_min v_355) (le_max v_355) (le_min v_360) (le_max v_360) (le_min v_366) (le_max v_366) (le_min v_380) (le_max v_380) (le_min v_394) (le_max v_394) (le_min v_410) (le_max v_410) (le_min v_436) (le_max v_436)) (o22_109 b_20 b_21 hn_17 e_24 e_25 qh_26 e_29 e_30 c_31 e_315 e_316 qh_317 e_338 e_339 qh_340 e_350 e_351 qh_352 e_357 e_358 qh_359 e_362 e_363 qh_364 c_365 e_368 e_369 qh_370 e_382 e_383 qh_384 e_396 e_397 qh_398 e_412 e_413 qh_414 e_438 e_439 qh_440 e_449 e_450 qh_451 e_453 (le_min v_447) (le_max v_447) (le_min v_452) (le_max v_452) (le_min f_18) (le_max f_18) (le_min v_22) (le_max v_22) (le_min v_27) (le_max v_27) (le_min v_313) (le_max v_313) (le_min v_336) (le_max v_336) (le_min v_348) (le_max v_348) (le_min v_355) (le_max v_355) (le_min v_360) (le_max v_360) (le_min v_366) (le_max v_366) (le_min v_380) (le_max v_380) (le_min v_394) (le_max v_394) (le_min v_410) (le_max v_410) (le_min v_436) (le_max v_436)) dX5_advance_296 (fun v_454 e_455 => ?_)
                        refine tp_X5_end C0 h kSC_77 q_376 (o22_110 b_20 b_21 hn_17 e_24 e_25 qh_26 e_29 e_30 c_31 e_315 e_316 qh_317 e_338 e_339 qh_340 e_350 e_351 qh_352 e_357 e_358 qh_359 e_362 e_363 qh_364 c_365 e_368 e_369 qh_370 e_382 e_383 qh_384 e_396 e_397 qh_398 e_412 e_413 qh_414 e_438 e_439 qh_440 e_449 e_450 qh_451 e_453 e_455) (o22_111 b_20 b_21 hn_17 e_24 e_25 qh_26 e_29 e_30 c_31 e_315 e_316 qh_317 e_338 e_339 qh_340 e_350 e_351 qh_352 e_357 e_358 qh_359 e_362 e_363 qh_364 c_365 e_368 e_369 qh_370 e_382 e_383 qh_384 e_396 e_397 qh_398 e_412 e_413 qh_414 e_438 e_439 qh_440 e_449 e_450 qh_451 e_453 e_455) dX5_advance_297 (fun H locs ws_456 h u_457 Xu_457 => ?_)
                        replace HE : FT = g95w_X5_advance (xso SC ad ws_456) := HE.trans (by rw [Xu_457, e_455, e_453, (xg0 e_448 : v_447.toInt = (xso SC ad ws_445) 0 77 6)]; rfl)
                        refine lv_goto (tgt := 308) C0.1 C0.2.1 dX5_advance_300 (by decide) ?_
                        replace HE : FT = ((xso SC ad ws_456), 0) := HE.trans rfl
                        rw [hQ]
                        exact y_vret C0 h (Fr.tr (Fr.tr (Fr.tr (Fr.tr (Fr.tr (Fr.tr (Fr.tr (Fr.up u_11.1 kSC_77 (by decide)) hF_13) (Fr.up u_354.1 kSC_77 (by decide))) (Fr.mono u_372 (by decide))) (Fr.mono u_386 (by decide))) (Fr.mono u_422 (by decide))) (Fr.up u_446.1 kSC_77 (by decide))) (Fr.up u_457.1 kSC_77 (by decide))) (congrArg Prod.fst (HE.symm.trans hFT)) dX5_advance_308
                  · -- 154
                    replace HE : FT = g84_X5_advance (xso SC ad ws_385) := HE.trans (if_neg c_393)
                    refine lv_aload_n C0.1 C0.2.1 dX5_advance_157 rfl (lv_at hl 0 rfl) ?_
                    refine y_c1 (n := 2) C0 (by decide) dX5_advance_158 (fun v_458 e_459 => ?_)
                    refine tp_X5_kind C0 h kSC_77 q_374 (le_min v_458) (le_max v_458) dX5_advance_159 (fun H locs ws_460 h u_461 Xu_461 => ?_)
                    replace HE : FT = g96w_X5_advance (xso SC ad ws_460) := HE.trans (by rw [Xu_461, e_459]; rfl)
                    refine lv_aload_n C0.1 C0.2.1 dX5_advance_162 rfl (lv_at hl 0 rfl) ?_
                    refine y_c1 (n := 0) C0 (by decide) dX5_advance_163 (fun v_462 e_463 => ?_)
                    refine tp_X5_number C0 h kSC_77 q_377 (le_min v_462) (le_max v_462) dX5_advance_164 (fun H locs ws_464 h u_465 Xu_465 => ?_)
                    replace HE : FT = g97w_X5_advance (xso SC ad ws_464) := HE.trans (by rw [Xu_465, e_463]; rfl)
                    have lp_468 : ∀ (n_470 : Nat) (f_472 : Int32) (H : Heap) (locs : List Loc) (ls : Array Slot) (ws_466 : va_W), 900 - f_472.toInt < (n_470 : Int) → 0 ≤ f_472.toInt → f_472.toInt ≤ 900 → (FT = L98_X5_advance n_470 (xso SC ad ws_466)) → fI ws_466 77 6 = f_472 → Wt G SC ad A s H locs ws_466 → Fr SC [16] ws_464 ws_466 → lv_has ls 1 [(0, .ref (ad 77))] → W p l e (rmd 5 0 0) s m args below meth c H locs 0 0 Q (F0 m 167 ls []) := by
                      intro n_470
                      induction n_470 with
                      | zero => intro f_472 H locs ls ws_466 hn_471 b_474 b_475 HE e_473 h hF_467 hl; exact ((o22_43 b_474 b_475 hn_471)).elim
                      | succ n_470 ih_469 =>
                        intro f_472 H locs ls ws_466 hn_471 b_474 b_475 HE e_473 h hF_467 hl
                        obtain ⟨R167, hR167⟩ : ∃ z, z = L98_X5_advance n_470 := ⟨_, rfl⟩
                        replace HE : FT = g99l_X5_advance R167 (xso SC ad ws_466) := HE.trans (by rw [hR167]; rfl)
                        refine lv_aload_n C0.1 C0.2.1 dX5_advance_167 rfl (lv_at hl 0 rfl) ?_
                        refine tg_X5_end C0 h kSC_77 q_376 dX5_advance_168 (fun v_476 e_477 e_478 e_479 => ?_)
                        have qh_480 : v_476.toInt = f_472.toInt := congrArg Int32.toInt (e_477.symm.trans (Eq.trans rfl e_473))
                        refine lv_aload_n C0.1 C0.2.1 dX5_advance_171 rfl (lv_at hl 0 rfl) ?_
                        refine tg_X5_length C0 h kSC_77 q_373 dX5_advance_172 (fun v_481 e_482 e_483 e_484 => ?_)
                        replace HE : FT = g100b_X5_advance R167 (xso SC ad ws_466) v_481.toInt v_476.toInt := HE.trans (by rw [(xg0 e_477 : v_476.toInt = (xso SC ad ws_466) 0 77 6), (xg0 e_482 : v_481.toInt = (xso SC ad ws_466) 0 77 3)]; rfl)
                        refine y_icmp_ge (tgt := 226) C0 dX5_advance_175 (by decide) (fun c_485 => ?_) (fun c_485 => ?_)
                        · -- 175
                          replace HE : FT = g101_X5_advance (xso SC ad ws_466) := HE.trans (if_neg (Int.not_lt.mpr c_485))
                          refine lv_aload_n C0.1 C0.2.1 dX5_advance_226 rfl (lv_at hl 0 rfl) ?_
                          refine tg_X5_end C0 h kSC_77 q_376 dX5_advance_227 (fun v_486 e_487 e_488 e_489 => ?_)
                          have qh_490 : v_486.toInt = f_472.toInt := congrArg Int32.toInt (e_487.symm.trans (Eq.trans rfl e_473))
                          refine lv_aload_n C0.1 C0.2.1 dX5_advance_230 rfl (lv_at hl 0 rfl) ?_
                          refine tg_X5_start C0 h kSC_77 q_375 dX5_advance_231 (fun v_491 e_492 e_493 e_494 => ?_)
                          refine y_sub C0 (o22_60 b_474 b_475 hn_471 e_478 e_479 qh_480 e_483 e_484 c_485 e_488 e_489 qh_490 e_493 e_494 (le_min v_486) (le_max v_486) (le_min v_491) (le_max v_491) (le_min f_472) (le_max f_472) (le_min v_476) (le_max v_476) (le_min v_481) (le_max v_481)) (o22_61 b_474 b_475 hn_471 e_478 e_479 qh_480 e_483 e_484 c_485 e_488 e_489 qh_490 e_493 e_494 (le_min v_486) (le_max v_486) (le_min v_491) (le_max v_491) (le_min f_472) (le_max f_472) (le_min v_476) (le_max v_476) (le_min v_481) (le_max v_481)) dX5_advance_234 (fun v_495 e_496 => ?_)
                          refine y_c1 (n := 3) C0 (by decide) dX5_advance_235 (fun v_497 e_498 => ?_)
                          replace HE : FT = g103b_X5_advance (xso SC ad ws_466) v_495.toInt := HE.trans (by rw [e_496, (xg0 e_492 : v_491.toInt = (xso SC ad ws_466) 0 77 5), (xg0 e_487 : v_486.toInt = (xso SC ad ws_466) 0 77 6)]; rfl)
                          refine y_icmp_le (tgt := 308) C0 dX5_advance_236 (by decide) (fun c_499 => ?_) (fun c_499 => ?_)
                          · -- 236
                            replace HE : FT = g104_X5_advance (xso SC ad ws_466) := HE.trans (if_neg (o22_63 b_474 b_475 hn_471 e_478 e_479 qh_480 e_483 e_484 c_485 e_488 e_489 qh_490 e_493 e_494 e_496 e_498 c_499))
                            replace HE : FT = ((xso SC ad ws_466), 0) := HE.trans rfl
                            rw [hQ]
                            exact y_vret C0 h (Fr.tr (Fr.tr (Fr.tr (Fr.tr (Fr.tr (Fr.tr (Fr.tr (Fr.up u_11.1 kSC_77 (by decide)) hF_13) (Fr.up u_354.1 kSC_77 (by decide))) (Fr.mono u_372 (by decide))) (Fr.mono u_386 (by decide))) (Fr.up u_461.1 kSC_77 (by decide))) (Fr.up u_465.1 kSC_77 (by decide))) hF_467) (congrArg Prod.fst (HE.symm.trans hFT)) dX5_advance_308
                          · -- 236
                            replace HE : FT = g105_X5_advance (xso SC ad ws_466) := HE.trans (if_pos (o22_64 b_474 b_475 hn_471 e_478 e_479 qh_480 e_483 e_484 c_485 e_488 e_489 qh_490 e_493 e_494 e_496 e_498 c_499))
                            refine lv_aload_n C0.1 C0.2.1 dX5_advance_239 rfl (lv_at hl 0 rfl) ?_
                            refine y_c1 (n := 1) C0 (by decide) dX5_advance_240 (fun v_500 e_501 => ?_)
                            refine y_cv h (y_rV (As := [.int v_500]) (rest := []) C0 hZ h (c_X5_fail l G Z ad _ h.2 v_500) k_X5_fail q_628 q_3 q_626 kSC_77 rfl rfl rfl hl.1 rfl rfl (Nat.le_of_ble_eq_true rfl) dX5_advance_241 ⟨Nat.le_of_ble_eq_true rfl, Nat.le_of_ble_eq_true rfl⟩ ⟨Nat.le_of_ble_eq_true rfl, Nat.le_of_ble_eq_true rfl⟩) (fun H locs ws_502 h u_503 p_504 => ?_)
                            have e_505 := p_504
                            replace HE : FT = g106c_X5_advance (xso SC ad ws_502) := HE.trans (by rw [e_505, e_501]; rfl)
                            refine lv_goto (tgt := 308) C0.1 C0.2.1 dX5_advance_244 (by decide) ?_
                            replace HE : FT = ((xso SC ad ws_502), 0) := HE.trans rfl
                            rw [hQ]
                            exact y_vret C0 h (Fr.tr (Fr.tr (Fr.tr (Fr.tr (Fr.tr (Fr.tr (Fr.tr (Fr.tr (Fr.up u_11.1 kSC_77 (by decide)) hF_13) (Fr.up u_354.1 kSC_77 (by decide))) (Fr.mono u_372 (by decide))) (Fr.mono u_386 (by decide))) (Fr.up u_461.1 kSC_77 (by decide))) (Fr.up u_465.1 kSC_77 (by decide))) hF_467) u_503) (congrArg Prod.fst (HE.symm.trans hFT)) dX5_advance_308
                        · -- 175
                          replace HE : FT = g102_X5_advance R167 (xso SC ad ws_466) := HE.trans (if_pos c_485)
                          refine lv_aload_n C0.1 C0.2.1 dX5_advance_178 rfl (lv_at hl 0 rfl) ?_
                          refine lv_aload_n C0.1 C0.2.1 dX5_advance_179 rfl (lv_at hl 0 rfl) ?_
                          refine tg_X5_end C0 h kSC_77 q_376 dX5_advance_180 (fun v_506 e_507 e_508 e_509 => ?_)
                          have qh_510 : v_506.toInt = f_472.toInt := congrArg Int32.toInt (e_507.symm.trans (Eq.trans rfl e_473))
                          refine y_ci h (y_rV (As := [.int v_506]) (rest := []) C0 hZ h (c_X5_isDigit l G Z ad _ h.2 v_506 (o22_65 b_474 b_475 hn_471 e_478 e_479 qh_480 e_483 e_484 c_485 e_508 e_509 qh_510) (o22_66 b_474 b_475 hn_471 e_478 e_479 qh_480 e_483 e_484 c_485 e_508 e_509 qh_510)) k_X5_isDigit q_624 q_2 q_622 kSC_77 rfl rfl rfl hl.1 rfl rfl (Nat.le_of_ble_eq_true rfl) dX5_advance_183 ⟨Nat.le_of_ble_eq_true rfl, Nat.le_of_ble_eq_true rfl⟩ ⟨Nat.le_of_ble_eq_true rfl, Nat.le_of_ble_eq_true rfl⟩) (fun r_514 H locs ws_511 h u_512 p_513 => ?_)
                          obtain ⟨e_515, e_516, e_517, e_518⟩ := p_513
                          replace HE : FT = g107c_X5_advance R167 (xso SC ad ws_511) r_514.toInt := HE.trans (by rw [e_515, e_516, (xg0 e_507 : v_506.toInt = (xso SC ad ws_466) 0 77 6)]; rfl)
                          replace HE : FT = g108b_X5_advance R167 (xso SC ad ws_511) r_514.toInt := HE.trans rfl
                          refine y_if_eq (tgt := 226) C0 dX5_advance_186 (by decide) (fun c_519 => ?_) (fun c_519 => ?_)
                          · -- 186
                            replace HE : FT = g109_X5_advance (xso SC ad ws_511) := HE.trans (if_pos c_519)
                            refine lv_aload_n C0.1 C0.2.1 dX5_advance_226 rfl (lv_at hl 0 rfl) ?_
                            refine tg_X5_end C0 h kSC_77 q_376 dX5_advance_227 (fun v_520 e_521 e_522 e_523 => ?_)
                            have qh_524 : v_520.toInt = f_472.toInt := congrArg Int32.toInt (e_521.symm.trans (Eq.trans (Fr.fI u_512 kSC_77 (by decide)) e_473))
                            refine lv_aload_n C0.1 C0.2.1 dX5_advance_230 rfl (lv_at hl 0 rfl) ?_
                            refine tg_X5_start C0 h kSC_77 q_375 dX5_advance_231 (fun v_525 e_526 e_527 e_528 => ?_)
                            refine y_sub C0 (o22_67 b_474 b_475 hn_471 e_478 e_479 qh_480 e_483 e_484 c_485 e_508 e_509 qh_510 e_522 e_523 qh_524 e_527 e_528 (le_min v_520) (le_max v_520) (le_min v_525) (le_max v_525) (le_min f_472) (le_max f_472) (le_min v_476) (le_max v_476) (le_min v_481) (le_max v_481) (le_min v_506) (le_max v_506)) (o22_68 b_474 b_475 hn_471 e_478 e_479 qh_480 e_483 e_484 c_485 e_508 e_509 qh_510 e_522 e_523 qh_524 e_527 e_528 (le_min v_520) (le_max v_520) (le_min v_525) (le_max v_525) (le_min f_472) (le_max f_472) (le_min v_476) (le_max v_476) (le_min v_481) (le_max v_481) (le_min v_506) (le_max v_506)) dX5_advance_234 (fun v_529 e_530 => ?_)
                            refine y_c1 (n := 3) C0 (by decide) dX5_advance_235 (fun v_531 e_532 => ?_)
                            replace HE : FT = g111b_X5_advance (xso SC ad ws_511) v_529.toInt := HE.trans (by rw [e_530, (xg0 e_526 : v_525.toInt = (xso SC ad ws_511) 0 77 5), (xg0 e_521 : v_520.toInt = (xso SC ad ws_511) 0 77 6)]; rfl)
                            refine y_icmp_le (tgt := 308) C0 dX5_advance_236 (by decide) (fun c_533 => ?_) (fun c_533 => ?_)
                            · -- 236
                              replace HE : FT = g112_X5_advance (xso SC ad ws_511) := HE.trans (if_neg (o22_69 b_474 b_475 hn_471 e_478 e_479 qh_480 e_483 e_484 c_485 e_508 e_509 qh_510 e_522 e_523 qh_524 e_527 e_528 e_530 e_532 c_533))
                              replace HE : FT = ((xso SC ad ws_511), 0) := HE.trans rfl
                              rw [hQ]
                              exact y_vret C0 h (Fr.tr (Fr.tr (Fr.tr (Fr.tr (Fr.tr (Fr.tr (Fr.tr (Fr.tr (Fr.up u_11.1 kSC_77 (by decide)) hF_13) (Fr.up u_354.1 kSC_77 (by decide))) (Fr.mono u_372 (by decide))) (Fr.mono u_386 (by decide))) (Fr.up u_461.1 kSC_77 (by decide))) (Fr.up u_465.1 kSC_77 (by decide))) hF_467) (Fr.mono u_512 (by decide))) (congrArg Prod.fst (HE.symm.trans hFT)) dX5_advance_308
                            · -- 236
                              replace HE : FT = g113_X5_advance (xso SC ad ws_511) := HE.trans (if_pos (o22_70 b_474 b_475 hn_471 e_478 e_479 qh_480 e_483 e_484 c_485 e_508 e_509 qh_510 e_522 e_523 qh_524 e_527 e_528 e_530 e_532 c_533))
                              refine lv_aload_n C0.1 C0.2.1 dX5_advance_239 rfl (lv_at hl 0 rfl) ?_
                              refine y_c1 (n := 1) C0 (by decide) dX5_advance_240 (fun v_534 e_535 => ?_)
                              refine y_cv h (y_rV (As := [.int v_534]) (rest := []) C0 hZ h (c_X5_fail l G Z ad _ h.2 v_534) k_X5_fail q_628 q_3 q_626 kSC_77 rfl rfl rfl hl.1 rfl rfl (Nat.le_of_ble_eq_true rfl) dX5_advance_241 ⟨Nat.le_of_ble_eq_true rfl, Nat.le_of_ble_eq_true rfl⟩ ⟨Nat.le_of_ble_eq_true rfl, Nat.le_of_ble_eq_true rfl⟩) (fun H locs ws_536 h u_537 p_538 => ?_)
                              have e_539 := p_538
                              replace HE : FT = g114c_X5_advance (xso SC ad ws_536) := HE.trans (by rw [e_539, e_535]; rfl)
                              refine lv_goto (tgt := 308) C0.1 C0.2.1 dX5_advance_244 (by decide) ?_
                              replace HE : FT = ((xso SC ad ws_536), 0) := HE.trans rfl
                              rw [hQ]
                              exact y_vret C0 h (Fr.tr (Fr.tr (Fr.tr (Fr.tr (Fr.tr (Fr.tr (Fr.tr (Fr.tr (Fr.tr (Fr.up u_11.1 kSC_77 (by decide)) hF_13) (Fr.up u_354.1 kSC_77 (by decide))) (Fr.mono u_372 (by decide))) (Fr.mono u_386 (by decide))) (Fr.up u_461.1 kSC_77 (by decide))) (Fr.up u_465.1 kSC_77 (by decide))) hF_467) (Fr.mono u_512 (by decide))) u_537) (congrArg Prod.fst (HE.symm.trans hFT)) dX5_advance_308
                          · -- 186
                            replace HE : FT = g110_X5_advance R167 (xso SC ad ws_511) := HE.trans (if_neg c_519)
                            refine lv_aload_n C0.1 C0.2.1 dX5_advance_189 rfl (lv_at hl 0 rfl) ?_
                            refine lv_aload_n C0.1 C0.2.1 dX5_advance_190 rfl (lv_at hl 0 rfl) ?_
                            refine tg_X5_number C0 h kSC_77 q_377 dX5_advance_191 (fun v_540 e_541 e_542 e_543 => ?_)
                            refine y_c2 (n := 10) C0 (by decide) dX5_advance_194 (fun v_544 e_545 => ?_)
                            refine xr_imul C0 dX5_advance_196 (fun v_546 e_547 => ?_)
                            refine lv_aload_n C0.1 C0.2.1 dX5_advance_197 rfl (lv_at hl 0 rfl) ?_
                            refine tg_X5_tape C0 h kSC_77 q_371 dX5_advance_198 ?_
                            refine lv_aload_n C0.1 C0.2.1 dX5_advance_201 rfl (lv_at hl 0 rfl) ?_
                            refine tg_X5_end C0 h kSC_77 q_376 dX5_advance_202 (fun v_548 e_549 e_550 e_551 => ?_)
                            have qh_552 : v_548.toInt = f_472.toInt := congrArg Int32.toInt (e_549.symm.trans (Eq.trans (Fr.fI u_512 kSC_77 (by decide)) e_473))
                            refine y_bald C0 h kSC_78 rfl (by decide) (o22_71 b_474 b_475 hn_471 e_478 e_479 qh_480 e_483 e_484 c_485 e_508 e_509 qh_510 e_550 e_551 qh_552) (o22_72 b_474 b_475 hn_471 e_478 e_479 qh_480 e_483 e_484 c_485 e_508 e_509 qh_510 e_550 e_551 qh_552) dX5_advance_205 (fun v_553 e_554 e_555 e_556 => ?_)
                            refine xr_iadd C0 dX5_advance_206 (fun v_557 e_558 => ?_)
                            refine y_c2 (n := 48) C0 (by decide) dX5_advance_207 (fun v_559 e_560 => ?_)
                            refine xr_isub C0 dX5_advance_209 (fun v_561 e_562 => ?_)
                            refine tp_X5_number C0 h kSC_77 q_377 (le_min v_561) (le_max v_561) dX5_advance_210 (fun H locs ws_563 h u_564 Xu_564 => ?_)
                            replace HE : FT = g115w_X5_advance R167 (xso SC ad ws_563) := HE.trans (by rw [Xu_564, e_562, e_560, e_558, (xg1 e_554 : v_553.toInt = (xso SC ad ws_511) 1 78 v_548.toInt.toNat), (xg0 e_549 : v_548.toInt = (xso SC ad ws_511) 0 77 6), e_547, e_545, (xg0 e_541 : v_540.toInt = (xso SC ad ws_511) 0 77 7)]; rfl)
                            refine lv_aload_n C0.1 C0.2.1 dX5_advance_213 rfl (lv_at hl 0 rfl) ?_
                            refine lv_dup C0.1 C0.2.1 dX5_advance_214 rfl ?_
                            refine tg_X5_end C0 h kSC_77 q_376 dX5_advance_215 (fun v_565 e_566 e_567 e_568 => ?_)
                            have qh_569 : v_565.toInt = f_472.toInt := congrArg Int32.toInt (e_566.symm.trans (Eq.trans (Eq.trans (u_564.2.2 6 (by decide)) (Fr.fI u_512 kSC_77 (by decide))) e_473))
                            refine y_c1 (n := 1) C0 (by decide) dX5_advance_218 (fun v_570 e_571 => ?_)
                            refine y_add C0 (o22_73 b_474 b_475 hn_471 e_478 e_479 qh_480 e_483 e_484 c_485 e_508 e_509 qh_510 e_550 e_551 qh_552 e_567 e_568 qh_569 e_571 (le_min v_565) (le_max v_565) (le_min v_570) (le_max v_570) (le_min f_472) (le_max f_472) (le_min v_476) (le_max v_476) (le_min v_481) (le_max v_481) (le_min v_506) (le_max v_506) (le_min v_548) (le_max v_548)) (o22_74 b_474 b_475 hn_471 e_478 e_479 qh_480 e_483 e_484 c_485 e_508 e_509 qh_510 e_550 e_551 qh_552 e_567 e_568 qh_569 e_571 (le_min v_565) (le_max v_565) (le_min v_570) (le_max v_570) (le_min f_472) (le_max f_472) (le_min v_476) (le_max v_476) (le_min v_481) (le_max v_481) (le_min v_506) (le_max v_506) (le_min v_548) (le_max v_548)) dX5_advance_219 (fun v_572 e_573 => ?_)
                            refine tp_X5_end C0 h kSC_77 q_376 (o22_75 b_474 b_475 hn_471 e_478 e_479 qh_480 e_483 e_484 c_485 e_508 e_509 qh_510 e_550 e_551 qh_552 e_567 e_568 qh_569 e_571 e_573) (o22_76 b_474 b_475 hn_471 e_478 e_479 qh_480 e_483 e_484 c_485 e_508 e_509 qh_510 e_550 e_551 qh_552 e_567 e_568 qh_569 e_571 e_573) dX5_advance_220 (fun H locs ws_574 h u_575 Xu_575 => ?_)
                            replace HE : FT = g116w_X5_advance R167 (xso SC ad ws_574) := HE.trans (by rw [Xu_575, e_573, e_571, (xg0 e_566 : v_565.toInt = (xso SC ad ws_563) 0 77 6)]; rfl)
                            refine lv_goto (tgt := 167) C0.1 C0.2.1 dX5_advance_223 (by decide) ?_
                            exact ih_469 v_572 _ _ _ _ (o22_77 b_474 b_475 hn_471 e_478 e_479 qh_480 e_483 e_484 c_485 e_508 e_509 qh_510 e_550 e_551 qh_552 e_567 e_568 qh_569 e_571 e_573) (o22_75 b_474 b_475 hn_471 e_478 e_479 qh_480 e_483 e_484 c_485 e_508 e_509 qh_510 e_550 e_551 qh_552 e_567 e_568 qh_569 e_571 e_573) (o22_76 b_474 b_475 hn_471 e_478 e_479 qh_480 e_483 e_484 c_485 e_508 e_509 qh_510 e_550 e_551 qh_552 e_567 e_568 qh_569 e_571 e_573) (((show FT = R167 (xso SC ad ws_574) from HE.trans rfl).trans (by rw [hR167]))) (Eq.trans rfl u_575.2.1) h (Fr.tr (Fr.tr (Fr.tr hF_467 (Fr.mono u_512 (by decide))) (Fr.up u_564.1 kSC_77 (by decide))) (Fr.up u_575.1 kSC_77 (by decide))) (lv_sub hl [0] rfl)
                    exact lp_468 ((900 - v_348.toInt + 1).toNat) v_348 _ _ _ _ (o22_112 b_20 b_21 hn_17 e_24 e_25 qh_26 e_29 e_30 c_31 e_315 e_316 qh_317 e_338 e_339 qh_340 e_350 e_351 qh_352 e_357 e_358 qh_359 e_362 e_363 qh_364 c_365 e_368 e_369 qh_370 e_382 e_383 qh_384) (o22_113 b_20 b_21 hn_17 e_24 e_25 qh_26 e_29 e_30 c_31 e_315 e_316 qh_317 e_338 e_339 qh_340 e_350 e_351 qh_352 e_357 e_358 qh_359 e_362 e_363 qh_364 c_365 e_368 e_369 qh_370 e_382 e_383 qh_384) (o22_114 b_20 b_21 hn_17 e_24 e_25 qh_26 e_29 e_30 c_31 e_315 e_316 qh_317 e_338 e_339 qh_340 e_350 e_351 qh_352 e_357 e_358 qh_359 e_362 e_363 qh_364 c_365 e_368 e_369 qh_370 e_382 e_383 qh_384) ((show FT = L98_X5_advance (Int.toNat (900 - v_348.toInt + 1)) (xso SC ad ws_464) from HE.trans (by rw [(xg0 ((Eq.trans (Eq.trans (u_465.2.2 6 (by decide)) (Eq.trans (u_461.2.2 6 (by decide)) (Eq.trans (Fr.fI u_386 kSC_77 (by decide)) (Fr.fI u_372 kSC_77 (by decide))))) u_354.2.1)) : v_348.toInt = (xso SC ad ws_464) 0 77 6)]; rfl))) (Eq.trans (Eq.trans (u_465.2.2 6 (by decide)) (Eq.trans (u_461.2.2 6 (by decide)) (Eq.trans (Fr.fI u_386 kSC_77 (by decide)) (Fr.fI u_372 kSC_77 (by decide))))) u_354.2.1) h Fr.rf (lv_sub hl [0] rfl)
                · -- 103
                  replace HE : FT = g80_X5_advance (xso SC ad ws_371) := HE.trans (if_neg c_379)
                  refine lv_aload_n C0.1 C0.2.1 dX5_advance_106 rfl (lv_at hl 0 rfl) ?_
                  refine y_c1 (n := 1) C0 (by decide) dX5_advance_107 (fun v_576 e_577 => ?_)
                  refine tp_X5_kind C0 h kSC_77 q_374 (le_min v_576) (le_max v_576) dX5_advance_108 (fun H locs ws_578 h u_579 Xu_579 => ?_)
                  replace HE : FT = g117w_X5_advance (xso SC ad ws_578) := HE.trans (by rw [Xu_579, e_577]; rfl)
                  have lp_582 : ∀ (n_584 : Nat) (f_586 : Int32) (H : Heap) (locs : List Loc) (ls : Array Slot) (ws_580 : va_W), 900 - f_586.toInt < (n_584 : Int) → 0 ≤ f_586.toInt → f_586.toInt ≤ 900 → (FT = L118_X5_advance n_584 (xso SC ad ws_580)) → fI ws_580 77 6 = f_586 → Wt G SC ad A s H locs ws_580 → Fr SC [16] ws_578 ws_580 → lv_has ls 1 [(0, .ref (ad 77))] → W p l e (rmd 5 0 0) s m args below meth c H locs 0 0 Q (F0 m 111 ls []) := by
                    intro n_584
                    induction n_584 with
                    | zero => intro f_586 H locs ls ws_580 hn_585 b_588 b_589 HE e_587 h hF_581 hl; exact ((o22_43 b_588 b_589 hn_585)).elim
                    | succ n_584 ih_583 =>
                      intro f_586 H locs ls ws_580 hn_585 b_588 b_589 HE e_587 h hF_581 hl
                      obtain ⟨R111, hR111⟩ : ∃ z, z = L118_X5_advance n_584 := ⟨_, rfl⟩
                      replace HE : FT = g119l_X5_advance R111 (xso SC ad ws_580) := HE.trans (by rw [hR111]; rfl)
                      refine lv_aload_n C0.1 C0.2.1 dX5_advance_111 rfl (lv_at hl 0 rfl) ?_
                      refine tg_X5_end C0 h kSC_77 q_376 dX5_advance_112 (fun v_590 e_591 e_592 e_593 => ?_)
                      have qh_594 : v_590.toInt = f_586.toInt := congrArg Int32.toInt (e_591.symm.trans (Eq.trans rfl e_587))
                      refine lv_aload_n C0.1 C0.2.1 dX5_advance_115 rfl (lv_at hl 0 rfl) ?_
                      refine tg_X5_length C0 h kSC_77 q_373 dX5_advance_116 (fun v_595 e_596 e_597 e_598 => ?_)
                      replace HE : FT = g120b_X5_advance R111 (xso SC ad ws_580) v_595.toInt v_590.toInt := HE.trans (by rw [(xg0 e_591 : v_590.toInt = (xso SC ad ws_580) 0 77 6), (xg0 e_596 : v_595.toInt = (xso SC ad ws_580) 0 77 3)]; rfl)
                      refine y_icmp_ge (tgt := 308) C0 dX5_advance_119 (by decide) (fun c_599 => ?_) (fun c_599 => ?_)
                      · -- 119
                        replace HE : FT = g121_X5_advance (xso SC ad ws_580) := HE.trans (if_neg (Int.not_lt.mpr c_599))
                        replace HE : FT = ((xso SC ad ws_580), 0) := HE.trans rfl
                        rw [hQ]
                        exact y_vret C0 h (Fr.tr (Fr.tr (Fr.tr (Fr.tr (Fr.tr (Fr.up u_11.1 kSC_77 (by decide)) hF_13) (Fr.up u_354.1 kSC_77 (by decide))) (Fr.mono u_372 (by decide))) (Fr.up u_579.1 kSC_77 (by decide))) hF_581) (congrArg Prod.fst (HE.symm.trans hFT)) dX5_advance_308
                      · -- 119
                        replace HE : FT = g122_X5_advance R111 (xso SC ad ws_580) := HE.trans (if_pos c_599)
                        refine lv_aload_n C0.1 C0.2.1 dX5_advance_122 rfl (lv_at hl 0 rfl) ?_
                        refine lv_aload_n C0.1 C0.2.1 dX5_advance_123 rfl (lv_at hl 0 rfl) ?_
                        refine tg_X5_end C0 h kSC_77 q_376 dX5_advance_124 (fun v_600 e_601 e_602 e_603 => ?_)
                        have qh_604 : v_600.toInt = f_586.toInt := congrArg Int32.toInt (e_601.symm.trans (Eq.trans rfl e_587))
                        refine y_ci h (y_rV (As := [.int v_600]) (rest := []) C0 hZ h (c_X5_isSmall l G Z ad _ h.2 v_600 (o22_65 b_588 b_589 hn_585 e_592 e_593 qh_594 e_597 e_598 c_599 e_602 e_603 qh_604) (o22_66 b_588 b_589 hn_585 e_592 e_593 qh_594 e_597 e_598 c_599 e_602 e_603 qh_604)) k_X5_isSmall q_620 q_1 q_618 kSC_77 rfl rfl rfl hl.1 rfl rfl (Nat.le_of_ble_eq_true rfl) dX5_advance_127 ⟨Nat.le_of_ble_eq_true rfl, Nat.le_of_ble_eq_true rfl⟩ ⟨Nat.le_of_ble_eq_true rfl, Nat.le_of_ble_eq_true rfl⟩) (fun r_608 H locs ws_605 h u_606 p_607 => ?_)
                        obtain ⟨e_609, e_610, e_611, e_612⟩ := p_607
                        replace HE : FT = g123c_X5_advance R111 (xso SC ad ws_605) r_608.toInt := HE.trans (by rw [e_609, e_610, (xg0 e_601 : v_600.toInt = (xso SC ad ws_580) 0 77 6)]; rfl)
                        replace HE : FT = g124b_X5_advance R111 (xso SC ad ws_605) r_608.toInt := HE.trans rfl
                        refine y_if_eq (tgt := 308) C0 dX5_advance_130 (by decide) (fun c_613 => ?_) (fun c_613 => ?_)
                        · -- 130
                          replace HE : FT = g125_X5_advance (xso SC ad ws_605) := HE.trans (if_pos c_613)
                          replace HE : FT = ((xso SC ad ws_605), 0) := HE.trans rfl
                          rw [hQ]
                          exact y_vret C0 h (Fr.tr (Fr.tr (Fr.tr (Fr.tr (Fr.tr (Fr.tr (Fr.up u_11.1 kSC_77 (by decide)) hF_13) (Fr.up u_354.1 kSC_77 (by decide))) (Fr.mono u_372 (by decide))) (Fr.up u_579.1 kSC_77 (by decide))) hF_581) (Fr.mono u_606 (by decide))) (congrArg Prod.fst (HE.symm.trans hFT)) dX5_advance_308
                        · -- 130
                          replace HE : FT = g126_X5_advance R111 (xso SC ad ws_605) := HE.trans (if_neg c_613)
                          refine lv_aload_n C0.1 C0.2.1 dX5_advance_133 rfl (lv_at hl 0 rfl) ?_
                          refine lv_dup C0.1 C0.2.1 dX5_advance_134 rfl ?_
                          refine tg_X5_end C0 h kSC_77 q_376 dX5_advance_135 (fun v_614 e_615 e_616 e_617 => ?_)
                          have qh_618 : v_614.toInt = f_586.toInt := congrArg Int32.toInt (e_615.symm.trans (Eq.trans (Fr.fI u_606 kSC_77 (by decide)) e_587))
                          refine y_c1 (n := 1) C0 (by decide) dX5_advance_138 (fun v_619 e_620 => ?_)
                          refine y_add C0 (o22_81 b_588 b_589 hn_585 e_592 e_593 qh_594 e_597 e_598 c_599 e_602 e_603 qh_604 e_616 e_617 qh_618 e_620 (le_min v_614) (le_max v_614) (le_min v_619) (le_max v_619) (le_min f_586) (le_max f_586) (le_min v_590) (le_max v_590) (le_min v_595) (le_max v_595) (le_min v_600) (le_max v_600)) (o22_82 b_588 b_589 hn_585 e_592 e_593 qh_594 e_597 e_598 c_599 e_602 e_603 qh_604 e_616 e_617 qh_618 e_620 (le_min v_614) (le_max v_614) (le_min v_619) (le_max v_619) (le_min f_586) (le_max f_586) (le_min v_590) (le_max v_590) (le_min v_595) (le_max v_595) (le_min v_600) (le_max v_600)) dX5_advance_139 (fun v_621 e_622 => ?_)
                          refine tp_X5_end C0 h kSC_77 q_376 (o22_83 b_588 b_589 hn_585 e_592 e_593 qh_594 e_597 e_598 c_599 e_602 e_603 qh_604 e_616 e_617 qh_618 e_620 e_622) (o22_84 b_588 b_589 hn_585 e_592 e_593 qh_594 e_597 e_598 c_599 e_602 e_603 qh_604 e_616 e_617 qh_618 e_620 e_622) dX5_advance_140 (fun H locs ws_623 h u_624 Xu_624 => ?_)
                          replace HE : FT = g127w_X5_advance R111 (xso SC ad ws_623) := HE.trans (by rw [Xu_624, e_622, e_620, (xg0 e_615 : v_614.toInt = (xso SC ad ws_605) 0 77 6)]; rfl)
                          refine lv_goto (tgt := 111) C0.1 C0.2.1 dX5_advance_143 (by decide) ?_
                          exact ih_583 v_621 _ _ _ _ (o22_85 b_588 b_589 hn_585 e_592 e_593 qh_594 e_597 e_598 c_599 e_602 e_603 qh_604 e_616 e_617 qh_618 e_620 e_622) (o22_83 b_588 b_589 hn_585 e_592 e_593 qh_594 e_597 e_598 c_599 e_602 e_603 qh_604 e_616 e_617 qh_618 e_620 e_622) (o22_84 b_588 b_589 hn_585 e_592 e_593 qh_594 e_597 e_598 c_599 e_602 e_603 qh_604 e_616 e_617 qh_618 e_620 e_622) (((show FT = R111 (xso SC ad ws_623) from HE.trans rfl).trans (by rw [hR111]))) (Eq.trans rfl u_624.2.1) h (Fr.tr (Fr.tr hF_581 (Fr.mono u_606 (by decide))) (Fr.up u_624.1 kSC_77 (by decide))) (lv_sub hl [0] rfl)
                  exact lp_582 ((900 - v_348.toInt + 1).toNat) v_348 _ _ _ _ (o22_115 b_20 b_21 hn_17 e_24 e_25 qh_26 e_29 e_30 c_31 e_315 e_316 qh_317 e_338 e_339 qh_340 e_350 e_351 qh_352 e_357 e_358 qh_359 e_362 e_363 qh_364 c_365 e_368 e_369 qh_370) (o22_116 b_20 b_21 hn_17 e_24 e_25 qh_26 e_29 e_30 c_31 e_315 e_316 qh_317 e_338 e_339 qh_340 e_350 e_351 qh_352 e_357 e_358 qh_359 e_362 e_363 qh_364 c_365 e_368 e_369 qh_370) (o22_117 b_20 b_21 hn_17 e_24 e_25 qh_26 e_29 e_30 c_31 e_315 e_316 qh_317 e_338 e_339 qh_340 e_350 e_351 qh_352 e_357 e_358 qh_359 e_362 e_363 qh_364 c_365 e_368 e_369 qh_370) ((show FT = L118_X5_advance (Int.toNat (900 - v_348.toInt + 1)) (xso SC ad ws_578) from HE.trans (by rw [(xg0 ((Eq.trans (Eq.trans (u_579.2.2 6 (by decide)) (Fr.fI u_372 kSC_77 (by decide))) u_354.2.1)) : v_348.toInt = (xso SC ad ws_578) 0 77 6)]; rfl))) (Eq.trans (Eq.trans (u_579.2.2 6 (by decide)) (Fr.fI u_372 kSC_77 (by decide))) u_354.2.1) h Fr.rf (lv_sub hl [0] rfl)
              · -- 84
                replace HE : FT = g76_X5_advance (xso SC ad ws_353) := HE.trans (if_neg (Int.not_lt.mpr c_365))
                refine lv_aload_n C0.1 C0.2.1 dX5_advance_87 rfl (lv_at hl 0 rfl) ?_
                refine y_c1 (n := 0) C0 (by decide) dX5_advance_88 (fun v_625 e_626 => ?_)
                refine tp_X5_kind C0 h kSC_77 q_374 (le_min v_625) (le_max v_625) dX5_advance_89 (fun H locs ws_627 h u_628 Xu_628 => ?_)
                replace HE : FT = g128w_X5_advance (xso SC ad ws_627) := HE.trans (by rw [Xu_628, e_626]; rfl)
                refine lv_goto (tgt := 308) C0.1 C0.2.1 dX5_advance_92 (by decide) ?_
                replace HE : FT = ((xso SC ad ws_627), 0) := HE.trans rfl
                rw [hQ]
                exact y_vret C0 h (Fr.tr (Fr.tr (Fr.tr (Fr.up u_11.1 kSC_77 (by decide)) hF_13) (Fr.up u_354.1 kSC_77 (by decide))) (Fr.up u_628.1 kSC_77 (by decide))) (congrArg Prod.fst (HE.symm.trans hFT)) dX5_advance_308
            · -- 52
              replace HE : FT = g72_X5_advance R16 (xso SC ad ws_12) := HE.trans (if_pos (o22_95 e_343 e_344 e_346 c_347))
              refine lv_aload_n C0.1 C0.2.1 dX5_advance_55 rfl (lv_at hl 0 rfl) ?_
              refine lv_dup C0.1 C0.2.1 dX5_advance_56 rfl ?_
              refine tg_X5_start C0 h kSC_77 q_375 dX5_advance_57 (fun v_629 e_630 e_631 e_632 => ?_)
              have qh_633 : v_629.toInt = f_18.toInt := congrArg Int32.toInt (e_630.symm.trans (Eq.trans rfl e_19))
              refine y_c1 (n := 1) C0 (by decide) dX5_advance_60 (fun v_634 e_635 => ?_)
              refine y_add C0 (o22_73 b_20 b_21 hn_17 e_24 e_25 qh_26 e_29 e_30 c_31 e_315 e_316 qh_317 e_338 e_339 qh_340 e_631 e_632 qh_633 e_635 (le_min v_629) (le_max v_629) (le_min v_634) (le_max v_634) (le_min f_18) (le_max f_18) (le_min v_22) (le_max v_22) (le_min v_27) (le_max v_27) (le_min v_313) (le_max v_313) (le_min v_336) (le_max v_336)) (o22_74 b_20 b_21 hn_17 e_24 e_25 qh_26 e_29 e_30 c_31 e_315 e_316 qh_317 e_338 e_339 qh_340 e_631 e_632 qh_633 e_635 (le_min v_629) (le_max v_629) (le_min v_634) (le_max v_634) (le_min f_18) (le_max f_18) (le_min v_22) (le_max v_22) (le_min v_27) (le_max v_27) (le_min v_313) (le_max v_313) (le_min v_336) (le_max v_336)) dX5_advance_61 (fun v_636 e_637 => ?_)
              refine tp_X5_start C0 h kSC_77 q_375 (o22_75 b_20 b_21 hn_17 e_24 e_25 qh_26 e_29 e_30 c_31 e_315 e_316 qh_317 e_338 e_339 qh_340 e_631 e_632 qh_633 e_635 e_637) (o22_76 b_20 b_21 hn_17 e_24 e_25 qh_26 e_29 e_30 c_31 e_315 e_316 qh_317 e_338 e_339 qh_340 e_631 e_632 qh_633 e_635 e_637) dX5_advance_62 (fun H locs ws_638 h u_639 Xu_639 => ?_)
              replace HE : FT = g129w_X5_advance R16 (xso SC ad ws_638) := HE.trans (by rw [Xu_639, e_637, e_635, (xg0 e_630 : v_629.toInt = (xso SC ad ws_12) 0 77 5)]; rfl)
              refine lv_goto (tgt := 16) C0.1 C0.2.1 dX5_advance_65 (by decide) ?_
              exact ih_15 v_636 _ _ _ _ (o22_77 b_20 b_21 hn_17 e_24 e_25 qh_26 e_29 e_30 c_31 e_315 e_316 qh_317 e_338 e_339 qh_340 e_631 e_632 qh_633 e_635 e_637) (o22_75 b_20 b_21 hn_17 e_24 e_25 qh_26 e_29 e_30 c_31 e_315 e_316 qh_317 e_338 e_339 qh_340 e_631 e_632 qh_633 e_635 e_637) (o22_76 b_20 b_21 hn_17 e_24 e_25 qh_26 e_29 e_30 c_31 e_315 e_316 qh_317 e_338 e_339 qh_340 e_631 e_632 qh_633 e_635 e_637) (((show FT = R16 (xso SC ad ws_638) from HE.trans rfl).trans (by rw [hR16]))) (Eq.trans rfl u_639.2.1) h (Fr.tr hF_13 (Fr.up u_639.1 kSC_77 (by decide))) (lv_sub hl [0] rfl)
    exact lp_14 ((900 - v_6.toInt + 1).toNat) v_6 _ _ _ _ (o22_118 e_8 e_9) (o22_10 e_8 e_9) (o22_11 e_8 e_9) ((show FT = L5_X5_advance (Int.toNat (900 - v_6.toInt + 1)) (xso SC ad ws_10) from HE.trans (by rw [(xg0 ((Eq.trans rfl u_11.2.1)) : v_6.toInt = (xso SC ad ws_10) 0 77 5)]; rfl))) (Eq.trans rfl u_11.2.1) h Fr.rf (lv_sub hl [0] rfl)
  · -- 4
    replace HE : FT = g3_X5_advance (xso SC ad ws0) := HE.trans (if_neg c_5)
    replace HE : FT = ((xso SC ad ws0), 0) := HE.trans rfl
    rw [hQ]
    exact y_vret C0 h Fr.rf (congrArg Prod.fst (HE.symm.trans hFT)) dX5_advance_7
noncomputable def g2_X5_isWord (s : XS) : XR := (s, 0)
noncomputable def g12_X5_isWord (s : XS) : XR := (s, 1)
noncomputable def g16_X5_isWord (R28 : XS → Nat → Int → XR) (s : XS) (k1 : Nat) (x2_32 : Int) : XR := R28 s k1 ((x2_32 + 1))
noncomputable def g17_X5_isWord (s : XS) : XR := (s, 0)
noncomputable def g15b_X5_isWord (R28 : XS → Nat → Int → XR) (s : XS) (r_67 : Int) (v_60 : Int) (k1 : Nat) (x2_32 : Int) : XR := if v_60 = r_67 then g16_X5_isWord R28 s k1 x2_32 else g17_X5_isWord s
noncomputable def g14c_X5_isWord (R28 : XS → Nat → Int → XR) (s : XS) (r_67 : Int) (v_60 : Int) (k1 : Nat) (x2_32 : Int) : XR := g15b_X5_isWord R28 s r_67 v_60 k1 x2_32
noncomputable def g13_X5_isWord (R28 : XS → Nat → Int → XR) (s : XS) (k1 : Nat) (x2_32 : Int) : XR := g14c_X5_isWord R28 ((f_J0_charAt_5068e s k1 x2_32).1) (((f_J0_charAt_5068e s k1 x2_32).2)) ((s 1 78 (Int.toNat ((s 0 77 5) + x2_32)))) k1 x2_32
noncomputable def g11b_X5_isWord (R28 : XS → Nat → Int → XR) (s : XS) (r_44 : Int) (x2_32 : Int) (k1 : Nat) : XR := if x2_32 < r_44 then g13_X5_isWord R28 s k1 x2_32 else g12_X5_isWord s
noncomputable def g10c_X5_isWord (R28 : XS → Nat → Int → XR) (s : XS) (r_44 : Int) (x2_32 : Int) (k1 : Nat) : XR := g11b_X5_isWord R28 s r_44 x2_32 k1
noncomputable def g9l_X5_isWord (R28 : XS → Nat → Int → XR) (s : XS) (k1 : Nat) (x2_32 : Int) : XR := g10c_X5_isWord R28 ((f_J0_length_8abf5 s k1).1) (((f_J0_length_8abf5 s k1).2)) x2_32 k1
noncomputable def L8_X5_isWord (n : Nat) : XS → Nat → Int → XR := Nat.rec (motive := fun _ => XS → Nat → Int → XR) (fun s _ _ => (s, 0)) (fun _ R28 => g9l_X5_isWord R28) n
noncomputable def g6_X5_isWord (s : XS) (k1 : Nat) : XR := L8_X5_isWord (Int.toNat (102 - 0 + 1)) s k1 0
noncomputable def g7_X5_isWord (s : XS) : XR := (s, 0)
noncomputable def g5b_X5_isWord (s : XS) (r_23 : Int) (v_18 : Int) (k1 : Nat) : XR := if v_18 = r_23 then g6_X5_isWord s k1 else g7_X5_isWord s
noncomputable def g4c_X5_isWord (s : XS) (r_23 : Int) (v_18 : Int) (k1 : Nat) : XR := g5b_X5_isWord s r_23 v_18 k1
noncomputable def g3_X5_isWord (s : XS) (k1 : Nat) : XR := g4c_X5_isWord ((f_J0_length_8abf5 s k1).1) (((f_J0_length_8abf5 s k1).2)) (((s 0 77 6) - (s 0 77 5))) k1
noncomputable def g1b_X5_isWord (s : XS) (v_1 : Int) (k1 : Nat) : XR := if v_1 = 1 then g3_X5_isWord s k1 else g2_X5_isWord s
noncomputable def f_X5_isWord (s : XS) (k1 : Nat) : XR := g1b_X5_isWord s ((s 0 77 4)) k1
set_option maxHeartbeats 4000000 in
set_option maxRecDepth 100000 in
theorem c_X5_isWord (l : Launch) (G : GG) (Z : RZ) (ad : Nat → Nat) (ws0 : va_W) (hT : Ty G SC ad ws0) (k1 : Nat) (hsk1 : k1 < 23) : Mq l yX5_isWord cX5_isWord 3 (some .boolean) 5 G Z [.ref (ad 77), .ref (Z.2.1 k1)] ws0 (PI G SC ad [] ws0 (fun r u => (xso SC ad u = (f_X5_isWord (xso SC ad ws0) k1).1) ∧ (r.toInt = (f_X5_isWord (xso SC ad ws0) k1).2) ∧ (0 ≤ r.toInt) ∧ (r.toInt ≤ 1))) := by
  refine Mq.start (by decide) (Nat.le_of_ble_eq_true rfl) ?_
  intro p e s m below meth c A ls C0 hZ h hl
  have hl : lv_has ls 3 [(0, .ref (ad 77)), (1, .ref (Z.2.1 k1))] := hl
  have h : Wt G SC ad A s s.heap [] ws0 := ⟨h, hT⟩
  obtain ⟨args, hargs⟩ : ∃ z, z = ([.ref (ad 77), .ref (Z.2.1 k1)] : List Value).toArray := ⟨_, rfl⟩
  rw [← hargs] at C0 ⊢
  have C0 : Cx p s m args meth c RX5 cX5_isWord 3 (some .boolean) := C0
  obtain ⟨Q, hQ⟩ : ∃ z, z = MQ below ((PI G SC ad [] ws0 (fun r u => (xso SC ad u = (f_X5_isWord (xso SC ad ws0) k1).1) ∧ (r.toInt = (f_X5_isWord (xso SC ad ws0) k1).2) ∧ (0 ≤ r.toInt) ∧ (r.toInt ≤ 1))) A) args s 0 0 A := ⟨_, rfl⟩
  rw [← hQ]
  obtain ⟨FT, hFT⟩ : ∃ z, z = f_X5_isWord (xso SC ad ws0) k1 := ⟨_, rfl⟩
  have HE : FT = f_X5_isWord (xso SC ad ws0) k1 := hFT
  refine lv_aload_n C0.1 C0.2.1 dX5_isWord_0 rfl (lv_at hl 0 rfl) ?_
  refine tg_X5_kind C0 h kSC_77 q_374 dX5_isWord_1 (fun v_1 e_2 e_3 e_4 => ?_)
  refine y_c1 (n := 1) C0 (by decide) dX5_isWord_4 (fun v_5 e_6 => ?_)
  replace HE : FT = g1b_X5_isWord (xso SC ad ws0) v_1.toInt k1 := HE.trans (by rw [(xg0 e_2 : v_1.toInt = (xso SC ad ws0) 0 77 4)]; rfl)
  refine y_icmp_ne (tgt := 24) C0 dX5_isWord_5 (by decide) (fun c_7 => ?_) (fun c_7 => ?_)
  · -- 5
    replace HE : FT = g2_X5_isWord (xso SC ad ws0) := HE.trans (if_neg (o22_120 e_6 c_7))
    refine y_c1 (n := 0) C0 (by decide) dX5_isWord_24 (fun v_8 e_9 => ?_)
    replace HE : FT = ((xso SC ad ws0), v_8.toInt) := HE.trans (by rw [e_9]; rfl)
    rw [hQ]
    exact y_zret C0 h (o22_6 e_9) (o22_7 e_9) Fr.rf ⟨(congrArg Prod.fst (HE.symm.trans hFT)), (congrArg Prod.snd (HE.symm.trans hFT)), (o22_6 e_9), (o22_7 e_9)⟩ dX5_isWord_25
  · -- 5
    replace HE : FT = g3_X5_isWord (xso SC ad ws0) k1 := HE.trans (if_pos (o22_121 e_6 c_7))
    refine lv_aload_n C0.1 C0.2.1 dX5_isWord_8 rfl (lv_at hl 0 rfl) ?_
    refine tg_X5_end C0 h kSC_77 q_376 dX5_isWord_9 (fun v_10 e_11 e_12 e_13 => ?_)
    refine lv_aload_n C0.1 C0.2.1 dX5_isWord_12 rfl (lv_at hl 0 rfl) ?_
    refine tg_X5_start C0 h kSC_77 q_375 dX5_isWord_13 (fun v_14 e_15 e_16 e_17 => ?_)
    refine y_sub C0 (o22_122 e_12 e_13 e_16 e_17 (le_min v_10) (le_max v_10) (le_min v_14) (le_max v_14)) (o22_123 e_12 e_13 e_16 e_17 (le_min v_10) (le_max v_10) (le_min v_14) (le_max v_14)) dX5_isWord_16 (fun v_18 e_19 => ?_)
    refine lv_aload_n C0.1 C0.2.1 dX5_isWord_17 rfl (lv_at hl 1 rfl) ?_
    refine y_ci h (y_rT (As := []) (rest := [.int v_18]) C0 hZ h (c_J0_length_8abf5 l G Z ad _ h.2 k1 hsk1) k_J0_length_8abf5 q_646 q_647 q_726 hsk1 rfl hl.1 rfl rfl (Nat.le_of_ble_eq_true rfl) dX5_isWord_18 ⟨Nat.le_of_ble_eq_true rfl, Nat.le_of_ble_eq_true rfl⟩ ⟨Nat.le_of_ble_eq_true rfl, Nat.le_of_ble_eq_true rfl⟩) (fun r_23 H locs ws_20 h u_21 p_22 => ?_)
    obtain ⟨e_24, e_25, e_26, e_27, e_28⟩ := p_22
    replace HE : FT = g4c_X5_isWord (xso SC ad ws_20) r_23.toInt v_18.toInt k1 := HE.trans (by rw [e_24, e_19, (xg0 e_15 : v_14.toInt = (xso SC ad ws0) 0 77 5), (xg0 e_11 : v_10.toInt = (xso SC ad ws0) 0 77 6), e_25]; rfl)
    replace HE : FT = g5b_X5_isWord (xso SC ad ws_20) r_23.toInt v_18.toInt k1 := HE.trans rfl
    refine y_icmp_eq (tgt := 26) C0 dX5_isWord_21 (by decide) (fun c_29 => ?_) (fun c_29 => ?_)
    · -- 21
      replace HE : FT = g6_X5_isWord (xso SC ad ws_20) k1 := HE.trans (if_pos c_29)
      refine y_c1 (n := 0) C0 (by decide) dX5_isWord_26 (fun v_30 e_31 => ?_)
      refine lv_istore_n (lv' := [(2, .int v_30), (0, .ref (ad 77)), (1, .ref (Z.2.1 k1))]) C0.1 C0.2.1 dX5_isWord_27 rfl hl (by decide) rfl (fun ls hl => ?_)
      have lp_35 : ∀ (n_37 : Nat) (x2_32 : Int32) (H : Heap) (locs : List Loc) (ls : Array Slot) (ws_33 : va_W), 102 - x2_32.toInt < (n_37 : Int) → 0 ≤ x2_32.toInt → x2_32.toInt ≤ 102 → (FT = L8_X5_isWord n_37 (xso SC ad ws_33) k1 x2_32.toInt) → Wt G SC ad A s H locs ws_33 → Fr SC [] ws_20 ws_33 → lv_has ls 3 [(2, .int x2_32), (0, .ref (ad 77)), (1, .ref (Z.2.1 k1))] → W p l e (rmd 5 0 0) s m args below meth c H locs 0 0 Q (F0 m 28 ls []) := by
        intro n_37
        induction n_37 with
        | zero => intro x2_32 H locs ls ws_33 hn_38 b_39 b_40 HE h hF_34 hl; exact ((o22_124 b_39 b_40 hn_38)).elim
        | succ n_37 ih_36 =>
          intro x2_32 H locs ls ws_33 hn_38 b_39 b_40 HE h hF_34 hl
          obtain ⟨R28, hR28⟩ : ∃ z, z = L8_X5_isWord n_37 := ⟨_, rfl⟩
          replace HE : FT = g9l_X5_isWord R28 (xso SC ad ws_33) k1 x2_32.toInt := HE.trans (by rw [hR28]; rfl)
          refine lv_iload_n C0.1 C0.2.1 dX5_isWord_28 rfl (lv_at hl 0 rfl) ?_
          refine lv_aload_n C0.1 C0.2.1 dX5_isWord_29 rfl (lv_at hl 2 rfl) ?_
          refine y_ci h (y_rT (As := []) (rest := [.int x2_32]) C0 hZ h (c_J0_length_8abf5 l G Z ad _ h.2 k1 hsk1) k_J0_length_8abf5 q_646 q_647 q_726 hsk1 rfl hl.1 rfl rfl (Nat.le_of_ble_eq_true rfl) dX5_isWord_30 ⟨Nat.le_of_ble_eq_true rfl, Nat.le_of_ble_eq_true rfl⟩ ⟨Nat.le_of_ble_eq_true rfl, Nat.le_of_ble_eq_true rfl⟩) (fun r_44 H locs ws_41 h u_42 p_43 => ?_)
          obtain ⟨e_45, e_46, e_47, e_48, e_49⟩ := p_43
          replace HE : FT = g10c_X5_isWord R28 (xso SC ad ws_41) r_44.toInt x2_32.toInt k1 := HE.trans (by rw [e_45, e_46]; rfl)
          replace HE : FT = g11b_X5_isWord R28 (xso SC ad ws_41) r_44.toInt x2_32.toInt k1 := HE.trans rfl
          refine y_icmp_ge (tgt := 63) C0 dX5_isWord_33 (by decide) (fun c_50 => ?_) (fun c_50 => ?_)
          · -- 33
            replace HE : FT = g12_X5_isWord (xso SC ad ws_41) := HE.trans (if_neg (Int.not_lt.mpr c_50))
            refine y_c1 (n := 1) C0 (by decide) dX5_isWord_63 (fun v_51 e_52 => ?_)
            replace HE : FT = ((xso SC ad ws_41), v_51.toInt) := HE.trans (by rw [e_52]; rfl)
            rw [hQ]
            exact y_zret C0 h (o22_8 e_52) (o22_9 e_52) (Fr.tr (Fr.tr u_21 hF_34) u_42) ⟨(congrArg Prod.fst (HE.symm.trans hFT)), (congrArg Prod.snd (HE.symm.trans hFT)), (o22_8 e_52), (o22_9 e_52)⟩ dX5_isWord_64
          · -- 33
            replace HE : FT = g13_X5_isWord R28 (xso SC ad ws_41) k1 x2_32.toInt := HE.trans (if_pos c_50)
            refine lv_aload_n C0.1 C0.2.1 dX5_isWord_36 rfl (lv_at hl 1 rfl) ?_
            refine tg_X5_tape C0 h kSC_77 q_371 dX5_isWord_37 ?_
            refine lv_aload_n C0.1 C0.2.1 dX5_isWord_40 rfl (lv_at hl 1 rfl) ?_
            refine tg_X5_start C0 h kSC_77 q_375 dX5_isWord_41 (fun v_53 e_54 e_55 e_56 => ?_)
            have qh_57 : v_53.toInt = v_14.toInt := congrArg Int32.toInt (e_54.symm.trans (Eq.trans (Eq.trans (Fr.fI u_42 kSC_77 (by decide)) (Eq.trans (Fr.fI hF_34 kSC_77 (by decide)) (Fr.fI u_21 kSC_77 (by decide)))) e_15))
            refine lv_iload_n C0.1 C0.2.1 dX5_isWord_44 rfl (lv_at hl 0 rfl) ?_
            refine y_add C0 (o22_125 (strLen_le k1) e_12 e_13 e_16 e_17 e_19 e_26 e_27 e_28 c_29 b_39 b_40 hn_38 e_47 e_48 e_49 c_50 e_55 e_56 qh_57 (le_min v_53) (le_max v_53) (le_min x2_32) (le_max x2_32) (le_min v_10) (le_max v_10) (le_min v_14) (le_max v_14) (le_min v_18) (le_max v_18) (le_min r_23) (le_max r_23) (le_min r_44) (le_max r_44)) (o22_126 (strLen_le k1) e_12 e_13 e_16 e_17 e_19 e_26 e_27 e_28 c_29 b_39 b_40 hn_38 e_47 e_48 e_49 c_50 e_55 e_56 qh_57 (le_min v_53) (le_max v_53) (le_min x2_32) (le_max x2_32) (le_min v_10) (le_max v_10) (le_min v_14) (le_max v_14) (le_min v_18) (le_max v_18) (le_min r_23) (le_max r_23) (le_min r_44) (le_max r_44)) dX5_isWord_45 (fun v_58 e_59 => ?_)
            refine y_bald C0 h kSC_78 rfl (by decide) (o22_127 (strLen_le k1) e_12 e_13 e_16 e_17 e_19 e_26 e_27 e_28 c_29 b_39 b_40 hn_38 e_47 e_48 e_49 c_50 e_55 e_56 qh_57 e_59) (o22_128 (strLen_le k1) e_12 e_13 e_16 e_17 e_19 e_26 e_27 e_28 c_29 b_39 b_40 hn_38 e_47 e_48 e_49 c_50 e_55 e_56 qh_57 e_59) dX5_isWord_46 (fun v_60 e_61 e_62 e_63 => ?_)
            refine lv_aload_n C0.1 C0.2.1 dX5_isWord_47 rfl (lv_at hl 2 rfl) ?_
            refine lv_iload_n C0.1 C0.2.1 dX5_isWord_48 rfl (lv_at hl 0 rfl) ?_
            refine y_ci h (y_rT (As := [.int x2_32]) (rest := [.int v_60]) C0 hZ h (c_J0_charAt_5068e l G Z ad _ h.2 k1 hsk1 x2_32 (o22_129 (strLen_le k1) e_12 e_13 e_16 e_17 e_19 e_26 e_27 e_28 c_29 b_39 b_40 hn_38 e_47 e_48 e_49 c_50 e_55 e_56 qh_57 e_59) (o22_130 (strLen_le k1) e_12 e_13 e_16 e_17 e_19 e_26 e_27 e_28 c_29 b_39 b_40 hn_38 e_47 e_48 e_49 c_50 e_55 e_56 qh_57 e_59)) k_J0_charAt_5068e q_728 q_729 q_727 hsk1 rfl hl.1 rfl rfl (Nat.le_of_ble_eq_true rfl) dX5_isWord_49 ⟨Nat.le_of_ble_eq_true rfl, Nat.le_of_ble_eq_true rfl⟩ ⟨Nat.le_of_ble_eq_true rfl, Nat.le_of_ble_eq_true rfl⟩) (fun r_67 H locs ws_64 h u_65 p_66 => ?_)
            obtain ⟨e_68, e_69, e_70, e_71⟩ := p_66
            replace HE : FT = g14c_X5_isWord R28 (xso SC ad ws_64) r_67.toInt v_60.toInt k1 x2_32.toInt := HE.trans (by rw [e_68, (xg1 e_61 : v_60.toInt = (xso SC ad ws_41) 1 78 v_58.toInt.toNat), e_59, (xg0 e_54 : v_53.toInt = (xso SC ad ws_41) 0 77 5), e_69]; rfl)
            replace HE : FT = g15b_X5_isWord R28 (xso SC ad ws_64) r_67.toInt v_60.toInt k1 x2_32.toInt := HE.trans rfl
            refine y_icmp_eq (tgt := 57) C0 dX5_isWord_52 (by decide) (fun c_72 => ?_) (fun c_72 => ?_)
            · -- 52
              replace HE : FT = g16_X5_isWord R28 (xso SC ad ws_64) k1 x2_32.toInt := HE.trans (if_pos c_72)
              refine y_inc (kp := 0) (n := 1) (fun v_73 => [(2, .int v_73), (0, .ref (ad 77)), (1, .ref (Z.2.1 k1))]) C0 hl rfl (by decide) (by decide) (fun _ => rfl) (o22_131 (strLen_le k1) e_12 e_13 e_16 e_17 e_19 e_26 e_27 e_28 c_29 b_39 b_40 hn_38 e_47 e_48 e_49 c_50 e_55 e_56 qh_57 e_59 (le_min x2_32) (le_max x2_32) (le_min v_10) (le_max v_10) (le_min v_14) (le_max v_14) (le_min v_18) (le_max v_18) (le_min r_23) (le_max r_23) (le_min r_44) (le_max r_44) (le_min v_53) (le_max v_53) (le_min v_58) (le_max v_58)) (o22_132 (strLen_le k1) e_12 e_13 e_16 e_17 e_19 e_26 e_27 e_28 c_29 b_39 b_40 hn_38 e_47 e_48 e_49 c_50 e_55 e_56 qh_57 e_59 (le_min x2_32) (le_max x2_32) (le_min v_10) (le_max v_10) (le_min v_14) (le_max v_14) (le_min v_18) (le_max v_18) (le_min r_23) (le_max r_23) (le_min r_44) (le_max r_44) (le_min v_53) (le_max v_53) (le_min v_58) (le_max v_58)) dX5_isWord_57 (fun v_73 ls e_74 hl => ?_)
              refine lv_goto (tgt := 28) C0.1 C0.2.1 dX5_isWord_60 (by decide) ?_
              exact ih_36 v_73 _ _ _ _ (o22_133 (strLen_le k1) e_12 e_13 e_16 e_17 e_19 e_26 e_27 e_28 c_29 b_39 b_40 hn_38 e_47 e_48 e_49 c_50 e_55 e_56 qh_57 e_59 e_74) (o22_134 (strLen_le k1) e_12 e_13 e_16 e_17 e_19 e_26 e_27 e_28 c_29 b_39 b_40 hn_38 e_47 e_48 e_49 c_50 e_55 e_56 qh_57 e_59 e_74) (o22_135 (strLen_le k1) e_12 e_13 e_16 e_17 e_19 e_26 e_27 e_28 c_29 b_39 b_40 hn_38 e_47 e_48 e_49 c_50 e_55 e_56 qh_57 e_59 e_74) (((show FT = R28 (xso SC ad ws_64) k1 v_73.toInt from HE.trans (by rw [e_74]; rfl)).trans (by rw [hR28]))) h (Fr.tr (Fr.tr hF_34 u_42) u_65) (lv_sub hl [0, 1, 2] rfl)
            · -- 52
              replace HE : FT = g17_X5_isWord (xso SC ad ws_64) := HE.trans (if_neg c_72)
              refine y_c1 (n := 0) C0 (by decide) dX5_isWord_55 (fun v_75 e_76 => ?_)
              replace HE : FT = ((xso SC ad ws_64), v_75.toInt) := HE.trans (by rw [e_76]; rfl)
              rw [hQ]
              exact y_zret C0 h (o22_6 e_76) (o22_7 e_76) (Fr.tr (Fr.tr (Fr.tr u_21 hF_34) u_42) u_65) ⟨(congrArg Prod.fst (HE.symm.trans hFT)), (congrArg Prod.snd (HE.symm.trans hFT)), (o22_6 e_76), (o22_7 e_76)⟩ dX5_isWord_56
      exact lp_35 ((102 - v_30.toInt + 1).toNat) v_30 _ _ _ _ (o22_136 e_31) (o22_6 e_31) (o22_137 e_31) ((show FT = L8_X5_isWord (Int.toNat (102 - v_30.toInt + 1)) (xso SC ad ws_20) k1 v_30.toInt from HE.trans (by rw [e_31]; rfl))) h Fr.rf (lv_sub hl [0, 1, 2] rfl)
    · -- 21
      replace HE : FT = g7_X5_isWord (xso SC ad ws_20) := HE.trans (if_neg c_29)
      refine y_c1 (n := 0) C0 (by decide) dX5_isWord_24 (fun v_77 e_78 => ?_)
      replace HE : FT = ((xso SC ad ws_20), v_77.toInt) := HE.trans (by rw [e_78]; rfl)
      rw [hQ]
      exact y_zret C0 h (o22_6 e_78) (o22_7 e_78) u_21 ⟨(congrArg Prod.fst (HE.symm.trans hFT)), (congrArg Prod.snd (HE.symm.trans hFT)), (o22_6 e_78), (o22_7 e_78)⟩ dX5_isWord_25
noncomputable def g4c_X5_sign (s : XS) : XR := (s, 0)
noncomputable def g2_X5_sign (s : XS) : XR := g4c_X5_sign ((f_X5_fail s 2).1)
noncomputable def g5c_X5_sign (s : XS) : XR := (s, 0)
noncomputable def g3_X5_sign (s : XS) : XR := g5c_X5_sign ((f_X5_advance s).1)
noncomputable def g1b_X5_sign (s : XS) (a1 : Int) (v_1 : Int) : XR := if v_1 = a1 then g3_X5_sign s else g2_X5_sign s
noncomputable def f_X5_sign (s : XS) (a1 : Int) : XR := g1b_X5_sign s a1 ((s 0 77 4))
set_option maxHeartbeats 4000000 in
set_option maxRecDepth 100000 in
theorem c_X5_sign (l : Launch) (G : GG) (Z : RZ) (ad : Nat → Nat) (ws0 : va_W) (hT : Ty G SC ad ws0) (a1 : Int32) (l1 : 0 ≤ a1.toInt) (u1 : a1.toInt ≤ 65535) : Mq l yX5_sign cX5_sign 2 none 6 G Z [.ref (ad 77), .int a1] ws0 (PV G SC ad [16] ws0 (fun u => (xso SC ad u = (f_X5_sign (xso SC ad ws0) a1.toInt).1))) := by
  refine Mq.start (by decide) (Nat.le_of_ble_eq_true rfl) ?_
  intro p e s m below meth c A ls C0 hZ h hl
  have hl : lv_has ls 2 [(0, .ref (ad 77)), (1, .int a1)] := hl
  have h : Wt G SC ad A s s.heap [] ws0 := ⟨h, hT⟩
  obtain ⟨args, hargs⟩ : ∃ z, z = ([.ref (ad 77), .int a1] : List Value).toArray := ⟨_, rfl⟩
  rw [← hargs] at C0 ⊢
  have C0 : Cx p s m args meth c RX5 cX5_sign 2 none := C0
  obtain ⟨Q, hQ⟩ : ∃ z, z = MQ below ((PV G SC ad [16] ws0 (fun u => (xso SC ad u = (f_X5_sign (xso SC ad ws0) a1.toInt).1))) A) args s 0 0 A := ⟨_, rfl⟩
  rw [← hQ]
  obtain ⟨FT, hFT⟩ : ∃ z, z = f_X5_sign (xso SC ad ws0) a1.toInt := ⟨_, rfl⟩
  have HE : FT = f_X5_sign (xso SC ad ws0) a1.toInt := hFT
  refine lv_aload_n C0.1 C0.2.1 dX5_sign_0 rfl (lv_at hl 0 rfl) ?_
  refine tg_X5_kind C0 h kSC_77 q_374 dX5_sign_1 (fun v_1 e_2 e_3 e_4 => ?_)
  refine lv_iload_n C0.1 C0.2.1 dX5_sign_4 rfl (lv_at hl 1 rfl) ?_
  replace HE : FT = g1b_X5_sign (xso SC ad ws0) a1.toInt v_1.toInt := HE.trans (by rw [(xg0 e_2 : v_1.toInt = (xso SC ad ws0) 0 77 4)]; rfl)
  refine y_icmp_ne (tgt := 15) C0 dX5_sign_5 (by decide) (fun c_5 => ?_) (fun c_5 => ?_)
  · -- 5
    replace HE : FT = g2_X5_sign (xso SC ad ws0) := HE.trans (if_neg c_5)
    refine lv_aload_n C0.1 C0.2.1 dX5_sign_15 rfl (lv_at hl 0 rfl) ?_
    refine y_c1 (n := 2) C0 (by decide) dX5_sign_16 (fun v_6 e_7 => ?_)
    refine y_cv h (y_rV (As := [.int v_6]) (rest := []) C0 hZ h (c_X5_fail l G Z ad _ h.2 v_6) k_X5_fail q_628 q_3 q_626 kSC_77 rfl rfl rfl hl.1 rfl rfl (Nat.le_of_ble_eq_true rfl) dX5_sign_17 ⟨Nat.le_of_ble_eq_true rfl, Nat.le_of_ble_eq_true rfl⟩ ⟨Nat.le_of_ble_eq_true rfl, Nat.le_of_ble_eq_true rfl⟩) (fun H locs ws_8 h u_9 p_10 => ?_)
    have e_11 := p_10
    replace HE : FT = g4c_X5_sign (xso SC ad ws_8) := HE.trans (by rw [e_11, e_7]; rfl)
    replace HE : FT = ((xso SC ad ws_8), 0) := HE.trans rfl
    rw [hQ]
    exact y_vret C0 h u_9 (congrArg Prod.fst (HE.symm.trans hFT)) dX5_sign_20
  · -- 5
    replace HE : FT = g3_X5_sign (xso SC ad ws0) := HE.trans (if_pos c_5)
    refine lv_aload_n C0.1 C0.2.1 dX5_sign_8 rfl (lv_at hl 0 rfl) ?_
    refine y_cv h (y_rV (As := []) (rest := []) C0 hZ h (c_X5_advance l G Z ad _ h.2) k_X5_advance q_616 q_0 q_614 kSC_77 rfl rfl rfl hl.1 rfl rfl (Nat.le_of_ble_eq_true rfl) dX5_sign_9 ⟨Nat.le_of_ble_eq_true rfl, Nat.le_of_ble_eq_true rfl⟩ ⟨Nat.le_of_ble_eq_true rfl, Nat.le_of_ble_eq_true rfl⟩) (fun H locs ws_12 h u_13 p_14 => ?_)
    have e_15 := p_14
    replace HE : FT = g5c_X5_sign (xso SC ad ws_12) := HE.trans (by rw [e_15]; rfl)
    refine lv_goto (tgt := 20) C0.1 C0.2.1 dX5_sign_12 (by decide) ?_
    replace HE : FT = ((xso SC ad ws_12), 0) := HE.trans rfl
    rw [hQ]
    exact y_vret C0 h u_13 (congrArg Prod.fst (HE.symm.trans hFT)) dX5_sign_20
noncomputable def g7c_X5_boundeda (s : XS) : XR := (s, 2)
noncomputable def g5_X5_boundeda (s : XS) : XR := g7c_X5_boundeda ((f_X5_fail s 3).1)
noncomputable def g11c_X5_boundeda (s : XS) (v_25 : Int) : XR := (s, v_25)
noncomputable def g9_X5_boundeda (s : XS) : XR := g11c_X5_boundeda ((f_X5_advance s).1) ((s 0 77 7))
noncomputable def g12c_X5_boundeda (s : XS) : XR := (s, 2)
noncomputable def g10_X5_boundeda (s : XS) : XR := g12c_X5_boundeda ((f_X5_fail s 3).1)
noncomputable def g8b_X5_boundeda (s : XS) (v_19 : Int) : XR := if 5 < v_19 then g10_X5_boundeda s else g9_X5_boundeda s
noncomputable def g6_X5_boundeda (s : XS) : XR := g8b_X5_boundeda s ((s 0 77 7))
noncomputable def g4b_X5_boundeda (s : XS) (v_8 : Int) : XR := if v_8 < 2 then g5_X5_boundeda s else g6_X5_boundeda s
noncomputable def g2_X5_boundeda (s : XS) : XR := g4b_X5_boundeda s ((s 0 77 7))
noncomputable def g13c_X5_boundeda (s : XS) : XR := (s, 2)
noncomputable def g3_X5_boundeda (s : XS) : XR := g13c_X5_boundeda ((f_X5_fail s 2).1)
noncomputable def g1b_X5_boundeda (s : XS) (v_1 : Int) : XR := if v_1 = 2 then g2_X5_boundeda s else g3_X5_boundeda s
noncomputable def f_X5_boundeda (s : XS) (a1 : Int) (a2 : Int) : XR := g1b_X5_boundeda s ((s 0 77 4))
set_option maxHeartbeats 4000000 in
set_option maxRecDepth 100000 in
theorem c_X5_boundeda (l : Launch) (G : GG) (Z : RZ) (ad : Nat → Nat) (ws0 : va_W) (hT : Ty G SC ad ws0) (a1 : Int32) (a2 : Int32) (l1 : 2 ≤ a1.toInt) (u1 : a1.toInt ≤ 2) (l2 : 5 ≤ a2.toInt) (u2 : a2.toInt ≤ 5) : Mq l yX5_bounded cX5_bounded 4 (some .int) 6 G Z [.ref (ad 77), .int a1, .int a2] ws0 (PI G SC ad [16] ws0 (fun r u => (xso SC ad u = (f_X5_boundeda (xso SC ad ws0) a1.toInt a2.toInt).1) ∧ (r.toInt = (f_X5_boundeda (xso SC ad ws0) a1.toInt a2.toInt).2) ∧ (2 ≤ r.toInt) ∧ (r.toInt ≤ 5))) := by
  refine Mq.start (by decide) (Nat.le_of_ble_eq_true rfl) ?_
  intro p e s m below meth c A ls C0 hZ h hl
  have hl : lv_has ls 4 [(0, .ref (ad 77)), (1, .int a1), (2, .int a2)] := hl
  have h : Wt G SC ad A s s.heap [] ws0 := ⟨h, hT⟩
  obtain ⟨args, hargs⟩ : ∃ z, z = ([.ref (ad 77), .int a1, .int a2] : List Value).toArray := ⟨_, rfl⟩
  rw [← hargs] at C0 ⊢
  have C0 : Cx p s m args meth c RX5 cX5_bounded 4 (some .int) := C0
  obtain ⟨Q, hQ⟩ : ∃ z, z = MQ below ((PI G SC ad [16] ws0 (fun r u => (xso SC ad u = (f_X5_boundeda (xso SC ad ws0) a1.toInt a2.toInt).1) ∧ (r.toInt = (f_X5_boundeda (xso SC ad ws0) a1.toInt a2.toInt).2) ∧ (2 ≤ r.toInt) ∧ (r.toInt ≤ 5))) A) args s 0 0 A := ⟨_, rfl⟩
  rw [← hQ]
  obtain ⟨FT, hFT⟩ : ∃ z, z = f_X5_boundeda (xso SC ad ws0) a1.toInt a2.toInt := ⟨_, rfl⟩
  have HE : FT = f_X5_boundeda (xso SC ad ws0) a1.toInt a2.toInt := hFT
  refine lv_aload_n C0.1 C0.2.1 dX5_bounded_0 rfl (lv_at hl 0 rfl) ?_
  refine tg_X5_kind C0 h kSC_77 q_374 dX5_bounded_1 (fun v_1 e_2 e_3 e_4 => ?_)
  refine y_c1 (n := 2) C0 (by decide) dX5_bounded_4 (fun v_5 e_6 => ?_)
  replace HE : FT = g1b_X5_boundeda (xso SC ad ws0) v_1.toInt := HE.trans (by rw [(xg0 e_2 : v_1.toInt = (xso SC ad ws0) 0 77 4)]; rfl)
  refine y_icmp_eq (tgt := 15) C0 dX5_bounded_5 (by decide) (fun c_7 => ?_) (fun c_7 => ?_)
  · -- 5
    replace HE : FT = g2_X5_boundeda (xso SC ad ws0) := HE.trans (if_pos (o22_139 e_6 c_7))
    refine lv_aload_n C0.1 C0.2.1 dX5_bounded_15 rfl (lv_at hl 0 rfl) ?_
    refine tg_X5_number C0 h kSC_77 q_377 dX5_bounded_16 (fun v_8 e_9 e_10 e_11 => ?_)
    refine lv_iload_n C0.1 C0.2.1 dX5_bounded_19 rfl (lv_at hl 1 rfl) ?_
    replace HE : FT = g4b_X5_boundeda (xso SC ad ws0) v_8.toInt := HE.trans (by rw [(xg0 e_9 : v_8.toInt = (xso SC ad ws0) 0 77 7)]; rfl)
    refine y_icmp_lt (tgt := 31) C0 dX5_bounded_20 (by decide) (fun c_12 => ?_) (fun c_12 => ?_)
    · -- 20
      replace HE : FT = g5_X5_boundeda (xso SC ad ws0) := HE.trans (if_pos (o22_142 l1 u1 c_12))
      refine lv_aload_n C0.1 C0.2.1 dX5_bounded_31 rfl (lv_at hl 0 rfl) ?_
      refine y_c1 (n := 3) C0 (by decide) dX5_bounded_32 (fun v_13 e_14 => ?_)
      refine y_cv h (y_rV (As := [.int v_13]) (rest := []) C0 hZ h (c_X5_fail l G Z ad _ h.2 v_13) k_X5_fail q_628 q_3 q_626 kSC_77 rfl rfl rfl hl.1 rfl rfl (Nat.le_of_ble_eq_true rfl) dX5_bounded_33 ⟨Nat.le_of_ble_eq_true rfl, Nat.le_of_ble_eq_true rfl⟩ ⟨Nat.le_of_ble_eq_true rfl, Nat.le_of_ble_eq_true rfl⟩) (fun H locs ws_15 h u_16 p_17 => ?_)
      have e_18 := p_17
      replace HE : FT = g7c_X5_boundeda (xso SC ad ws_15) := HE.trans (by rw [e_18, e_14]; rfl)
      refine lv_iload_n C0.1 C0.2.1 dX5_bounded_36 rfl (lv_at hl 1 rfl) ?_
      replace HE : FT = ((xso SC ad ws_15), a1.toInt) := HE.trans (by rw [(o22_144 l1 u1 c_12)]; rfl)
      rw [hQ]
      exact y_iret C0 h u_16 ⟨(congrArg Prod.fst (HE.symm.trans hFT)), (congrArg Prod.snd (HE.symm.trans hFT)), (o22_145 l1 u1 c_12), (o22_146 l1 u1 c_12)⟩ dX5_bounded_37
    · -- 20
      replace HE : FT = g6_X5_boundeda (xso SC ad ws0) := HE.trans (if_neg (o22_143 l1 u1 c_12))
      refine lv_aload_n C0.1 C0.2.1 dX5_bounded_23 rfl (lv_at hl 0 rfl) ?_
      refine tg_X5_number C0 h kSC_77 q_377 dX5_bounded_24 (fun v_19 e_20 e_21 e_22 => ?_)
      have qh_23 : v_19.toInt = v_8.toInt := congrArg Int32.toInt (e_20.symm.trans (Eq.trans rfl e_9))
      refine lv_iload_n C0.1 C0.2.1 dX5_bounded_27 rfl (lv_at hl 2 rfl) ?_
      replace HE : FT = g8b_X5_boundeda (xso SC ad ws0) v_19.toInt := HE.trans (by rw [(xg0 e_20 : v_19.toInt = (xso SC ad ws0) 0 77 7)]; rfl)
      refine y_icmp_le (tgt := 38) C0 dX5_bounded_28 (by decide) (fun c_24 => ?_) (fun c_24 => ?_)
      · -- 28
        replace HE : FT = g9_X5_boundeda (xso SC ad ws0) := HE.trans (if_neg (o22_148 l1 u1 l2 u2 c_12 qh_23 c_24))
        refine lv_aload_n C0.1 C0.2.1 dX5_bounded_38 rfl (lv_at hl 0 rfl) ?_
        refine tg_X5_number C0 h kSC_77 q_377 dX5_bounded_39 (fun v_25 e_26 e_27 e_28 => ?_)
        have qh_29 : v_25.toInt = v_8.toInt := congrArg Int32.toInt (e_26.symm.trans (Eq.trans rfl e_9))
        refine lv_istore_n (lv' := [(3, .int v_25), (0, .ref (ad 77)), (1, .int a1), (2, .int a2)]) C0.1 C0.2.1 dX5_bounded_42 rfl hl (by decide) rfl (fun ls hl => ?_)
        refine lv_aload_n C0.1 C0.2.1 dX5_bounded_43 rfl (lv_at hl 1 rfl) ?_
        refine y_cv h (y_rV (As := []) (rest := []) C0 hZ h (c_X5_advance l G Z ad _ h.2) k_X5_advance q_616 q_0 q_614 kSC_77 rfl rfl rfl hl.1 rfl rfl (Nat.le_of_ble_eq_true rfl) dX5_bounded_44 ⟨Nat.le_of_ble_eq_true rfl, Nat.le_of_ble_eq_true rfl⟩ ⟨Nat.le_of_ble_eq_true rfl, Nat.le_of_ble_eq_true rfl⟩) (fun H locs ws_30 h u_31 p_32 => ?_)
        have e_33 := p_32
        replace HE : FT = g11c_X5_boundeda (xso SC ad ws_30) v_25.toInt := HE.trans (by rw [e_33, (xg0 e_26 : v_25.toInt = (xso SC ad ws0) 0 77 7)]; rfl)
        refine lv_iload_n C0.1 C0.2.1 dX5_bounded_47 rfl (lv_at hl 0 rfl) ?_
        replace HE : FT = ((xso SC ad ws_30), v_25.toInt) := HE.trans rfl
        rw [hQ]
        exact y_iret C0 h u_31 ⟨(congrArg Prod.fst (HE.symm.trans hFT)), (congrArg Prod.snd (HE.symm.trans hFT)), (o22_150 l1 u1 l2 u2 c_12 qh_23 c_24 qh_29), (o22_151 l1 u1 l2 u2 c_12 qh_23 c_24 qh_29)⟩ dX5_bounded_48
      · -- 28
        replace HE : FT = g10_X5_boundeda (xso SC ad ws0) := HE.trans (if_pos (o22_149 l1 u1 l2 u2 c_12 qh_23 c_24))
        refine lv_aload_n C0.1 C0.2.1 dX5_bounded_31 rfl (lv_at hl 0 rfl) ?_
        refine y_c1 (n := 3) C0 (by decide) dX5_bounded_32 (fun v_34 e_35 => ?_)
        refine y_cv h (y_rV (As := [.int v_34]) (rest := []) C0 hZ h (c_X5_fail l G Z ad _ h.2 v_34) k_X5_fail q_628 q_3 q_626 kSC_77 rfl rfl rfl hl.1 rfl rfl (Nat.le_of_ble_eq_true rfl) dX5_bounded_33 ⟨Nat.le_of_ble_eq_true rfl, Nat.le_of_ble_eq_true rfl⟩ ⟨Nat.le_of_ble_eq_true rfl, Nat.le_of_ble_eq_true rfl⟩) (fun H locs ws_36 h u_37 p_38 => ?_)
        have e_39 := p_38
        replace HE : FT = g12c_X5_boundeda (xso SC ad ws_36) := HE.trans (by rw [e_39, e_35]; rfl)
        refine lv_iload_n C0.1 C0.2.1 dX5_bounded_36 rfl (lv_at hl 1 rfl) ?_
        replace HE : FT = ((xso SC ad ws_36), a1.toInt) := HE.trans (by rw [(o22_152 l1 u1 l2 u2 c_12 qh_23 c_24)]; rfl)
        rw [hQ]
        exact y_iret C0 h u_37 ⟨(congrArg Prod.fst (HE.symm.trans hFT)), (congrArg Prod.snd (HE.symm.trans hFT)), (o22_153 l1 u1 l2 u2 c_12 qh_23 c_24), (o22_154 l1 u1 l2 u2 c_12 qh_23 c_24)⟩ dX5_bounded_37
  · -- 5
    replace HE : FT = g3_X5_boundeda (xso SC ad ws0) := HE.trans (if_neg (o22_140 e_6 c_7))
    refine lv_aload_n C0.1 C0.2.1 dX5_bounded_8 rfl (lv_at hl 0 rfl) ?_
    refine y_c1 (n := 2) C0 (by decide) dX5_bounded_9 (fun v_40 e_41 => ?_)
    refine y_cv h (y_rV (As := [.int v_40]) (rest := []) C0 hZ h (c_X5_fail l G Z ad _ h.2 v_40) k_X5_fail q_628 q_3 q_626 kSC_77 rfl rfl rfl hl.1 rfl rfl (Nat.le_of_ble_eq_true rfl) dX5_bounded_10 ⟨Nat.le_of_ble_eq_true rfl, Nat.le_of_ble_eq_true rfl⟩ ⟨Nat.le_of_ble_eq_true rfl, Nat.le_of_ble_eq_true rfl⟩) (fun H locs ws_42 h u_43 p_44 => ?_)
    have e_45 := p_44
    replace HE : FT = g13c_X5_boundeda (xso SC ad ws_42) := HE.trans (by rw [e_45, e_41]; rfl)
    refine lv_iload_n C0.1 C0.2.1 dX5_bounded_13 rfl (lv_at hl 1 rfl) ?_
    replace HE : FT = ((xso SC ad ws_42), a1.toInt) := HE.trans (by rw [(o22_141 l1 u1)]; rfl)
    rw [hQ]
    exact y_iret C0 h u_43 ⟨(congrArg Prod.fst (HE.symm.trans hFT)), (congrArg Prod.snd (HE.symm.trans hFT)), (o22_155 l1 u1), (o22_156 l1 u1)⟩ dX5_bounded_14
noncomputable def g7c_X5_boundedc (s : XS) : XR := (s, 0)
noncomputable def g5_X5_boundedc (s : XS) : XR := g7c_X5_boundedc ((f_X5_fail s 3).1)
noncomputable def g11c_X5_boundedc (s : XS) (v_25 : Int) : XR := (s, v_25)
noncomputable def g9_X5_boundedc (s : XS) : XR := g11c_X5_boundedc ((f_X5_advance s).1) ((s 0 77 7))
noncomputable def g12c_X5_boundedc (s : XS) : XR := (s, 0)
noncomputable def g10_X5_boundedc (s : XS) : XR := g12c_X5_boundedc ((f_X5_fail s 3).1)
noncomputable def g8b_X5_boundedc (s : XS) (v_19 : Int) : XR := if 3 < v_19 then g10_X5_boundedc s else g9_X5_boundedc s
noncomputable def g6_X5_boundedc (s : XS) : XR := g8b_X5_boundedc s ((s 0 77 7))
noncomputable def g4b_X5_boundedc (s : XS) (v_8 : Int) : XR := if v_8 < 0 then g5_X5_boundedc s else g6_X5_boundedc s
noncomputable def g2_X5_boundedc (s : XS) : XR := g4b_X5_boundedc s ((s 0 77 7))
noncomputable def g13c_X5_boundedc (s : XS) : XR := (s, 0)
noncomputable def g3_X5_boundedc (s : XS) : XR := g13c_X5_boundedc ((f_X5_fail s 2).1)
noncomputable def g1b_X5_boundedc (s : XS) (v_1 : Int) : XR := if v_1 = 2 then g2_X5_boundedc s else g3_X5_boundedc s
noncomputable def f_X5_boundedc (s : XS) (a1 : Int) (a2 : Int) : XR := g1b_X5_boundedc s ((s 0 77 4))
set_option maxHeartbeats 4000000 in
set_option maxRecDepth 100000 in
theorem c_X5_boundedc (l : Launch) (G : GG) (Z : RZ) (ad : Nat → Nat) (ws0 : va_W) (hT : Ty G SC ad ws0) (a1 : Int32) (a2 : Int32) (l1 : 0 ≤ a1.toInt) (u1 : a1.toInt ≤ 0) (l2 : 3 ≤ a2.toInt) (u2 : a2.toInt ≤ 3) : Mq l yX5_bounded cX5_bounded 4 (some .int) 6 G Z [.ref (ad 77), .int a1, .int a2] ws0 (PI G SC ad [16] ws0 (fun r u => (xso SC ad u = (f_X5_boundedc (xso SC ad ws0) a1.toInt a2.toInt).1) ∧ (r.toInt = (f_X5_boundedc (xso SC ad ws0) a1.toInt a2.toInt).2) ∧ (0 ≤ r.toInt) ∧ (r.toInt ≤ 3))) := by
  refine Mq.start (by decide) (Nat.le_of_ble_eq_true rfl) ?_
  intro p e s m below meth c A ls C0 hZ h hl
  have hl : lv_has ls 4 [(0, .ref (ad 77)), (1, .int a1), (2, .int a2)] := hl
  have h : Wt G SC ad A s s.heap [] ws0 := ⟨h, hT⟩
  obtain ⟨args, hargs⟩ : ∃ z, z = ([.ref (ad 77), .int a1, .int a2] : List Value).toArray := ⟨_, rfl⟩
  rw [← hargs] at C0 ⊢
  have C0 : Cx p s m args meth c RX5 cX5_bounded 4 (some .int) := C0
  obtain ⟨Q, hQ⟩ : ∃ z, z = MQ below ((PI G SC ad [16] ws0 (fun r u => (xso SC ad u = (f_X5_boundedc (xso SC ad ws0) a1.toInt a2.toInt).1) ∧ (r.toInt = (f_X5_boundedc (xso SC ad ws0) a1.toInt a2.toInt).2) ∧ (0 ≤ r.toInt) ∧ (r.toInt ≤ 3))) A) args s 0 0 A := ⟨_, rfl⟩
  rw [← hQ]
  obtain ⟨FT, hFT⟩ : ∃ z, z = f_X5_boundedc (xso SC ad ws0) a1.toInt a2.toInt := ⟨_, rfl⟩
  have HE : FT = f_X5_boundedc (xso SC ad ws0) a1.toInt a2.toInt := hFT
  refine lv_aload_n C0.1 C0.2.1 dX5_bounded_0 rfl (lv_at hl 0 rfl) ?_
  refine tg_X5_kind C0 h kSC_77 q_374 dX5_bounded_1 (fun v_1 e_2 e_3 e_4 => ?_)
  refine y_c1 (n := 2) C0 (by decide) dX5_bounded_4 (fun v_5 e_6 => ?_)
  replace HE : FT = g1b_X5_boundedc (xso SC ad ws0) v_1.toInt := HE.trans (by rw [(xg0 e_2 : v_1.toInt = (xso SC ad ws0) 0 77 4)]; rfl)
  refine y_icmp_eq (tgt := 15) C0 dX5_bounded_5 (by decide) (fun c_7 => ?_) (fun c_7 => ?_)
  · -- 5
    replace HE : FT = g2_X5_boundedc (xso SC ad ws0) := HE.trans (if_pos (o22_139 e_6 c_7))
    refine lv_aload_n C0.1 C0.2.1 dX5_bounded_15 rfl (lv_at hl 0 rfl) ?_
    refine tg_X5_number C0 h kSC_77 q_377 dX5_bounded_16 (fun v_8 e_9 e_10 e_11 => ?_)
    refine lv_iload_n C0.1 C0.2.1 dX5_bounded_19 rfl (lv_at hl 1 rfl) ?_
    replace HE : FT = g4b_X5_boundedc (xso SC ad ws0) v_8.toInt := HE.trans (by rw [(xg0 e_9 : v_8.toInt = (xso SC ad ws0) 0 77 7)]; rfl)
    refine y_icmp_lt (tgt := 31) C0 dX5_bounded_20 (by decide) (fun c_12 => ?_) (fun c_12 => ?_)
    · -- 20
      replace HE : FT = g5_X5_boundedc (xso SC ad ws0) := HE.trans (if_pos (o22_158 l1 u1 c_12))
      refine lv_aload_n C0.1 C0.2.1 dX5_bounded_31 rfl (lv_at hl 0 rfl) ?_
      refine y_c1 (n := 3) C0 (by decide) dX5_bounded_32 (fun v_13 e_14 => ?_)
      refine y_cv h (y_rV (As := [.int v_13]) (rest := []) C0 hZ h (c_X5_fail l G Z ad _ h.2 v_13) k_X5_fail q_628 q_3 q_626 kSC_77 rfl rfl rfl hl.1 rfl rfl (Nat.le_of_ble_eq_true rfl) dX5_bounded_33 ⟨Nat.le_of_ble_eq_true rfl, Nat.le_of_ble_eq_true rfl⟩ ⟨Nat.le_of_ble_eq_true rfl, Nat.le_of_ble_eq_true rfl⟩) (fun H locs ws_15 h u_16 p_17 => ?_)
      have e_18 := p_17
      replace HE : FT = g7c_X5_boundedc (xso SC ad ws_15) := HE.trans (by rw [e_18, e_14]; rfl)
      refine lv_iload_n C0.1 C0.2.1 dX5_bounded_36 rfl (lv_at hl 1 rfl) ?_
      replace HE : FT = ((xso SC ad ws_15), a1.toInt) := HE.trans (by rw [(o22_160 l1 u1 c_12)]; rfl)
      rw [hQ]
      exact y_iret C0 h u_16 ⟨(congrArg Prod.fst (HE.symm.trans hFT)), (congrArg Prod.snd (HE.symm.trans hFT)), (o22_161 l1 u1 c_12), (o22_162 l1 u1 c_12)⟩ dX5_bounded_37
    · -- 20
      replace HE : FT = g6_X5_boundedc (xso SC ad ws0) := HE.trans (if_neg (o22_159 l1 u1 c_12))
      refine lv_aload_n C0.1 C0.2.1 dX5_bounded_23 rfl (lv_at hl 0 rfl) ?_
      refine tg_X5_number C0 h kSC_77 q_377 dX5_bounded_24 (fun v_19 e_20 e_21 e_22 => ?_)
      have qh_23 : v_19.toInt = v_8.toInt := congrArg Int32.toInt (e_20.symm.trans (Eq.trans rfl e_9))
      refine lv_iload_n C0.1 C0.2.1 dX5_bounded_27 rfl (lv_at hl 2 rfl) ?_
      replace HE : FT = g8b_X5_boundedc (xso SC ad ws0) v_19.toInt := HE.trans (by rw [(xg0 e_20 : v_19.toInt = (xso SC ad ws0) 0 77 7)]; rfl)
      refine y_icmp_le (tgt := 38) C0 dX5_bounded_28 (by decide) (fun c_24 => ?_) (fun c_24 => ?_)
      · -- 28
        replace HE : FT = g9_X5_boundedc (xso SC ad ws0) := HE.trans (if_neg (o22_164 l1 u1 l2 u2 c_12 qh_23 c_24))
        refine lv_aload_n C0.1 C0.2.1 dX5_bounded_38 rfl (lv_at hl 0 rfl) ?_
        refine tg_X5_number C0 h kSC_77 q_377 dX5_bounded_39 (fun v_25 e_26 e_27 e_28 => ?_)
        have qh_29 : v_25.toInt = v_8.toInt := congrArg Int32.toInt (e_26.symm.trans (Eq.trans rfl e_9))
        refine lv_istore_n (lv' := [(3, .int v_25), (0, .ref (ad 77)), (1, .int a1), (2, .int a2)]) C0.1 C0.2.1 dX5_bounded_42 rfl hl (by decide) rfl (fun ls hl => ?_)
        refine lv_aload_n C0.1 C0.2.1 dX5_bounded_43 rfl (lv_at hl 1 rfl) ?_
        refine y_cv h (y_rV (As := []) (rest := []) C0 hZ h (c_X5_advance l G Z ad _ h.2) k_X5_advance q_616 q_0 q_614 kSC_77 rfl rfl rfl hl.1 rfl rfl (Nat.le_of_ble_eq_true rfl) dX5_bounded_44 ⟨Nat.le_of_ble_eq_true rfl, Nat.le_of_ble_eq_true rfl⟩ ⟨Nat.le_of_ble_eq_true rfl, Nat.le_of_ble_eq_true rfl⟩) (fun H locs ws_30 h u_31 p_32 => ?_)
        have e_33 := p_32
        replace HE : FT = g11c_X5_boundedc (xso SC ad ws_30) v_25.toInt := HE.trans (by rw [e_33, (xg0 e_26 : v_25.toInt = (xso SC ad ws0) 0 77 7)]; rfl)
        refine lv_iload_n C0.1 C0.2.1 dX5_bounded_47 rfl (lv_at hl 0 rfl) ?_
        replace HE : FT = ((xso SC ad ws_30), v_25.toInt) := HE.trans rfl
        rw [hQ]
        exact y_iret C0 h u_31 ⟨(congrArg Prod.fst (HE.symm.trans hFT)), (congrArg Prod.snd (HE.symm.trans hFT)), (o22_166 l1 u1 l2 u2 c_12 qh_23 c_24 qh_29), (o22_167 l1 u1 l2 u2 c_12 qh_23 c_24 qh_29)⟩ dX5_bounded_48
      · -- 28
        replace HE : FT = g10_X5_boundedc (xso SC ad ws0) := HE.trans (if_pos (o22_165 l1 u1 l2 u2 c_12 qh_23 c_24))
        refine lv_aload_n C0.1 C0.2.1 dX5_bounded_31 rfl (lv_at hl 0 rfl) ?_
        refine y_c1 (n := 3) C0 (by decide) dX5_bounded_32 (fun v_34 e_35 => ?_)
        refine y_cv h (y_rV (As := [.int v_34]) (rest := []) C0 hZ h (c_X5_fail l G Z ad _ h.2 v_34) k_X5_fail q_628 q_3 q_626 kSC_77 rfl rfl rfl hl.1 rfl rfl (Nat.le_of_ble_eq_true rfl) dX5_bounded_33 ⟨Nat.le_of_ble_eq_true rfl, Nat.le_of_ble_eq_true rfl⟩ ⟨Nat.le_of_ble_eq_true rfl, Nat.le_of_ble_eq_true rfl⟩) (fun H locs ws_36 h u_37 p_38 => ?_)
        have e_39 := p_38
        replace HE : FT = g12c_X5_boundedc (xso SC ad ws_36) := HE.trans (by rw [e_39, e_35]; rfl)
        refine lv_iload_n C0.1 C0.2.1 dX5_bounded_36 rfl (lv_at hl 1 rfl) ?_
        replace HE : FT = ((xso SC ad ws_36), a1.toInt) := HE.trans (by rw [(o22_168 l1 u1 l2 u2 c_12 qh_23 c_24)]; rfl)
        rw [hQ]
        exact y_iret C0 h u_37 ⟨(congrArg Prod.fst (HE.symm.trans hFT)), (congrArg Prod.snd (HE.symm.trans hFT)), (o22_169 l1 u1 l2 u2 c_12 qh_23 c_24), (o22_170 l1 u1 l2 u2 c_12 qh_23 c_24)⟩ dX5_bounded_37
  · -- 5
    replace HE : FT = g3_X5_boundedc (xso SC ad ws0) := HE.trans (if_neg (o22_140 e_6 c_7))
    refine lv_aload_n C0.1 C0.2.1 dX5_bounded_8 rfl (lv_at hl 0 rfl) ?_
    refine y_c1 (n := 2) C0 (by decide) dX5_bounded_9 (fun v_40 e_41 => ?_)
    refine y_cv h (y_rV (As := [.int v_40]) (rest := []) C0 hZ h (c_X5_fail l G Z ad _ h.2 v_40) k_X5_fail q_628 q_3 q_626 kSC_77 rfl rfl rfl hl.1 rfl rfl (Nat.le_of_ble_eq_true rfl) dX5_bounded_10 ⟨Nat.le_of_ble_eq_true rfl, Nat.le_of_ble_eq_true rfl⟩ ⟨Nat.le_of_ble_eq_true rfl, Nat.le_of_ble_eq_true rfl⟩) (fun H locs ws_42 h u_43 p_44 => ?_)
    have e_45 := p_44
    replace HE : FT = g13c_X5_boundedc (xso SC ad ws_42) := HE.trans (by rw [e_45, e_41]; rfl)
    refine lv_iload_n C0.1 C0.2.1 dX5_bounded_13 rfl (lv_at hl 1 rfl) ?_
    replace HE : FT = ((xso SC ad ws_42), a1.toInt) := HE.trans (by rw [(o22_157 l1 u1)]; rfl)
    rw [hQ]
    exact y_iret C0 h u_43 ⟨(congrArg Prod.fst (HE.symm.trans hFT)), (congrArg Prod.snd (HE.symm.trans hFT)), (o22_171 l1 u1), (o22_172 l1 u1)⟩ dX5_bounded_14
noncomputable def g7c_X5_boundedd (s : XS) : XR := (s, 0)
noncomputable def g5_X5_boundedd (s : XS) : XR := g7c_X5_boundedd ((f_X5_fail s 3).1)
noncomputable def g11c_X5_boundedd (s : XS) (v_25 : Int) : XR := (s, v_25)
noncomputable def g9_X5_boundedd (s : XS) : XR := g11c_X5_boundedd ((f_X5_advance s).1) ((s 0 77 7))
noncomputable def g12c_X5_boundedd (s : XS) : XR := (s, 0)
noncomputable def g10_X5_boundedd (s : XS) : XR := g12c_X5_boundedd ((f_X5_fail s 3).1)
noncomputable def g8b_X5_boundedd (s : XS) (v_19 : Int) : XR := if 99 < v_19 then g10_X5_boundedd s else g9_X5_boundedd s
noncomputable def g6_X5_boundedd (s : XS) : XR := g8b_X5_boundedd s ((s 0 77 7))
noncomputable def g4b_X5_boundedd (s : XS) (v_8 : Int) : XR := if v_8 < 0 then g5_X5_boundedd s else g6_X5_boundedd s
noncomputable def g2_X5_boundedd (s : XS) : XR := g4b_X5_boundedd s ((s 0 77 7))
noncomputable def g13c_X5_boundedd (s : XS) : XR := (s, 0)
noncomputable def g3_X5_boundedd (s : XS) : XR := g13c_X5_boundedd ((f_X5_fail s 2).1)
noncomputable def g1b_X5_boundedd (s : XS) (v_1 : Int) : XR := if v_1 = 2 then g2_X5_boundedd s else g3_X5_boundedd s
noncomputable def f_X5_boundedd (s : XS) (a1 : Int) (a2 : Int) : XR := g1b_X5_boundedd s ((s 0 77 4))
set_option maxHeartbeats 4000000 in
set_option maxRecDepth 100000 in
theorem c_X5_boundedd (l : Launch) (G : GG) (Z : RZ) (ad : Nat → Nat) (ws0 : va_W) (hT : Ty G SC ad ws0) (a1 : Int32) (a2 : Int32) (l1 : 0 ≤ a1.toInt) (u1 : a1.toInt ≤ 0) (l2 : 99 ≤ a2.toInt) (u2 : a2.toInt ≤ 99) : Mq l yX5_bounded cX5_bounded 4 (some .int) 6 G Z [.ref (ad 77), .int a1, .int a2] ws0 (PI G SC ad [16] ws0 (fun r u => (xso SC ad u = (f_X5_boundedd (xso SC ad ws0) a1.toInt a2.toInt).1) ∧ (r.toInt = (f_X5_boundedd (xso SC ad ws0) a1.toInt a2.toInt).2) ∧ (0 ≤ r.toInt) ∧ (r.toInt ≤ 99))) := by
  refine Mq.start (by decide) (Nat.le_of_ble_eq_true rfl) ?_
  intro p e s m below meth c A ls C0 hZ h hl
  have hl : lv_has ls 4 [(0, .ref (ad 77)), (1, .int a1), (2, .int a2)] := hl
  have h : Wt G SC ad A s s.heap [] ws0 := ⟨h, hT⟩
  obtain ⟨args, hargs⟩ : ∃ z, z = ([.ref (ad 77), .int a1, .int a2] : List Value).toArray := ⟨_, rfl⟩
  rw [← hargs] at C0 ⊢
  have C0 : Cx p s m args meth c RX5 cX5_bounded 4 (some .int) := C0
  obtain ⟨Q, hQ⟩ : ∃ z, z = MQ below ((PI G SC ad [16] ws0 (fun r u => (xso SC ad u = (f_X5_boundedd (xso SC ad ws0) a1.toInt a2.toInt).1) ∧ (r.toInt = (f_X5_boundedd (xso SC ad ws0) a1.toInt a2.toInt).2) ∧ (0 ≤ r.toInt) ∧ (r.toInt ≤ 99))) A) args s 0 0 A := ⟨_, rfl⟩
  rw [← hQ]
  obtain ⟨FT, hFT⟩ : ∃ z, z = f_X5_boundedd (xso SC ad ws0) a1.toInt a2.toInt := ⟨_, rfl⟩
  have HE : FT = f_X5_boundedd (xso SC ad ws0) a1.toInt a2.toInt := hFT
  refine lv_aload_n C0.1 C0.2.1 dX5_bounded_0 rfl (lv_at hl 0 rfl) ?_
  refine tg_X5_kind C0 h kSC_77 q_374 dX5_bounded_1 (fun v_1 e_2 e_3 e_4 => ?_)
  refine y_c1 (n := 2) C0 (by decide) dX5_bounded_4 (fun v_5 e_6 => ?_)
  replace HE : FT = g1b_X5_boundedd (xso SC ad ws0) v_1.toInt := HE.trans (by rw [(xg0 e_2 : v_1.toInt = (xso SC ad ws0) 0 77 4)]; rfl)
  refine y_icmp_eq (tgt := 15) C0 dX5_bounded_5 (by decide) (fun c_7 => ?_) (fun c_7 => ?_)
  · -- 5
    replace HE : FT = g2_X5_boundedd (xso SC ad ws0) := HE.trans (if_pos (o22_139 e_6 c_7))
    refine lv_aload_n C0.1 C0.2.1 dX5_bounded_15 rfl (lv_at hl 0 rfl) ?_
    refine tg_X5_number C0 h kSC_77 q_377 dX5_bounded_16 (fun v_8 e_9 e_10 e_11 => ?_)
    refine lv_iload_n C0.1 C0.2.1 dX5_bounded_19 rfl (lv_at hl 1 rfl) ?_
    replace HE : FT = g4b_X5_boundedd (xso SC ad ws0) v_8.toInt := HE.trans (by rw [(xg0 e_9 : v_8.toInt = (xso SC ad ws0) 0 77 7)]; rfl)
    refine y_icmp_lt (tgt := 31) C0 dX5_bounded_20 (by decide) (fun c_12 => ?_) (fun c_12 => ?_)
    · -- 20
      replace HE : FT = g5_X5_boundedd (xso SC ad ws0) := HE.trans (if_pos (o22_158 l1 u1 c_12))
      refine lv_aload_n C0.1 C0.2.1 dX5_bounded_31 rfl (lv_at hl 0 rfl) ?_
      refine y_c1 (n := 3) C0 (by decide) dX5_bounded_32 (fun v_13 e_14 => ?_)
      refine y_cv h (y_rV (As := [.int v_13]) (rest := []) C0 hZ h (c_X5_fail l G Z ad _ h.2 v_13) k_X5_fail q_628 q_3 q_626 kSC_77 rfl rfl rfl hl.1 rfl rfl (Nat.le_of_ble_eq_true rfl) dX5_bounded_33 ⟨Nat.le_of_ble_eq_true rfl, Nat.le_of_ble_eq_true rfl⟩ ⟨Nat.le_of_ble_eq_true rfl, Nat.le_of_ble_eq_true rfl⟩) (fun H locs ws_15 h u_16 p_17 => ?_)
      have e_18 := p_17
      replace HE : FT = g7c_X5_boundedd (xso SC ad ws_15) := HE.trans (by rw [e_18, e_14]; rfl)
      refine lv_iload_n C0.1 C0.2.1 dX5_bounded_36 rfl (lv_at hl 1 rfl) ?_
      replace HE : FT = ((xso SC ad ws_15), a1.toInt) := HE.trans (by rw [(o22_160 l1 u1 c_12)]; rfl)
      rw [hQ]
      exact y_iret C0 h u_16 ⟨(congrArg Prod.fst (HE.symm.trans hFT)), (congrArg Prod.snd (HE.symm.trans hFT)), (o22_161 l1 u1 c_12), (o22_173 l1 u1 c_12)⟩ dX5_bounded_37
    · -- 20
      replace HE : FT = g6_X5_boundedd (xso SC ad ws0) := HE.trans (if_neg (o22_159 l1 u1 c_12))
      refine lv_aload_n C0.1 C0.2.1 dX5_bounded_23 rfl (lv_at hl 0 rfl) ?_
      refine tg_X5_number C0 h kSC_77 q_377 dX5_bounded_24 (fun v_19 e_20 e_21 e_22 => ?_)
      have qh_23 : v_19.toInt = v_8.toInt := congrArg Int32.toInt (e_20.symm.trans (Eq.trans rfl e_9))
      refine lv_iload_n C0.1 C0.2.1 dX5_bounded_27 rfl (lv_at hl 2 rfl) ?_
      replace HE : FT = g8b_X5_boundedd (xso SC ad ws0) v_19.toInt := HE.trans (by rw [(xg0 e_20 : v_19.toInt = (xso SC ad ws0) 0 77 7)]; rfl)
      refine y_icmp_le (tgt := 38) C0 dX5_bounded_28 (by decide) (fun c_24 => ?_) (fun c_24 => ?_)
      · -- 28
        replace HE : FT = g9_X5_boundedd (xso SC ad ws0) := HE.trans (if_neg (o22_175 l1 u1 l2 u2 c_12 qh_23 c_24))
        refine lv_aload_n C0.1 C0.2.1 dX5_bounded_38 rfl (lv_at hl 0 rfl) ?_
        refine tg_X5_number C0 h kSC_77 q_377 dX5_bounded_39 (fun v_25 e_26 e_27 e_28 => ?_)
        have qh_29 : v_25.toInt = v_8.toInt := congrArg Int32.toInt (e_26.symm.trans (Eq.trans rfl e_9))
        refine lv_istore_n (lv' := [(3, .int v_25), (0, .ref (ad 77)), (1, .int a1), (2, .int a2)]) C0.1 C0.2.1 dX5_bounded_42 rfl hl (by decide) rfl (fun ls hl => ?_)
        refine lv_aload_n C0.1 C0.2.1 dX5_bounded_43 rfl (lv_at hl 1 rfl) ?_
        refine y_cv h (y_rV (As := []) (rest := []) C0 hZ h (c_X5_advance l G Z ad _ h.2) k_X5_advance q_616 q_0 q_614 kSC_77 rfl rfl rfl hl.1 rfl rfl (Nat.le_of_ble_eq_true rfl) dX5_bounded_44 ⟨Nat.le_of_ble_eq_true rfl, Nat.le_of_ble_eq_true rfl⟩ ⟨Nat.le_of_ble_eq_true rfl, Nat.le_of_ble_eq_true rfl⟩) (fun H locs ws_30 h u_31 p_32 => ?_)
        have e_33 := p_32
        replace HE : FT = g11c_X5_boundedd (xso SC ad ws_30) v_25.toInt := HE.trans (by rw [e_33, (xg0 e_26 : v_25.toInt = (xso SC ad ws0) 0 77 7)]; rfl)
        refine lv_iload_n C0.1 C0.2.1 dX5_bounded_47 rfl (lv_at hl 0 rfl) ?_
        replace HE : FT = ((xso SC ad ws_30), v_25.toInt) := HE.trans rfl
        rw [hQ]
        exact y_iret C0 h u_31 ⟨(congrArg Prod.fst (HE.symm.trans hFT)), (congrArg Prod.snd (HE.symm.trans hFT)), (o22_177 l1 u1 l2 u2 c_12 qh_23 c_24 qh_29), (o22_178 l1 u1 l2 u2 c_12 qh_23 c_24 qh_29)⟩ dX5_bounded_48
      · -- 28
        replace HE : FT = g10_X5_boundedd (xso SC ad ws0) := HE.trans (if_pos (o22_176 l1 u1 l2 u2 c_12 qh_23 c_24))
        refine lv_aload_n C0.1 C0.2.1 dX5_bounded_31 rfl (lv_at hl 0 rfl) ?_
        refine y_c1 (n := 3) C0 (by decide) dX5_bounded_32 (fun v_34 e_35 => ?_)
        refine y_cv h (y_rV (As := [.int v_34]) (rest := []) C0 hZ h (c_X5_fail l G Z ad _ h.2 v_34) k_X5_fail q_628 q_3 q_626 kSC_77 rfl rfl rfl hl.1 rfl rfl (Nat.le_of_ble_eq_true rfl) dX5_bounded_33 ⟨Nat.le_of_ble_eq_true rfl, Nat.le_of_ble_eq_true rfl⟩ ⟨Nat.le_of_ble_eq_true rfl, Nat.le_of_ble_eq_true rfl⟩) (fun H locs ws_36 h u_37 p_38 => ?_)
        have e_39 := p_38
        replace HE : FT = g12c_X5_boundedd (xso SC ad ws_36) := HE.trans (by rw [e_39, e_35]; rfl)
        refine lv_iload_n C0.1 C0.2.1 dX5_bounded_36 rfl (lv_at hl 1 rfl) ?_
        replace HE : FT = ((xso SC ad ws_36), a1.toInt) := HE.trans (by rw [(o22_179 l1 u1 l2 u2 c_12 qh_23 c_24)]; rfl)
        rw [hQ]
        exact y_iret C0 h u_37 ⟨(congrArg Prod.fst (HE.symm.trans hFT)), (congrArg Prod.snd (HE.symm.trans hFT)), (o22_180 l1 u1 l2 u2 c_12 qh_23 c_24), (o22_181 l1 u1 l2 u2 c_12 qh_23 c_24)⟩ dX5_bounded_37
  · -- 5
    replace HE : FT = g3_X5_boundedd (xso SC ad ws0) := HE.trans (if_neg (o22_140 e_6 c_7))
    refine lv_aload_n C0.1 C0.2.1 dX5_bounded_8 rfl (lv_at hl 0 rfl) ?_
    refine y_c1 (n := 2) C0 (by decide) dX5_bounded_9 (fun v_40 e_41 => ?_)
    refine y_cv h (y_rV (As := [.int v_40]) (rest := []) C0 hZ h (c_X5_fail l G Z ad _ h.2 v_40) k_X5_fail q_628 q_3 q_626 kSC_77 rfl rfl rfl hl.1 rfl rfl (Nat.le_of_ble_eq_true rfl) dX5_bounded_10 ⟨Nat.le_of_ble_eq_true rfl, Nat.le_of_ble_eq_true rfl⟩ ⟨Nat.le_of_ble_eq_true rfl, Nat.le_of_ble_eq_true rfl⟩) (fun H locs ws_42 h u_43 p_44 => ?_)
    have e_45 := p_44
    replace HE : FT = g13c_X5_boundedd (xso SC ad ws_42) := HE.trans (by rw [e_45, e_41]; rfl)
    refine lv_iload_n C0.1 C0.2.1 dX5_bounded_13 rfl (lv_at hl 1 rfl) ?_
    replace HE : FT = ((xso SC ad ws_42), a1.toInt) := HE.trans (by rw [(o22_157 l1 u1)]; rfl)
    rw [hQ]
    exact y_iret C0 h u_43 ⟨(congrArg Prod.fst (HE.symm.trans hFT)), (congrArg Prod.snd (HE.symm.trans hFT)), (o22_171 l1 u1), (o22_182 l1 u1)⟩ dX5_bounded_14
noncomputable def g7c_X5_boundede (s : XS) : XR := (s, 0)
noncomputable def g5_X5_boundede (s : XS) : XR := g7c_X5_boundede ((f_X5_fail s 3).1)
noncomputable def g11c_X5_boundede (s : XS) (v_25 : Int) : XR := (s, v_25)
noncomputable def g9_X5_boundede (s : XS) : XR := g11c_X5_boundede ((f_X5_advance s).1) ((s 0 77 7))
noncomputable def g12c_X5_boundede (s : XS) : XR := (s, 0)
noncomputable def g10_X5_boundede (s : XS) : XR := g12c_X5_boundede ((f_X5_fail s 3).1)
noncomputable def g8b_X5_boundede (s : XS) (v_19 : Int) : XR := if 999 < v_19 then g10_X5_boundede s else g9_X5_boundede s
noncomputable def g6_X5_boundede (s : XS) : XR := g8b_X5_boundede s ((s 0 77 7))
noncomputable def g4b_X5_boundede (s : XS) (v_8 : Int) : XR := if v_8 < 0 then g5_X5_boundede s else g6_X5_boundede s
noncomputable def g2_X5_boundede (s : XS) : XR := g4b_X5_boundede s ((s 0 77 7))
noncomputable def g13c_X5_boundede (s : XS) : XR := (s, 0)
noncomputable def g3_X5_boundede (s : XS) : XR := g13c_X5_boundede ((f_X5_fail s 2).1)
noncomputable def g1b_X5_boundede (s : XS) (v_1 : Int) : XR := if v_1 = 2 then g2_X5_boundede s else g3_X5_boundede s
noncomputable def f_X5_boundede (s : XS) (a1 : Int) (a2 : Int) : XR := g1b_X5_boundede s ((s 0 77 4))
set_option maxHeartbeats 4000000 in
set_option maxRecDepth 100000 in
theorem c_X5_boundede (l : Launch) (G : GG) (Z : RZ) (ad : Nat → Nat) (ws0 : va_W) (hT : Ty G SC ad ws0) (a1 : Int32) (a2 : Int32) (l1 : 0 ≤ a1.toInt) (u1 : a1.toInt ≤ 0) (l2 : 999 ≤ a2.toInt) (u2 : a2.toInt ≤ 999) : Mq l yX5_bounded cX5_bounded 4 (some .int) 6 G Z [.ref (ad 77), .int a1, .int a2] ws0 (PI G SC ad [16] ws0 (fun r u => (xso SC ad u = (f_X5_boundede (xso SC ad ws0) a1.toInt a2.toInt).1) ∧ (r.toInt = (f_X5_boundede (xso SC ad ws0) a1.toInt a2.toInt).2) ∧ (0 ≤ r.toInt) ∧ (r.toInt ≤ 999))) := by
  refine Mq.start (by decide) (Nat.le_of_ble_eq_true rfl) ?_
  intro p e s m below meth c A ls C0 hZ h hl
  have hl : lv_has ls 4 [(0, .ref (ad 77)), (1, .int a1), (2, .int a2)] := hl
  have h : Wt G SC ad A s s.heap [] ws0 := ⟨h, hT⟩
  obtain ⟨args, hargs⟩ : ∃ z, z = ([.ref (ad 77), .int a1, .int a2] : List Value).toArray := ⟨_, rfl⟩
  rw [← hargs] at C0 ⊢
  have C0 : Cx p s m args meth c RX5 cX5_bounded 4 (some .int) := C0
  obtain ⟨Q, hQ⟩ : ∃ z, z = MQ below ((PI G SC ad [16] ws0 (fun r u => (xso SC ad u = (f_X5_boundede (xso SC ad ws0) a1.toInt a2.toInt).1) ∧ (r.toInt = (f_X5_boundede (xso SC ad ws0) a1.toInt a2.toInt).2) ∧ (0 ≤ r.toInt) ∧ (r.toInt ≤ 999))) A) args s 0 0 A := ⟨_, rfl⟩
  rw [← hQ]
  obtain ⟨FT, hFT⟩ : ∃ z, z = f_X5_boundede (xso SC ad ws0) a1.toInt a2.toInt := ⟨_, rfl⟩
  have HE : FT = f_X5_boundede (xso SC ad ws0) a1.toInt a2.toInt := hFT
  refine lv_aload_n C0.1 C0.2.1 dX5_bounded_0 rfl (lv_at hl 0 rfl) ?_
  refine tg_X5_kind C0 h kSC_77 q_374 dX5_bounded_1 (fun v_1 e_2 e_3 e_4 => ?_)
  refine y_c1 (n := 2) C0 (by decide) dX5_bounded_4 (fun v_5 e_6 => ?_)
  replace HE : FT = g1b_X5_boundede (xso SC ad ws0) v_1.toInt := HE.trans (by rw [(xg0 e_2 : v_1.toInt = (xso SC ad ws0) 0 77 4)]; rfl)
  refine y_icmp_eq (tgt := 15) C0 dX5_bounded_5 (by decide) (fun c_7 => ?_) (fun c_7 => ?_)
  · -- 5
    replace HE : FT = g2_X5_boundede (xso SC ad ws0) := HE.trans (if_pos (o22_139 e_6 c_7))
    refine lv_aload_n C0.1 C0.2.1 dX5_bounded_15 rfl (lv_at hl 0 rfl) ?_
    refine tg_X5_number C0 h kSC_77 q_377 dX5_bounded_16 (fun v_8 e_9 e_10 e_11 => ?_)
    refine lv_iload_n C0.1 C0.2.1 dX5_bounded_19 rfl (lv_at hl 1 rfl) ?_
    replace HE : FT = g4b_X5_boundede (xso SC ad ws0) v_8.toInt := HE.trans (by rw [(xg0 e_9 : v_8.toInt = (xso SC ad ws0) 0 77 7)]; rfl)
    refine y_icmp_lt (tgt := 31) C0 dX5_bounded_20 (by decide) (fun c_12 => ?_) (fun c_12 => ?_)
    · -- 20
      replace HE : FT = g5_X5_boundede (xso SC ad ws0) := HE.trans (if_pos (o22_158 l1 u1 c_12))
      refine lv_aload_n C0.1 C0.2.1 dX5_bounded_31 rfl (lv_at hl 0 rfl) ?_
      refine y_c1 (n := 3) C0 (by decide) dX5_bounded_32 (fun v_13 e_14 => ?_)
      refine y_cv h (y_rV (As := [.int v_13]) (rest := []) C0 hZ h (c_X5_fail l G Z ad _ h.2 v_13) k_X5_fail q_628 q_3 q_626 kSC_77 rfl rfl rfl hl.1 rfl rfl (Nat.le_of_ble_eq_true rfl) dX5_bounded_33 ⟨Nat.le_of_ble_eq_true rfl, Nat.le_of_ble_eq_true rfl⟩ ⟨Nat.le_of_ble_eq_true rfl, Nat.le_of_ble_eq_true rfl⟩) (fun H locs ws_15 h u_16 p_17 => ?_)
      have e_18 := p_17
      replace HE : FT = g7c_X5_boundede (xso SC ad ws_15) := HE.trans (by rw [e_18, e_14]; rfl)
      refine lv_iload_n C0.1 C0.2.1 dX5_bounded_36 rfl (lv_at hl 1 rfl) ?_
      replace HE : FT = ((xso SC ad ws_15), a1.toInt) := HE.trans (by rw [(o22_160 l1 u1 c_12)]; rfl)
      rw [hQ]
      exact y_iret C0 h u_16 ⟨(congrArg Prod.fst (HE.symm.trans hFT)), (congrArg Prod.snd (HE.symm.trans hFT)), (o22_161 l1 u1 c_12), (o22_183 l1 u1 c_12)⟩ dX5_bounded_37
    · -- 20
      replace HE : FT = g6_X5_boundede (xso SC ad ws0) := HE.trans (if_neg (o22_159 l1 u1 c_12))
      refine lv_aload_n C0.1 C0.2.1 dX5_bounded_23 rfl (lv_at hl 0 rfl) ?_
      refine tg_X5_number C0 h kSC_77 q_377 dX5_bounded_24 (fun v_19 e_20 e_21 e_22 => ?_)
      have qh_23 : v_19.toInt = v_8.toInt := congrArg Int32.toInt (e_20.symm.trans (Eq.trans rfl e_9))
      refine lv_iload_n C0.1 C0.2.1 dX5_bounded_27 rfl (lv_at hl 2 rfl) ?_
      replace HE : FT = g8b_X5_boundede (xso SC ad ws0) v_19.toInt := HE.trans (by rw [(xg0 e_20 : v_19.toInt = (xso SC ad ws0) 0 77 7)]; rfl)
      refine y_icmp_le (tgt := 38) C0 dX5_bounded_28 (by decide) (fun c_24 => ?_) (fun c_24 => ?_)
      · -- 28
        replace HE : FT = g9_X5_boundede (xso SC ad ws0) := HE.trans (if_neg (o22_185 l1 u1 l2 u2 c_12 qh_23 c_24))
        refine lv_aload_n C0.1 C0.2.1 dX5_bounded_38 rfl (lv_at hl 0 rfl) ?_
        refine tg_X5_number C0 h kSC_77 q_377 dX5_bounded_39 (fun v_25 e_26 e_27 e_28 => ?_)
        have qh_29 : v_25.toInt = v_8.toInt := congrArg Int32.toInt (e_26.symm.trans (Eq.trans rfl e_9))
        refine lv_istore_n (lv' := [(3, .int v_25), (0, .ref (ad 77)), (1, .int a1), (2, .int a2)]) C0.1 C0.2.1 dX5_bounded_42 rfl hl (by decide) rfl (fun ls hl => ?_)
        refine lv_aload_n C0.1 C0.2.1 dX5_bounded_43 rfl (lv_at hl 1 rfl) ?_
        refine y_cv h (y_rV (As := []) (rest := []) C0 hZ h (c_X5_advance l G Z ad _ h.2) k_X5_advance q_616 q_0 q_614 kSC_77 rfl rfl rfl hl.1 rfl rfl (Nat.le_of_ble_eq_true rfl) dX5_bounded_44 ⟨Nat.le_of_ble_eq_true rfl, Nat.le_of_ble_eq_true rfl⟩ ⟨Nat.le_of_ble_eq_true rfl, Nat.le_of_ble_eq_true rfl⟩) (fun H locs ws_30 h u_31 p_32 => ?_)
        have e_33 := p_32
        replace HE : FT = g11c_X5_boundede (xso SC ad ws_30) v_25.toInt := HE.trans (by rw [e_33, (xg0 e_26 : v_25.toInt = (xso SC ad ws0) 0 77 7)]; rfl)
        refine lv_iload_n C0.1 C0.2.1 dX5_bounded_47 rfl (lv_at hl 0 rfl) ?_
        replace HE : FT = ((xso SC ad ws_30), v_25.toInt) := HE.trans rfl
        rw [hQ]
        exact y_iret C0 h u_31 ⟨(congrArg Prod.fst (HE.symm.trans hFT)), (congrArg Prod.snd (HE.symm.trans hFT)), (o22_187 l1 u1 l2 u2 c_12 qh_23 c_24 qh_29), (o22_188 l1 u1 l2 u2 c_12 qh_23 c_24 qh_29)⟩ dX5_bounded_48
      · -- 28
        replace HE : FT = g10_X5_boundede (xso SC ad ws0) := HE.trans (if_pos (o22_186 l1 u1 l2 u2 c_12 qh_23 c_24))
        refine lv_aload_n C0.1 C0.2.1 dX5_bounded_31 rfl (lv_at hl 0 rfl) ?_
        refine y_c1 (n := 3) C0 (by decide) dX5_bounded_32 (fun v_34 e_35 => ?_)
        refine y_cv h (y_rV (As := [.int v_34]) (rest := []) C0 hZ h (c_X5_fail l G Z ad _ h.2 v_34) k_X5_fail q_628 q_3 q_626 kSC_77 rfl rfl rfl hl.1 rfl rfl (Nat.le_of_ble_eq_true rfl) dX5_bounded_33 ⟨Nat.le_of_ble_eq_true rfl, Nat.le_of_ble_eq_true rfl⟩ ⟨Nat.le_of_ble_eq_true rfl, Nat.le_of_ble_eq_true rfl⟩) (fun H locs ws_36 h u_37 p_38 => ?_)
        have e_39 := p_38
        replace HE : FT = g12c_X5_boundede (xso SC ad ws_36) := HE.trans (by rw [e_39, e_35]; rfl)
        refine lv_iload_n C0.1 C0.2.1 dX5_bounded_36 rfl (lv_at hl 1 rfl) ?_
        replace HE : FT = ((xso SC ad ws_36), a1.toInt) := HE.trans (by rw [(o22_189 l1 u1 l2 u2 c_12 qh_23 c_24)]; rfl)
        rw [hQ]
        exact y_iret C0 h u_37 ⟨(congrArg Prod.fst (HE.symm.trans hFT)), (congrArg Prod.snd (HE.symm.trans hFT)), (o22_190 l1 u1 l2 u2 c_12 qh_23 c_24), (o22_191 l1 u1 l2 u2 c_12 qh_23 c_24)⟩ dX5_bounded_37
  · -- 5
    replace HE : FT = g3_X5_boundede (xso SC ad ws0) := HE.trans (if_neg (o22_140 e_6 c_7))
    refine lv_aload_n C0.1 C0.2.1 dX5_bounded_8 rfl (lv_at hl 0 rfl) ?_
    refine y_c1 (n := 2) C0 (by decide) dX5_bounded_9 (fun v_40 e_41 => ?_)
    refine y_cv h (y_rV (As := [.int v_40]) (rest := []) C0 hZ h (c_X5_fail l G Z ad _ h.2 v_40) k_X5_fail q_628 q_3 q_626 kSC_77 rfl rfl rfl hl.1 rfl rfl (Nat.le_of_ble_eq_true rfl) dX5_bounded_10 ⟨Nat.le_of_ble_eq_true rfl, Nat.le_of_ble_eq_true rfl⟩ ⟨Nat.le_of_ble_eq_true rfl, Nat.le_of_ble_eq_true rfl⟩) (fun H locs ws_42 h u_43 p_44 => ?_)
    have e_45 := p_44
    replace HE : FT = g13c_X5_boundede (xso SC ad ws_42) := HE.trans (by rw [e_45, e_41]; rfl)
    refine lv_iload_n C0.1 C0.2.1 dX5_bounded_13 rfl (lv_at hl 1 rfl) ?_
    replace HE : FT = ((xso SC ad ws_42), a1.toInt) := HE.trans (by rw [(o22_157 l1 u1)]; rfl)
    rw [hQ]
    exact y_iret C0 h u_43 ⟨(congrArg Prod.fst (HE.symm.trans hFT)), (congrArg Prod.snd (HE.symm.trans hFT)), (o22_171 l1 u1), (o22_192 l1 u1)⟩ dX5_bounded_14
noncomputable def g7c_X5_boundedb (s : XS) : XR := (s, 0)
noncomputable def g5_X5_boundedb (s : XS) : XR := g7c_X5_boundedb ((f_X5_fail s 3).1)
noncomputable def g11c_X5_boundedb (s : XS) (v_25 : Int) : XR := (s, v_25)
noncomputable def g9_X5_boundedb (s : XS) : XR := g11c_X5_boundedb ((f_X5_advance s).1) ((s 0 77 7))
noncomputable def g12c_X5_boundedb (s : XS) : XR := (s, 0)
noncomputable def g10_X5_boundedb (s : XS) : XR := g12c_X5_boundedb ((f_X5_fail s 3).1)
noncomputable def g8b_X5_boundedb (s : XS) (a2 : Int) (v_19 : Int) : XR := if a2 < v_19 then g10_X5_boundedb s else g9_X5_boundedb s
noncomputable def g6_X5_boundedb (s : XS) (a2 : Int) : XR := g8b_X5_boundedb s a2 ((s 0 77 7))
noncomputable def g4b_X5_boundedb (s : XS) (v_8 : Int) (a2 : Int) : XR := if v_8 < 0 then g5_X5_boundedb s else g6_X5_boundedb s a2
noncomputable def g2_X5_boundedb (s : XS) (a2 : Int) : XR := g4b_X5_boundedb s ((s 0 77 7)) a2
noncomputable def g13c_X5_boundedb (s : XS) : XR := (s, 0)
noncomputable def g3_X5_boundedb (s : XS) : XR := g13c_X5_boundedb ((f_X5_fail s 2).1)
noncomputable def g1b_X5_boundedb (s : XS) (v_1 : Int) (a2 : Int) : XR := if v_1 = 2 then g2_X5_boundedb s a2 else g3_X5_boundedb s
noncomputable def f_X5_boundedb (s : XS) (a1 : Int) (a2 : Int) : XR := g1b_X5_boundedb s ((s 0 77 4)) a2
set_option maxHeartbeats 4000000 in
set_option maxRecDepth 100000 in
theorem c_X5_boundedb (l : Launch) (G : GG) (Z : RZ) (ad : Nat → Nat) (ws0 : va_W) (hT : Ty G SC ad ws0) (a1 : Int32) (a2 : Int32) (l1 : 0 ≤ a1.toInt) (u1 : a1.toInt ≤ 0) (l2 : (-1) ≤ a2.toInt) (u2 : a2.toInt ≤ 4) : Mq l yX5_bounded cX5_bounded 4 (some .int) 6 G Z [.ref (ad 77), .int a1, .int a2] ws0 (PI G SC ad [16] ws0 (fun r u => (xso SC ad u = (f_X5_boundedb (xso SC ad ws0) a1.toInt a2.toInt).1) ∧ (r.toInt = (f_X5_boundedb (xso SC ad ws0) a1.toInt a2.toInt).2) ∧ (0 ≤ r.toInt) ∧ (r.toInt ≤ 4))) := by
  refine Mq.start (by decide) (Nat.le_of_ble_eq_true rfl) ?_
  intro p e s m below meth c A ls C0 hZ h hl
  have hl : lv_has ls 4 [(0, .ref (ad 77)), (1, .int a1), (2, .int a2)] := hl
  have h : Wt G SC ad A s s.heap [] ws0 := ⟨h, hT⟩
  obtain ⟨args, hargs⟩ : ∃ z, z = ([.ref (ad 77), .int a1, .int a2] : List Value).toArray := ⟨_, rfl⟩
  rw [← hargs] at C0 ⊢
  have C0 : Cx p s m args meth c RX5 cX5_bounded 4 (some .int) := C0
  obtain ⟨Q, hQ⟩ : ∃ z, z = MQ below ((PI G SC ad [16] ws0 (fun r u => (xso SC ad u = (f_X5_boundedb (xso SC ad ws0) a1.toInt a2.toInt).1) ∧ (r.toInt = (f_X5_boundedb (xso SC ad ws0) a1.toInt a2.toInt).2) ∧ (0 ≤ r.toInt) ∧ (r.toInt ≤ 4))) A) args s 0 0 A := ⟨_, rfl⟩
  rw [← hQ]
  obtain ⟨FT, hFT⟩ : ∃ z, z = f_X5_boundedb (xso SC ad ws0) a1.toInt a2.toInt := ⟨_, rfl⟩
  have HE : FT = f_X5_boundedb (xso SC ad ws0) a1.toInt a2.toInt := hFT
  refine lv_aload_n C0.1 C0.2.1 dX5_bounded_0 rfl (lv_at hl 0 rfl) ?_
  refine tg_X5_kind C0 h kSC_77 q_374 dX5_bounded_1 (fun v_1 e_2 e_3 e_4 => ?_)
  refine y_c1 (n := 2) C0 (by decide) dX5_bounded_4 (fun v_5 e_6 => ?_)
  replace HE : FT = g1b_X5_boundedb (xso SC ad ws0) v_1.toInt a2.toInt := HE.trans (by rw [(xg0 e_2 : v_1.toInt = (xso SC ad ws0) 0 77 4)]; rfl)
  refine y_icmp_eq (tgt := 15) C0 dX5_bounded_5 (by decide) (fun c_7 => ?_) (fun c_7 => ?_)
  · -- 5
    replace HE : FT = g2_X5_boundedb (xso SC ad ws0) a2.toInt := HE.trans (if_pos (o22_139 e_6 c_7))
    refine lv_aload_n C0.1 C0.2.1 dX5_bounded_15 rfl (lv_at hl 0 rfl) ?_
    refine tg_X5_number C0 h kSC_77 q_377 dX5_bounded_16 (fun v_8 e_9 e_10 e_11 => ?_)
    refine lv_iload_n C0.1 C0.2.1 dX5_bounded_19 rfl (lv_at hl 1 rfl) ?_
    replace HE : FT = g4b_X5_boundedb (xso SC ad ws0) v_8.toInt a2.toInt := HE.trans (by rw [(xg0 e_9 : v_8.toInt = (xso SC ad ws0) 0 77 7)]; rfl)
    refine y_icmp_lt (tgt := 31) C0 dX5_bounded_20 (by decide) (fun c_12 => ?_) (fun c_12 => ?_)
    · -- 20
      replace HE : FT = g5_X5_boundedb (xso SC ad ws0) := HE.trans (if_pos (o22_158 l1 u1 c_12))
      refine lv_aload_n C0.1 C0.2.1 dX5_bounded_31 rfl (lv_at hl 0 rfl) ?_
      refine y_c1 (n := 3) C0 (by decide) dX5_bounded_32 (fun v_13 e_14 => ?_)
      refine y_cv h (y_rV (As := [.int v_13]) (rest := []) C0 hZ h (c_X5_fail l G Z ad _ h.2 v_13) k_X5_fail q_628 q_3 q_626 kSC_77 rfl rfl rfl hl.1 rfl rfl (Nat.le_of_ble_eq_true rfl) dX5_bounded_33 ⟨Nat.le_of_ble_eq_true rfl, Nat.le_of_ble_eq_true rfl⟩ ⟨Nat.le_of_ble_eq_true rfl, Nat.le_of_ble_eq_true rfl⟩) (fun H locs ws_15 h u_16 p_17 => ?_)
      have e_18 := p_17
      replace HE : FT = g7c_X5_boundedb (xso SC ad ws_15) := HE.trans (by rw [e_18, e_14]; rfl)
      refine lv_iload_n C0.1 C0.2.1 dX5_bounded_36 rfl (lv_at hl 1 rfl) ?_
      replace HE : FT = ((xso SC ad ws_15), a1.toInt) := HE.trans (by rw [(o22_160 l1 u1 c_12)]; rfl)
      rw [hQ]
      exact y_iret C0 h u_16 ⟨(congrArg Prod.fst (HE.symm.trans hFT)), (congrArg Prod.snd (HE.symm.trans hFT)), (o22_161 l1 u1 c_12), (o22_193 l1 u1 c_12)⟩ dX5_bounded_37
    · -- 20
      replace HE : FT = g6_X5_boundedb (xso SC ad ws0) a2.toInt := HE.trans (if_neg (o22_159 l1 u1 c_12))
      refine lv_aload_n C0.1 C0.2.1 dX5_bounded_23 rfl (lv_at hl 0 rfl) ?_
      refine tg_X5_number C0 h kSC_77 q_377 dX5_bounded_24 (fun v_19 e_20 e_21 e_22 => ?_)
      have qh_23 : v_19.toInt = v_8.toInt := congrArg Int32.toInt (e_20.symm.trans (Eq.trans rfl e_9))
      refine lv_iload_n C0.1 C0.2.1 dX5_bounded_27 rfl (lv_at hl 2 rfl) ?_
      replace HE : FT = g8b_X5_boundedb (xso SC ad ws0) a2.toInt v_19.toInt := HE.trans (by rw [(xg0 e_20 : v_19.toInt = (xso SC ad ws0) 0 77 7)]; rfl)
      refine y_icmp_le (tgt := 38) C0 dX5_bounded_28 (by decide) (fun c_24 => ?_) (fun c_24 => ?_)
      · -- 28
        replace HE : FT = g9_X5_boundedb (xso SC ad ws0) := HE.trans (if_neg (Int.not_lt.mpr c_24))
        refine lv_aload_n C0.1 C0.2.1 dX5_bounded_38 rfl (lv_at hl 0 rfl) ?_
        refine tg_X5_number C0 h kSC_77 q_377 dX5_bounded_39 (fun v_25 e_26 e_27 e_28 => ?_)
        have qh_29 : v_25.toInt = v_8.toInt := congrArg Int32.toInt (e_26.symm.trans (Eq.trans rfl e_9))
        refine lv_istore_n (lv' := [(3, .int v_25), (0, .ref (ad 77)), (1, .int a1), (2, .int a2)]) C0.1 C0.2.1 dX5_bounded_42 rfl hl (by decide) rfl (fun ls hl => ?_)
        refine lv_aload_n C0.1 C0.2.1 dX5_bounded_43 rfl (lv_at hl 1 rfl) ?_
        refine y_cv h (y_rV (As := []) (rest := []) C0 hZ h (c_X5_advance l G Z ad _ h.2) k_X5_advance q_616 q_0 q_614 kSC_77 rfl rfl rfl hl.1 rfl rfl (Nat.le_of_ble_eq_true rfl) dX5_bounded_44 ⟨Nat.le_of_ble_eq_true rfl, Nat.le_of_ble_eq_true rfl⟩ ⟨Nat.le_of_ble_eq_true rfl, Nat.le_of_ble_eq_true rfl⟩) (fun H locs ws_30 h u_31 p_32 => ?_)
        have e_33 := p_32
        replace HE : FT = g11c_X5_boundedb (xso SC ad ws_30) v_25.toInt := HE.trans (by rw [e_33, (xg0 e_26 : v_25.toInt = (xso SC ad ws0) 0 77 7)]; rfl)
        refine lv_iload_n C0.1 C0.2.1 dX5_bounded_47 rfl (lv_at hl 0 rfl) ?_
        replace HE : FT = ((xso SC ad ws_30), v_25.toInt) := HE.trans rfl
        rw [hQ]
        exact y_iret C0 h u_31 ⟨(congrArg Prod.fst (HE.symm.trans hFT)), (congrArg Prod.snd (HE.symm.trans hFT)), (o22_194 l1 u1 l2 u2 c_12 qh_23 c_24 qh_29), (o22_195 l1 u1 l2 u2 c_12 qh_23 c_24 qh_29)⟩ dX5_bounded_48
      · -- 28
        replace HE : FT = g10_X5_boundedb (xso SC ad ws0) := HE.trans (if_pos c_24)
        refine lv_aload_n C0.1 C0.2.1 dX5_bounded_31 rfl (lv_at hl 0 rfl) ?_
        refine y_c1 (n := 3) C0 (by decide) dX5_bounded_32 (fun v_34 e_35 => ?_)
        refine y_cv h (y_rV (As := [.int v_34]) (rest := []) C0 hZ h (c_X5_fail l G Z ad _ h.2 v_34) k_X5_fail q_628 q_3 q_626 kSC_77 rfl rfl rfl hl.1 rfl rfl (Nat.le_of_ble_eq_true rfl) dX5_bounded_33 ⟨Nat.le_of_ble_eq_true rfl, Nat.le_of_ble_eq_true rfl⟩ ⟨Nat.le_of_ble_eq_true rfl, Nat.le_of_ble_eq_true rfl⟩) (fun H locs ws_36 h u_37 p_38 => ?_)
        have e_39 := p_38
        replace HE : FT = g12c_X5_boundedb (xso SC ad ws_36) := HE.trans (by rw [e_39, e_35]; rfl)
        refine lv_iload_n C0.1 C0.2.1 dX5_bounded_36 rfl (lv_at hl 1 rfl) ?_
        replace HE : FT = ((xso SC ad ws_36), a1.toInt) := HE.trans (by rw [(o22_196 l1 u1 l2 u2 c_12 qh_23 c_24)]; rfl)
        rw [hQ]
        exact y_iret C0 h u_37 ⟨(congrArg Prod.fst (HE.symm.trans hFT)), (congrArg Prod.snd (HE.symm.trans hFT)), (o22_197 l1 u1 l2 u2 c_12 qh_23 c_24), (o22_198 l1 u1 l2 u2 c_12 qh_23 c_24)⟩ dX5_bounded_37
  · -- 5
    replace HE : FT = g3_X5_boundedb (xso SC ad ws0) := HE.trans (if_neg (o22_140 e_6 c_7))
    refine lv_aload_n C0.1 C0.2.1 dX5_bounded_8 rfl (lv_at hl 0 rfl) ?_
    refine y_c1 (n := 2) C0 (by decide) dX5_bounded_9 (fun v_40 e_41 => ?_)
    refine y_cv h (y_rV (As := [.int v_40]) (rest := []) C0 hZ h (c_X5_fail l G Z ad _ h.2 v_40) k_X5_fail q_628 q_3 q_626 kSC_77 rfl rfl rfl hl.1 rfl rfl (Nat.le_of_ble_eq_true rfl) dX5_bounded_10 ⟨Nat.le_of_ble_eq_true rfl, Nat.le_of_ble_eq_true rfl⟩ ⟨Nat.le_of_ble_eq_true rfl, Nat.le_of_ble_eq_true rfl⟩) (fun H locs ws_42 h u_43 p_44 => ?_)
    have e_45 := p_44
    replace HE : FT = g13c_X5_boundedb (xso SC ad ws_42) := HE.trans (by rw [e_45, e_41]; rfl)
    refine lv_iload_n C0.1 C0.2.1 dX5_bounded_13 rfl (lv_at hl 1 rfl) ?_
    replace HE : FT = ((xso SC ad ws_42), a1.toInt) := HE.trans (by rw [(o22_157 l1 u1)]; rfl)
    rw [hQ]
    exact y_iret C0 h u_43 ⟨(congrArg Prod.fst (HE.symm.trans hFT)), (congrArg Prod.snd (HE.symm.trans hFT)), (o22_171 l1 u1), (o22_199 l1 u1)⟩ dX5_bounded_14
